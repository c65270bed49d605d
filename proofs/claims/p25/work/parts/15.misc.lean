/-! PURE: melodies told, bits, the first state. -/
theorem dig_0 (r d : Int) (hd : 0 ≤ d ∧ d < 16) : toS (16 * r + d) 0 = d := by
  unfold toS
  rw [show (16 : Int) ^ 0 = 1 from rfl]
  omega
theorem dig_s (r d : Int) (hd : 0 ≤ d ∧ d < 16) (j : Nat) : toS (16 * r + d) (j + 1) = toS r j := by
  unfold toS
  have e : (16 * r + d) / 16 ^ (j + 1) = r / 16 ^ j := by
    rw [Int.pow_succ, Int.mul_comm (16 ^ j) 16, ← Int.ediv_ediv_of_nonneg (by decide)]
    congr 1
    omega
  rw [e]
theorem sh_dig (t b : Int) (n : Nat) : ∀ k : Nat, k ≤ n → ∀ j : Nat, j < k → toS (shR t b n k) j = (toS t (n - k + j) + b) % 16 := by
  intro k
  induction k with
  | zero => intro _ j hj; omega
  | succ k ih =>
    intro hk j hj
    have hd : 0 ≤ (toS t (n - 1 - k) + b) % 16 ∧ (toS t (n - 1 - k) + b) % 16 < 16 := ⟨Int.emod_nonneg _ (by decide), Int.emod_lt_of_pos _ (by decide)⟩
    cases j with
    | zero =>
      rw [shR, dig_0 _ _ hd]
      have e : n - (k + 1) + 0 = n - 1 - k := by omega
      rw [e]
    | succ j =>
      rw [shR, dig_s _ _ hd, ih (by omega) j (by omega)]
      have e : n - (k + 1) + (j + 1) = n - k + j := by omega
      rw [e]
theorem dig_ext : ∀ (c : Nat) (a b : Int), (0 ≤ a ∧ a < 16 ^ c) → (0 ≤ b ∧ b < 16 ^ c) → (∀ j : Nat, j < c → toS a j = toS b j) → a = b := by
  intro c
  induction c with
  | zero =>
    intro a b ha hb _
    rw [show (16 : Int) ^ 0 = 1 from rfl] at ha hb
    omega
  | succ c ih =>
    intro a b ha hb h
    rw [Int.pow_succ] at ha hb
    have h0 := h 0 (by omega)
    unfold toS at h0
    rw [show (16 : Int) ^ 0 = 1 from rfl] at h0
    have h1 : a / 16 = b / 16 := by
      refine ih (a / 16) (b / 16) ⟨by omega, by omega⟩ ⟨by omega, by omega⟩ (fun j hj => ?_)
      have h2 := h (j + 1) (by omega)
      have ea : a = 16 * (a / 16) + a % 16 := by omega
      have eb : b = 16 * (b / 16) + b % 16 := by omega
      rw [ea, eb, dig_s _ _ ⟨Int.emod_nonneg _ (by decide), Int.emod_lt_of_pos _ (by decide)⟩, dig_s _ _ ⟨Int.emod_nonneg _ (by decide), Int.emod_lt_of_pos _ (by decide)⟩] at h2
      exact h2
    omega
theorem sh_tone {t b : Int} {n j : Nat} (hj : j < n) : toS (shR t b n n) j = (toS t j + b) % 16 := by
  rw [sh_dig t b n n (Nat.le_refl _) j hj]
  congr 3
  omega
theorem sh_0 {t : Int} {n : Nat} (ht : 0 ≤ t ∧ t < 16 ^ n) : shR t 0 n n = t := dig_ext n _ _ (shR_b t 0 n n) ht (fun j hj => by
  have b := toS_b t j
  rw [sh_tone hj]
  omega)
theorem is_self {X : Nat → Nat → Int} (hV : VX X) (k : Nat) : isS X k k = 1 := by
  unfold isS
  have e : (toS (X 38 k) 0 - toS (X 38 k) 0) % 16 = 0 := by omega
  rw [e, sh_0 (hV.2.2 k)]
  exact if_pos ⟨rfl, rfl⟩
theorem rs_b (X : Nat → Nat → Int) (n : Nat) : 0 ≤ rsS X n ∧ rsS X n ≤ 7 := by
  unfold rsS
  (repeat' split) <;> omega
theorem bt_0 : ∀ r : Nat, r < 8 → ∀ b : Nat, b < 3 → r / 2 ^ b % 2 = 0 → (z2 (r : Nat)) >>> (z2 (b : Nat) &&& 31) &&& z2 1 = z2 0 := by decide +kernel
theorem bt_1 : ∀ r : Nat, r < 8 → ∀ b : Nat, b < 3 → r / 2 ^ b % 2 = 0 → z2 (r : Nat) ||| (z2 1 <<< (z2 (b : Nat) &&& 31)) = z2 ((r + 2 ^ b : Nat) : Int) := by decide +kernel
theorem bt_2 : ∀ r : Nat, r < 8 → z2 (r : Nat) &&& z2 1 = z2 ((r % 2 : Nat) : Int) ∧ (z2 (r : Nat) >>> (z2 1 &&& 31)) &&& z2 1 = z2 ((r / 2 % 2 : Nat) : Int) ∧ (z2 (r : Nat) >>> (z2 2 &&& 31)) &&& z2 1 = z2 ((r / 4 % 2 : Nat) : Int) := by decide +kernel
theorem rs_nat (X : Nat → Nat → Int) (n : Nat) : ∃ r : Nat, rsS X n = (r : Nat) ∧ r < 8 ∧ r / 2 ^ 0 % 2 = (if X 32 (3 * n + 0) = 0 then 0 else 1) ∧ r / 2 ^ 1 % 2 = (if X 32 (3 * n + 1) = 0 then 0 else 1) ∧ r / 2 ^ 2 % 2 = (if X 32 (3 * n + 2) = 0 then 0 else 1) ∧ cn X n = ((r % 2 + r / 2 % 2 + r / 4 % 2 : Nat) : Int) := by
  unfold rsS cn
  by_cases h0 : X 32 (3 * n + 0) = 0
  · by_cases h1 : X 32 (3 * n + 1) = 0
    · by_cases h2 : X 32 (3 * n + 2) = 0
      · exact ⟨0, by simp only [h0, h1, h2]; decide⟩
      · exact ⟨4, by simp only [h0, h1, h2]; decide⟩
    · by_cases h2 : X 32 (3 * n + 2) = 0
      · exact ⟨2, by simp only [h0, h1, h2]; decide⟩
      · exact ⟨6, by simp only [h0, h1, h2]; decide⟩
  · by_cases h1 : X 32 (3 * n + 1) = 0
    · by_cases h2 : X 32 (3 * n + 2) = 0
      · exact ⟨1, by simp only [h0, h1, h2]; decide⟩
      · exact ⟨5, by simp only [h0, h1, h2]; decide⟩
    · by_cases h2 : X 32 (3 * n + 2) = 0
      · exact ⟨3, by simp only [h0, h1, h2]; decide⟩
      · exact ⟨7, by simp only [h0, h1, h2]; decide⟩
theorem bit_0 {X : Nat → Nat → Int} {n b : Nat} (hb : b < 3) (h : X 32 (3 * n + b) = 0) : z2 (rsS X n) >>> (z2 (b : Nat) &&& 31) &&& z2 1 = z2 0 := by
  obtain ⟨r, e, hr, e0, e1, e2, -⟩ := rs_nat X n
  rw [e]
  refine bt_0 r hr b hb ?_
  have hc : b = 0 ∨ b = 1 ∨ b = 2 := by omega
  rcases hc with rfl | rfl | rfl
  · rw [e0, if_pos h]
  · rw [e1, if_pos h]
  · rw [e2, if_pos h]
theorem bit_1 {X Y : Nat → Nat → Int} {n b : Nat} (hb : b < 3) (h : X 32 (3 * n + b) = 0) (hY : Y 32 (3 * n + b) = 1) (ho : ∀ i : Nat, i ≠ 3 * n + b → Y 32 i = X 32 i) : z2 (rsS X n) ||| (z2 1 <<< (z2 (b : Nat) &&& 31)) = z2 (rsS Y n) := by
  obtain ⟨r, e, hr, e0, e1, e2, -⟩ := rs_nat X n
  have hc : b = 0 ∨ b = 1 ∨ b = 2 := by omega
  have hz : r / 2 ^ b % 2 = 0 := by
    rcases hc with rfl | rfl | rfl
    · rw [e0, if_pos h]
    · rw [e1, if_pos h]
    · rw [e2, if_pos h]
  have hs : rsS Y n = rsS X n + (2 ^ b : Nat) := by
    unfold rsS
    rcases hc with rfl | rfl | rfl
    · rw [ho (3 * n + 1) (by omega), ho (3 * n + 2) (by omega), hY, h]
      simp
      omega
    · rw [ho (3 * n + 0) (by omega), ho (3 * n + 2) (by omega), hY, h]
      simp
      omega
    · rw [ho (3 * n + 0) (by omega), ho (3 * n + 1) (by omega), hY, h]
      simp
  rw [hs, e, bt_1 r hr b hb hz]
  congr 1
theorem z2_and31b (x : Int) : z2 x &&& z2 2147483647 = z2 (x % 2147483648) := by
  apply Int32.toBitVec_inj.mp
  have e1 : (z2 x).toBitVec = BitVec.ofInt 32 x := rfl
  have e2 : (z2 (x % 2147483648)).toBitVec = BitVec.ofInt 32 (x % 2147483648) := rfl
  have e3 : (z2 2147483647).toBitVec = 2147483647#32 := by decide +kernel
  rw [Int32.toBitVec_and, e1, e2, e3]
  apply BitVec.eq_of_toNat_eq
  rw [BitVec.toNat_and, BitVec.toNat_ofInt, BitVec.toNat_ofInt]
  show (x % 4294967296).toNat &&& 2 ^ 31 - 1 = (x % 2147483648 % 4294967296).toNat
  rw [Nat.and_two_pow_sub_one_eq_mod]
  omega
theorem l2_m1 (x : Int) : l2 x &&& l2 15 = l2 (x % 16) := by
  apply Int64.toBitVec_inj.mp
  have e1 : (l2 x).toBitVec = BitVec.ofInt 64 x := rfl
  have e2 : (l2 (x % 16)).toBitVec = BitVec.ofInt 64 (x % 16) := rfl
  have e3 : (l2 15).toBitVec = 15#64 := by decide +kernel
  rw [Int64.toBitVec_and, e1, e2, e3]
  apply BitVec.eq_of_toNat_eq
  rw [BitVec.toNat_and, BitVec.toNat_ofInt, BitVec.toNat_ofInt]
  show (x % 18446744073709551616).toNat &&& 2 ^ 4 - 1 = (x % 16 % 18446744073709551616).toNat
  rw [Nat.and_two_pow_sub_one_eq_mod]
  omega
theorem l2_m2 (x : Int) : l2 x &&& l2 255 = l2 (x % 256) := by
  apply Int64.toBitVec_inj.mp
  have e1 : (l2 x).toBitVec = BitVec.ofInt 64 x := rfl
  have e2 : (l2 (x % 256)).toBitVec = BitVec.ofInt 64 (x % 256) := rfl
  have e3 : (l2 255).toBitVec = 255#64 := by decide +kernel
  rw [Int64.toBitVec_and, e1, e2, e3]
  apply BitVec.eq_of_toNat_eq
  rw [BitVec.toNat_and, BitVec.toNat_ofInt, BitVec.toNat_ofInt]
  show (x % 18446744073709551616).toNat &&& 2 ^ 8 - 1 = (x % 256 % 18446744073709551616).toNat
  rw [Nat.and_two_pow_sub_one_eq_mod]
  omega
theorem l2_m3 (x : Int) : l2 x &&& l2 4095 = l2 (x % 4096) := by
  apply Int64.toBitVec_inj.mp
  have e1 : (l2 x).toBitVec = BitVec.ofInt 64 x := rfl
  have e2 : (l2 (x % 4096)).toBitVec = BitVec.ofInt 64 (x % 4096) := rfl
  have e3 : (l2 4095).toBitVec = 4095#64 := by decide +kernel
  rw [Int64.toBitVec_and, e1, e2, e3]
  apply BitVec.eq_of_toNat_eq
  rw [BitVec.toNat_and, BitVec.toNat_ofInt, BitVec.toNat_ofInt]
  show (x % 18446744073709551616).toNat &&& 2 ^ 12 - 1 = (x % 4096 % 18446744073709551616).toNat
  rw [Nat.and_two_pow_sub_one_eq_mod]
  omega
theorem l2_m4 (x : Int) : l2 x &&& l2 65535 = l2 (x % 65536) := by
  apply Int64.toBitVec_inj.mp
  have e1 : (l2 x).toBitVec = BitVec.ofInt 64 x := rfl
  have e2 : (l2 (x % 65536)).toBitVec = BitVec.ofInt 64 (x % 65536) := rfl
  have e3 : (l2 65535).toBitVec = 65535#64 := by decide +kernel
  rw [Int64.toBitVec_and, e1, e2, e3]
  apply BitVec.eq_of_toNat_eq
  rw [BitVec.toNat_and, BitVec.toNat_ofInt, BitVec.toNat_ofInt]
  show (x % 18446744073709551616).toNat &&& 2 ^ 16 - 1 = (x % 65536 % 18446744073709551616).toNat
  rw [Nat.and_two_pow_sub_one_eq_mod]
  omega
theorem l2_m5 (x : Int) : l2 x &&& l2 1048575 = l2 (x % 1048576) := by
  apply Int64.toBitVec_inj.mp
  have e1 : (l2 x).toBitVec = BitVec.ofInt 64 x := rfl
  have e2 : (l2 (x % 1048576)).toBitVec = BitVec.ofInt 64 (x % 1048576) := rfl
  have e3 : (l2 1048575).toBitVec = 1048575#64 := by decide +kernel
  rw [Int64.toBitVec_and, e1, e2, e3]
  apply BitVec.eq_of_toNat_eq
  rw [BitVec.toNat_and, BitVec.toNat_ofInt, BitVec.toNat_ofInt]
  show (x % 18446744073709551616).toNat &&& 2 ^ 20 - 1 = (x % 1048576 % 18446744073709551616).toNat
  rw [Nat.and_two_pow_sub_one_eq_mod]
  omega
theorem l2_m6 (x : Int) : l2 x &&& l2 16777215 = l2 (x % 16777216) := by
  apply Int64.toBitVec_inj.mp
  have e1 : (l2 x).toBitVec = BitVec.ofInt 64 x := rfl
  have e2 : (l2 (x % 16777216)).toBitVec = BitVec.ofInt 64 (x % 16777216) := rfl
  have e3 : (l2 16777215).toBitVec = 16777215#64 := by decide +kernel
  rw [Int64.toBitVec_and, e1, e2, e3]
  apply BitVec.eq_of_toNat_eq
  rw [BitVec.toNat_and, BitVec.toNat_ofInt, BitVec.toNat_ofInt]
  show (x % 18446744073709551616).toNat &&& 2 ^ 24 - 1 = (x % 16777216 % 18446744073709551616).toNat
  rw [Nat.and_two_pow_sub_one_eq_mod]
  omega
theorem l2_m7 (x : Int) : l2 x &&& l2 268435455 = l2 (x % 268435456) := by
  apply Int64.toBitVec_inj.mp
  have e1 : (l2 x).toBitVec = BitVec.ofInt 64 x := rfl
  have e2 : (l2 (x % 268435456)).toBitVec = BitVec.ofInt 64 (x % 268435456) := rfl
  have e3 : (l2 268435455).toBitVec = 268435455#64 := by decide +kernel
  rw [Int64.toBitVec_and, e1, e2, e3]
  apply BitVec.eq_of_toNat_eq
  rw [BitVec.toNat_and, BitVec.toNat_ofInt, BitVec.toNat_ofInt]
  show (x % 18446744073709551616).toNat &&& 2 ^ 28 - 1 = (x % 268435456 % 18446744073709551616).toNat
  rw [Nat.and_two_pow_sub_one_eq_mod]
  omega
theorem l2_m8 (x : Int) : l2 x &&& l2 4294967295 = l2 (x % 4294967296) := by
  apply Int64.toBitVec_inj.mp
  have e1 : (l2 x).toBitVec = BitVec.ofInt 64 x := rfl
  have e2 : (l2 (x % 4294967296)).toBitVec = BitVec.ofInt 64 (x % 4294967296) := rfl
  have e3 : (l2 4294967295).toBitVec = 4294967295#64 := by decide +kernel
  rw [Int64.toBitVec_and, e1, e2, e3]
  apply BitVec.eq_of_toNat_eq
  rw [BitVec.toNat_and, BitVec.toNat_ofInt, BitVec.toNat_ofInt]
  show (x % 18446744073709551616).toNat &&& 2 ^ 32 - 1 = (x % 4294967296 % 18446744073709551616).toNat
  rw [Nat.and_two_pow_sub_one_eq_mod]
  omega
theorem l2_m9 (x : Int) : l2 x &&& l2 68719476735 = l2 (x % 68719476736) := by
  apply Int64.toBitVec_inj.mp
  have e1 : (l2 x).toBitVec = BitVec.ofInt 64 x := rfl
  have e2 : (l2 (x % 68719476736)).toBitVec = BitVec.ofInt 64 (x % 68719476736) := rfl
  have e3 : (l2 68719476735).toBitVec = 68719476735#64 := by decide +kernel
  rw [Int64.toBitVec_and, e1, e2, e3]
  apply BitVec.eq_of_toNat_eq
  rw [BitVec.toNat_and, BitVec.toNat_ofInt, BitVec.toNat_ofInt]
  show (x % 18446744073709551616).toNat &&& 2 ^ 36 - 1 = (x % 68719476736 % 18446744073709551616).toNat
  rw [Nat.and_two_pow_sub_one_eq_mod]
  omega
theorem l2_m10 (x : Int) : l2 x &&& l2 1099511627775 = l2 (x % 1099511627776) := by
  apply Int64.toBitVec_inj.mp
  have e1 : (l2 x).toBitVec = BitVec.ofInt 64 x := rfl
  have e2 : (l2 (x % 1099511627776)).toBitVec = BitVec.ofInt 64 (x % 1099511627776) := rfl
  have e3 : (l2 1099511627775).toBitVec = 1099511627775#64 := by decide +kernel
  rw [Int64.toBitVec_and, e1, e2, e3]
  apply BitVec.eq_of_toNat_eq
  rw [BitVec.toNat_and, BitVec.toNat_ofInt, BitVec.toNat_ofInt]
  show (x % 18446744073709551616).toNat &&& 2 ^ 40 - 1 = (x % 1099511627776 % 18446744073709551616).toNat
  rw [Nat.and_two_pow_sub_one_eq_mod]
  omega
theorem l2_m11 (x : Int) : l2 x &&& l2 17592186044415 = l2 (x % 17592186044416) := by
  apply Int64.toBitVec_inj.mp
  have e1 : (l2 x).toBitVec = BitVec.ofInt 64 x := rfl
  have e2 : (l2 (x % 17592186044416)).toBitVec = BitVec.ofInt 64 (x % 17592186044416) := rfl
  have e3 : (l2 17592186044415).toBitVec = 17592186044415#64 := by decide +kernel
  rw [Int64.toBitVec_and, e1, e2, e3]
  apply BitVec.eq_of_toNat_eq
  rw [BitVec.toNat_and, BitVec.toNat_ofInt, BitVec.toNat_ofInt]
  show (x % 18446744073709551616).toNat &&& 2 ^ 44 - 1 = (x % 17592186044416 % 18446744073709551616).toNat
  rw [Nat.and_two_pow_sub_one_eq_mod]
  omega
theorem l2_m12 (x : Int) : l2 x &&& l2 281474976710655 = l2 (x % 281474976710656) := by
  apply Int64.toBitVec_inj.mp
  have e1 : (l2 x).toBitVec = BitVec.ofInt 64 x := rfl
  have e2 : (l2 (x % 281474976710656)).toBitVec = BitVec.ofInt 64 (x % 281474976710656) := rfl
  have e3 : (l2 281474976710655).toBitVec = 281474976710655#64 := by decide +kernel
  rw [Int64.toBitVec_and, e1, e2, e3]
  apply BitVec.eq_of_toNat_eq
  rw [BitVec.toNat_and, BitVec.toNat_ofInt, BitVec.toNat_ofInt]
  show (x % 18446744073709551616).toNat &&& 2 ^ 48 - 1 = (x % 281474976710656 % 18446744073709551616).toNat
  rw [Nat.and_two_pow_sub_one_eq_mod]
  omega
theorem tn_mask (x : Int64) {c : Nat} (hc : 1 ≤ c ∧ c ≤ 12) : ∃ t : Int, (0 ≤ t ∧ t < 16 ^ c) ∧ x &&& ((l2 1 <<< ((z2 (4 * (c : Int))).toInt64 &&& 63)) - l2 1) = l2 t := by
  have hx : x = l2 x.toInt := (l2_of x).symm
  have h : c = 1 ∨ c = 2 ∨ c = 3 ∨ c = 4 ∨ c = 5 ∨ c = 6 ∨ c = 7 ∨ c = 8 ∨ c = 9 ∨ c = 10 ∨ c = 11 ∨ c = 12 := by omega
  rcases h with rfl | rfl | rfl | rfl | rfl | rfl | rfl | rfl | rfl | rfl | rfl | rfl
  · refine ⟨x.toInt % 16, ⟨Int.emod_nonneg _ (by decide), Int.emod_lt_of_pos _ (by decide)⟩, ?_⟩
    rw [show (l2 1 <<< ((z2 (4 * ((1 : Nat) : Int))).toInt64 &&& 63)) - l2 1 = l2 15 by decide +kernel]
    conv => lhs; rw [hx]
    exact l2_m1 _
  · refine ⟨x.toInt % 256, ⟨Int.emod_nonneg _ (by decide), Int.emod_lt_of_pos _ (by decide)⟩, ?_⟩
    rw [show (l2 1 <<< ((z2 (4 * ((2 : Nat) : Int))).toInt64 &&& 63)) - l2 1 = l2 255 by decide +kernel]
    conv => lhs; rw [hx]
    exact l2_m2 _
  · refine ⟨x.toInt % 4096, ⟨Int.emod_nonneg _ (by decide), Int.emod_lt_of_pos _ (by decide)⟩, ?_⟩
    rw [show (l2 1 <<< ((z2 (4 * ((3 : Nat) : Int))).toInt64 &&& 63)) - l2 1 = l2 4095 by decide +kernel]
    conv => lhs; rw [hx]
    exact l2_m3 _
  · refine ⟨x.toInt % 65536, ⟨Int.emod_nonneg _ (by decide), Int.emod_lt_of_pos _ (by decide)⟩, ?_⟩
    rw [show (l2 1 <<< ((z2 (4 * ((4 : Nat) : Int))).toInt64 &&& 63)) - l2 1 = l2 65535 by decide +kernel]
    conv => lhs; rw [hx]
    exact l2_m4 _
  · refine ⟨x.toInt % 1048576, ⟨Int.emod_nonneg _ (by decide), Int.emod_lt_of_pos _ (by decide)⟩, ?_⟩
    rw [show (l2 1 <<< ((z2 (4 * ((5 : Nat) : Int))).toInt64 &&& 63)) - l2 1 = l2 1048575 by decide +kernel]
    conv => lhs; rw [hx]
    exact l2_m5 _
  · refine ⟨x.toInt % 16777216, ⟨Int.emod_nonneg _ (by decide), Int.emod_lt_of_pos _ (by decide)⟩, ?_⟩
    rw [show (l2 1 <<< ((z2 (4 * ((6 : Nat) : Int))).toInt64 &&& 63)) - l2 1 = l2 16777215 by decide +kernel]
    conv => lhs; rw [hx]
    exact l2_m6 _
  · refine ⟨x.toInt % 268435456, ⟨Int.emod_nonneg _ (by decide), Int.emod_lt_of_pos _ (by decide)⟩, ?_⟩
    rw [show (l2 1 <<< ((z2 (4 * ((7 : Nat) : Int))).toInt64 &&& 63)) - l2 1 = l2 268435455 by decide +kernel]
    conv => lhs; rw [hx]
    exact l2_m7 _
  · refine ⟨x.toInt % 4294967296, ⟨Int.emod_nonneg _ (by decide), Int.emod_lt_of_pos _ (by decide)⟩, ?_⟩
    rw [show (l2 1 <<< ((z2 (4 * ((8 : Nat) : Int))).toInt64 &&& 63)) - l2 1 = l2 4294967295 by decide +kernel]
    conv => lhs; rw [hx]
    exact l2_m8 _
  · refine ⟨x.toInt % 68719476736, ⟨Int.emod_nonneg _ (by decide), Int.emod_lt_of_pos _ (by decide)⟩, ?_⟩
    rw [show (l2 1 <<< ((z2 (4 * ((9 : Nat) : Int))).toInt64 &&& 63)) - l2 1 = l2 68719476735 by decide +kernel]
    conv => lhs; rw [hx]
    exact l2_m9 _
  · refine ⟨x.toInt % 1099511627776, ⟨Int.emod_nonneg _ (by decide), Int.emod_lt_of_pos _ (by decide)⟩, ?_⟩
    rw [show (l2 1 <<< ((z2 (4 * ((10 : Nat) : Int))).toInt64 &&& 63)) - l2 1 = l2 1099511627775 by decide +kernel]
    conv => lhs; rw [hx]
    exact l2_m10 _
  · refine ⟨x.toInt % 17592186044416, ⟨Int.emod_nonneg _ (by decide), Int.emod_lt_of_pos _ (by decide)⟩, ?_⟩
    rw [show (l2 1 <<< ((z2 (4 * ((11 : Nat) : Int))).toInt64 &&& 63)) - l2 1 = l2 17592186044415 by decide +kernel]
    conv => lhs; rw [hx]
    exact l2_m11 _
  · refine ⟨x.toInt % 281474976710656, ⟨Int.emod_nonneg _ (by decide), Int.emod_lt_of_pos _ (by decide)⟩, ?_⟩
    rw [show (l2 1 <<< ((z2 (4 * ((12 : Nat) : Int))).toInt64 &&& 63)) - l2 1 = l2 281474976710655 by decide +kernel]
    conv => lhs; rw [hx]
    exact l2_m12 _
def X0 : Nat → Nat → Int := fun f _ => if f = 14 ∨ f = 22 ∨ f = 31 ∨ f = 37 then 1 else if f = 30 ∨ f = 34 then -1 else 0
theorem lv_new : LV 0 X0 := by
  refine ⟨⟨fun f i hf => ?_, fun i => (show (-1 : Int) < 0 by decide), fun k => (show (0 : Int) ≤ 0 ∧ (0 : Int) < 16 ^ 1 by decide)⟩, ⟨fun i h => absurd rfl h, fun k h => absurd h (show ¬ ((0 : Int) ≤ -1) by decide)⟩, fun k hk => ?_, fun k hk => ?_, ⟨by decide, fun h _ => (show (0 : Int) ≤ 0 by decide)⟩, ⟨by decide, fun h _ => (show (-3 * 0 : Int) ≤ 0 ∧ (0 : Int) ≤ 0 / 1000 by decide)⟩, fun h _ => (show ((0 : Int) ≤ 0 ∧ (0 : Int) ≤ 0 ∧ (0 : Int) ≤ 0) ∧ (0 : Int) ≤ 0 ∧ (0 : Int) ≤ ((0 : Nat) : Int) by decide), fun h b _ _ _ => rfl, (show (0 : Int) ≤ 1100 * ((0 : Nat) : Int) by decide)⟩
  · unfold X0
    by_cases h1 : f = 14 ∨ f = 22 ∨ f = 31 ∨ f = 37
    · rw [if_pos h1]
      rcases h1 with rfl | rfl | rfl | rfl <;> decide
    · rw [if_neg h1]
      by_cases h2 : f = 30 ∨ f = 34
      · rw [if_pos h2]
        rcases h2 with rfl | rfl <;> decide
      · rw [if_neg h2]
        by_cases h3 : f ≤ 38
        · have h4 : f = 0 ∨ f = 1 ∨ f = 2 ∨ f = 3 ∨ f = 4 ∨ f = 5 ∨ f = 6 ∨ f = 7 ∨ f = 8 ∨ f = 9 ∨ f = 10 ∨ f = 11 ∨ f = 12 ∨ f = 13 ∨ f = 14 ∨ f = 15 ∨ f = 16 ∨ f = 17 ∨ f = 18 ∨ f = 19 ∨ f = 20 ∨ f = 21 ∨ f = 22 ∨ f = 23 ∨ f = 24 ∨ f = 25 ∨ f = 26 ∨ f = 27 ∨ f = 28 ∨ f = 29 ∨ f = 30 ∨ f = 31 ∨ f = 32 ∨ f = 33 ∨ f = 34 ∨ f = 35 ∨ f = 36 ∨ f = 37 ∨ f = 38 := by omega
          rcases h4 with rfl | rfl | rfl | rfl | rfl | rfl | rfl | rfl | rfl | rfl | rfl | rfl | rfl | rfl | rfl | rfl | rfl | rfl | rfl | rfl | rfl | rfl | rfl | rfl | rfl | rfl | rfl | rfl | rfl | rfl | rfl | rfl | rfl | rfl | rfl | rfl | rfl | rfl | rfl <;> first | decide | exact absurd hf (by decide) | exact absurd h1 (by decide) | exact absurd h2 (by decide)
        · obtain ⟨g, rfl⟩ : ∃ g : Nat, f = g + 39 := ⟨f - 39, by omega⟩
          exact (show (0 : Int) ≤ 0 ∧ (0 : Int) ≤ 0 by decide)
  · have : ((k : Nat) : Int) < 0 := hk
    omega
  · have : ((k + 1 : Nat) : Int) < 0 := hk
    omega
