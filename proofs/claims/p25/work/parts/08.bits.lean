/-! LONGS by their integers: shifts, masks, tones. -/
abbrev B63 (z : Int) : Prop := -9223372036854775808 ≤ z ∧ z < 9223372036854775808
theorem l2_toInt {z : Int} (h : B63 z) : (l2 z).toInt = z := Int64.toInt_ofInt_of_le (by have := h.1; omega) (by have := h.2; omega)
theorem l2_of (x : Int64) : l2 x.toInt = x := Int64.ofInt_toInt x
theorem l2_rng (x : Int64) : B63 x.toInt := ⟨by have := Int64.le_toInt x; omega, by have := Int64.toInt_lt x; omega⟩
theorem l2_eq {a b : Int} (ha : B63 a) (hb : B63 b) : l2 a = l2 b ↔ a = b := by rw [← Int64.toInt_inj, l2_toInt ha, l2_toInt hb]
theorem l2_lt {a b : Int} (ha : B63 a) (hb : B63 b) : l2 a < l2 b ↔ a < b := by rw [Int64.lt_iff_toInt_lt, l2_toInt ha, l2_toInt hb]
theorem l2_cmp {a b : Int} (ha : B63 a) (hb : B63 b) : lg_cmp (l2 a) (l2 b) = z2 (if b < a then 1 else if a = b then 0 else -1) := by
  unfold lg_cmp
  by_cases h1 : b < a
  · rw [if_pos ((l2_lt hb ha).mpr h1), if_pos h1]
    decide +kernel
  · rw [if_neg (fun q => h1 ((l2_lt hb ha).mp q)), if_neg h1]
    by_cases h2 : a = b
    · rw [if_pos ((l2_eq ha hb).mpr h2), if_pos h2]
      decide +kernel
    · rw [if_neg (fun q => h2 ((l2_eq ha hb).mp q)), if_neg h2]
      decide +kernel
theorem l2_z2 (z : Int) : (l2 z).toInt32 = z2 z := Int64.toInt32_ofInt
theorem z2_l2 {z : Int} (h : B31 z) : (z2 z).toInt64 = l2 z := Int32.toInt64_ofInt (by show (-2147483648 : Int) ≤ z; omega) (by show z ≤ (2147483647 : Int); omega)
theorem l2_k : ∀ k : Nat, k < 64 → (((z2 (k : Nat)).toInt64 &&& 63).toBitVec.smod 64).toNat = k := by decide +kernel
theorem l2_shr {x : Int} {k : Nat} (h0 : 0 ≤ x) (h1 : x < 9223372036854775808) (hk : k < 64) : l2 x >>> ((z2 (k : Nat)).toInt64 &&& 63) = l2 (x / 2 ^ k) := by
  have hd : x / 2 ^ k ≤ x := Int.ediv_le_self _ h0
  have hp : (0 : Int) < 2 ^ k := Int.pow_pos (by decide)
  have hd0 : 0 ≤ x / 2 ^ k := Int.ediv_nonneg h0 (Int.le_of_lt hp)
  apply Int64.toInt_inj.mp
  have e : (l2 x >>> ((z2 (k : Nat)).toInt64 &&& 63)).toInt = (l2 x).toInt >>> k := by
    conv => rhs; rw [← l2_k k hk]
    exact BitVec.toInt_sshiftRight ..
  rw [e, Int.shiftRight_eq_div_pow, l2_toInt ⟨by omega, h1⟩, l2_toInt ⟨by omega, by omega⟩]
  simp
theorem l2_nat (n : Nat) : l2 (n : Nat) = Int64.ofNat n := Int64.ofInt_eq_ofNat
theorem u64_tn {n : Nat} (h : n < 18446744073709551616) : (UInt64.ofNat n).toNat = n := by
  show (BitVec.ofNat 64 n).toNat = n
  rw [BitVec.toNat_ofNat, Nat.mod_eq_of_lt (by omega)]
theorem l2_shl4 (n : Nat) : l2 (n : Nat) <<< ((z2 4).toInt64 &&& 63) = l2 ((16 * n : Nat) : Int) := by
  rw [l2_nat, l2_nat]
  apply Int64.toBitVec_inj.mp
  have h4 : ((z2 4).toInt64 &&& 63).toBitVec.smod 64 = BitVec.ofNat 64 4 := by decide +kernel
  rw [Int64.toBitVec_shiftLeft, h4]
  apply BitVec.eq_of_toNat_eq
  show ((BitVec.ofNat 64 n) <<< (BitVec.ofNat 64 4)).toNat = (BitVec.ofNat 64 (16 * n)).toNat
  rw [BitVec.shiftLeft_eq', BitVec.toNat_shiftLeft, BitVec.toNat_ofNat, BitVec.toNat_ofNat, BitVec.toNat_ofNat, Nat.shiftLeft_eq]
  show n % 18446744073709551616 * 16 % 18446744073709551616 = 16 * n % 18446744073709551616
  omega
theorem l2_or (n a : Nat) (ha : a < 16) (h : 16 * n + a < 18446744073709551616) : l2 ((16 * n : Nat) : Int) ||| l2 (a : Nat) = l2 ((16 * n + a : Nat) : Int) := by
  rw [l2_nat, l2_nat, l2_nat]
  have h1 : 16 * n ||| a = 16 * n + a := by
    rw [Nat.mul_comm, show (16 : Nat) = 2 ^ 4 from rfl, ← Nat.shiftLeft_eq, Nat.shiftLeft_add_eq_or_of_lt (by omega)]
  have h3 : UInt64.ofNat (16 * n) ||| UInt64.ofNat a = UInt64.ofNat (16 * n + a) := UInt64.toNat_inj.mp (by rw [UInt64.toNat_or, u64_tn (by omega), u64_tn (by omega), u64_tn h, h1])
  exact congrArg UInt64.toInt64 h3
theorem z2_and15 (x : Int) : z2 x &&& z2 15 = z2 (x % 16) := by
  apply Int32.toBitVec_inj.mp
  have e1 : (z2 x).toBitVec = BitVec.ofInt 32 x := rfl
  have e2 : (z2 (x % 16)).toBitVec = BitVec.ofInt 32 (x % 16) := rfl
  have e3 : (z2 15).toBitVec = 15#32 := by decide +kernel
  rw [Int32.toBitVec_and, e1, e2, e3]
  apply BitVec.eq_of_toNat_eq
  rw [BitVec.toNat_and, BitVec.toNat_ofInt, BitVec.toNat_ofInt]
  show (x % 4294967296).toNat &&& 2 ^ 4 - 1 = (x % 16 % 4294967296).toNat
  rw [Nat.and_two_pow_sub_one_eq_mod]
  omega
theorem l2_and15 (x : Int) : l2 x &&& l2 15 = l2 (x % 16) := by
  apply Int64.toBitVec_inj.mp
  have e1 : (l2 x).toBitVec = BitVec.ofInt 64 x := rfl
  have e2 : (l2 (x % 16)).toBitVec = BitVec.ofInt 64 (x % 16) := rfl
  have e3 : (l2 15).toBitVec = 15#64 := by decide +kernel
  rw [Int64.toBitVec_and, e1, e2, e3]
  apply BitVec.eq_of_toNat_eq
  rw [BitVec.toNat_and, BitVec.toNat_ofInt, BitVec.toNat_ofInt]
  show (x % 18446744073709551616).toNat &&& 2 ^ 4 - 1 = (x % 16 % 18446744073709551616).toNat
  rw [Nat.and_two_pow_sub_one_eq_mod]
  omega
/-! tones: the p-th of t; those of t shifted by b, and turned, the last k, the first k -/
def toS (t : Int) (q : Nat) : Int := t / 16 ^ q % 16
def shR (t b : Int) (n : Nat) : Nat → Int
  | 0 => 0
  | k + 1 => 16 * shR t b n k + (toS t (n - 1 - k) + b) % 16
def tuR (t : Int) : Nat → Int
  | 0 => 0
  | k + 1 => 16 * tuR t k + toS t k
theorem toS_b (t : Int) (q : Nat) : 0 ≤ toS t q ∧ toS t q < 16 := ⟨Int.emod_nonneg _ (by decide), Int.emod_lt_of_pos _ (by decide)⟩
theorem shR_b (t b : Int) (n : Nat) : ∀ k : Nat, 0 ≤ shR t b n k ∧ shR t b n k < 16 ^ k := by
  intro k
  induction k with
  | zero => exact ⟨Int.le_refl _, Int.zero_lt_one⟩
  | succ k ih =>
    have h1 : 0 ≤ (toS t (n - 1 - k) + b) % 16 := Int.emod_nonneg _ (by decide)
    have h2 : (toS t (n - 1 - k) + b) % 16 < 16 := Int.emod_lt_of_pos _ (by decide)
    unfold shR
    rw [Int.pow_succ]
    omega
theorem tuR_b (t : Int) : ∀ k : Nat, 0 ≤ tuR t k ∧ tuR t k < 16 ^ k := by
  intro k
  induction k with
  | zero => exact ⟨Int.le_refl _, Int.zero_lt_one⟩
  | succ k ih =>
    have h1 := toS_b t k
    unfold tuR
    rw [Int.pow_succ]
    omega
theorem p16 {k : Nat} (h : k ≤ 12) : (16 : Int) ^ k ≤ 281474976710656 := by
  have h2 : (16 : Nat) ^ k ≤ 16 ^ 12 := Nat.pow_le_pow_right (by decide) h
  have h3 : ((16 ^ k : Nat) : Int) = (16 : Int) ^ k := Int.natCast_pow 16 k
  rw [← h3]
  have h4 : (16 : Nat) ^ 12 = 281474976710656 := by decide
  omega
theorem p16_2 (q : Nat) : (2 : Int) ^ (4 * q) = 16 ^ q := by rw [Int.pow_mul]; rfl
/-- a digit more at the end, in longs -/
theorem l2_dig {r d : Int} (hr : 0 ≤ r ∧ r < 281474976710656) (hd : 0 ≤ d ∧ d < 16) : (l2 r <<< ((z2 4).toInt64 &&& 63)) ||| l2 d = l2 (16 * r + d) := by
  obtain ⟨n, rfl⟩ : ∃ n : Nat, r = n := ⟨r.toNat, by omega⟩
  obtain ⟨a, rfl⟩ : ∃ a : Nat, d = a := ⟨d.toNat, by omega⟩
  rw [l2_shl4, l2_or n a (by omega) (by omega)]
  congr 1
/-- the tone q of t, by '>>' and '& 15' -/
theorem l2_tone {t : Int} {q : Nat} (ht : 0 ≤ t ∧ t < 9223372036854775808) (hq : q < 16) : l2 t >>> ((z2 ((4 * q : Nat) : Int)).toInt64 &&& 63) = l2 (t / 16 ^ q) := by
  rw [l2_shr ht.1 ht.2 (by omega), p16_2]
theorem b_topl {p : Program} {l : Launch} {e : Env} {R : Room} {s : State} {m : MethodId} {args : Array Value} {below : List Frame} {meth : Method} {c : Code} {H : Heap} {locs : List Loc} {cells slots : Nat} {Q : State → Prop} {pc : Nat} {ls : Array Slot} {rest : List Value} {x : Int64} {v : Int} (h : x = l2 v) (k : W p l e R s m args below meth c H locs cells slots Q (F0 m pc ls (.long (l2 v) :: rest))) : W p l e R s m args below meth c H locs cells slots Q (F0 m pc ls (.long x :: rest)) := by
  rw [h]
  exact k
