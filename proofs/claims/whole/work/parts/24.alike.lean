/-! the digits of melodies -/
theorem dig_0 (r d : Int) (hd : 0 ≤ d ∧ d < 16) : toS (16 * r + d) 0 = d := by
  unfold toS
  rw [show (16 : Int) ^ 0 = 1 from rfl]
  omega
theorem dig_s (r d : Int) (hd : 0 ≤ d ∧ d < 16) (j : Nat) : toS (16 * r + d) (j + 1) = toS r j := by
  unfold toS
  have e : (16 * r + d) / 16 ^ (j + 1) = r / 16 ^ j := by
    rw [Int.pow_succ, Int.mul_comm (16 ^ j) 16, ← Int.ediv_ediv_of_nonneg (by decide)]
    congr 1
    omega
  rw [e]
theorem sh_dig (t b : Int) (n : Nat) : ∀ k : Nat, k ≤ n → ∀ j : Nat, j < k → toS (shR t b n k) j = (toS t (n - k + j) + b) % 16 := by
  intro k
  induction k with
  | zero => intro _ j hj; omega
  | succ k ih =>
    intro hk j hj
    have hd : 0 ≤ (toS t (n - 1 - k) + b) % 16 ∧ (toS t (n - 1 - k) + b) % 16 < 16 := ⟨Int.emod_nonneg _ (by decide), Int.emod_lt_of_pos _ (by decide)⟩
    cases j with
    | zero =>
      rw [shR, dig_0 _ _ hd]
      have e : n - (k + 1) + 0 = n - 1 - k := by omega
      rw [e]
    | succ j =>
      rw [shR, dig_s _ _ hd, ih (by omega) j (by omega)]
      have e : n - (k + 1) + (j + 1) = n - k + j := by omega
      rw [e]
theorem dig_ext : ∀ (c : Nat) (a b : Int), (0 ≤ a ∧ a < 16 ^ c) → (0 ≤ b ∧ b < 16 ^ c) → (∀ j : Nat, j < c → toS a j = toS b j) → a = b := by
  intro c
  induction c with
  | zero =>
    intro a b ha hb _
    rw [show (16 : Int) ^ 0 = 1 from rfl] at ha hb
    omega
  | succ c ih =>
    intro a b ha hb h
    rw [Int.pow_succ] at ha hb
    have h0 := h 0 (by omega)
    unfold toS at h0
    rw [show (16 : Int) ^ 0 = 1 from rfl] at h0
    have h1 : a / 16 = b / 16 := by
      refine ih (a / 16) (b / 16) ⟨by omega, by omega⟩ ⟨by omega, by omega⟩ (fun j hj => ?_)
      have h2 := h (j + 1) (by omega)
      have ea : a = 16 * (a / 16) + a % 16 := by omega
      have eb : b = 16 * (b / 16) + b % 16 := by omega
      rw [ea, eb, dig_s _ _ ⟨Int.emod_nonneg _ (by decide), Int.emod_lt_of_pos _ (by decide)⟩, dig_s _ _ ⟨Int.emod_nonneg _ (by decide), Int.emod_lt_of_pos _ (by decide)⟩] at h2
      exact h2
    omega
theorem al_iff (S : Nat → Nat → Int) (a b : Nat) : ∀ m : Nat, alM S a b m = 1 ↔ ∀ j : Nat, j < m → (toS (S 4 a) (j + 1) - toS (S 4 b) (j + 1) - toS (S 4 a) 0 + toS (S 4 b) 0) % 16 = 0 := by
  intro m
  induction m with
  | zero => exact ⟨fun _ j hj => by omega, fun _ => rfl⟩
  | succ m ih =>
    have hb := alM_b S a b m
    unfold alM
    constructor
    · intro h j hj
      split at h
      · rename_i q
        by_cases hjm : j = m
        · rw [hjm]
          exact q.2
        · exact ih.mp (by omega) j (by omega)
      · omega
    · intro h
      have h1 := ih.mpr (fun j hj => h j (by omega))
      rw [if_pos ⟨by omega, h m (by omega)⟩]
/-- isShiftOf is areAlike -/
theorem alike {X S : Nat → Nat → Int} (h : RelA X S) (hV : VX X) {k o : Nat} (hk : (k : Int) < X 4 0) (ho : (o : Int) < X 4 0) :
    isS X k o = if S 3 k = S 3 o then alM S k o ((S 3 k).toNat - 1) else 0 := by
  have ek := h.2.1 k hk
  have eo := h.2.1 o ho
  have bk : 1 ≤ X 37 k ∧ X 37 k ≤ 12 := hV.1 37 _ rfl
  have vk := hV.2.2 k
  have vo := hV.2.2 o
  rw [ek.2.1, eo.2.1]
  unfold isS
  by_cases hc : X 37 k = X 37 o
  · rw [if_pos hc]
    obtain ⟨c, hcn⟩ : ∃ c : Nat, X 37 k = (c + 1 : Nat) := ⟨(X 37 k - 1).toNat, by omega⟩
    have e1 : (X 37 o).toNat = c + 1 := by omega
    have e2 : (X 37 k).toNat = c + 1 := by omega
    rw [e1, e2]
    rw [e2] at vk
    rw [e1] at vo
    generalize hby : (toS (X 38 k) 0 - toS (X 38 o) 0) % 16 = w
    have key : X 38 k = shR (X 38 o) w (c + 1) (c + 1) ↔ alM S k o (c + 1 - 1) = 1 := by
      rw [al_iff, ek.2.2, eo.2.2]
      have d0 := toS_b (X 38 k) 0
      have g0 := toS_b (X 38 o) 0
      constructor
      · intro he j hj
        have h2 := sh_dig (X 38 o) w (c + 1) (c + 1) (Nat.le_refl _) (j + 1) (by omega)
        rw [← he, Nat.sub_self, Nat.zero_add] at h2
        have d1 := toS_b (X 38 k) (j + 1)
        have g1 := toS_b (X 38 o) (j + 1)
        omega
      · intro hj
        refine dig_ext (c + 1) _ _ vk (shR_b _ _ _ _) (fun j hjc => ?_)
        rw [sh_dig (X 38 o) w (c + 1) (c + 1) (Nat.le_refl _) j hjc, Nat.sub_self, Nat.zero_add]
        cases j with
        | zero => omega
        | succ j =>
          have h2 := hj j (by omega)
          have d1 := toS_b (X 38 k) (j + 1)
          have g1 := toS_b (X 38 o) (j + 1)
          omega
    have hb := alM_b S k o (c + 1 - 1)
    by_cases hq : X 38 k = shR (X 38 o) w (c + 1) (c + 1)
    · rw [if_pos ⟨hc, hq⟩]
      exact (key.mp hq).symm
    · rw [if_neg (fun q => hq q.2)]
      have : ¬ alM S k o (c + 1 - 1) = 1 := fun q => hq (key.mpr q)
      omega
  · rw [if_neg hc, if_neg (fun q => hc q.1)]
