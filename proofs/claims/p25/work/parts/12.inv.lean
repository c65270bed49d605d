/-! PURE: what the property says, as an invariant of the class's integers. -/
/-- how many of the first k faults were told of days before d -/
def FO (X : Nat → Nat → Int) (d : Int) : Nat → Int
  | 0 => 0
  | k + 1 => FO X d k + (if X 7 k / 10 < 1000 * d then 1 else 0)
def SU (X : Nat → Nat → Int) (f : Nat) : Nat → Int
  | 0 => 0
  | k + 1 => SU X f k + X f k
def YV (N : Nat) (X : Nat → Nat → Int) : Prop :=
  (∀ k : Nat, (k : Int) < X 5 0 → 0 ≤ X 7 k ∧ X 7 k % 10 < 8 ∧ X 7 k / 10 ≤ X 6 0) ∧
  (∀ k : Nat, ((k + 1 : Nat) : Int) < X 5 0 → X 7 k / 10 ≤ X 7 (k + 1) / 10) ∧
  (SU X 21 8 = X 5 0 - FO X (X 6 0 / 1000) (X 5 0).toNat ∧ ∀ h : Nat, h < 8 → 0 ≤ X 21 h) ∧
  (SU X 17 8 ≤ 8 * (X 6 0 / 1000) - 3 * FO X (X 6 0 / 1000) (X 5 0).toNat ∧ ∀ h : Nat, h < 8 → -3 * FO X (X 6 0 / 1000) (X 5 0).toNat ≤ X 17 h ∧ X 17 h ≤ X 6 0 / 1000) ∧
  (∀ h : Nat, h < 8 → (0 ≤ X 19 h ∧ X 19 h ≤ X 18 h ∧ X 18 h ≤ X 6 0) ∧ 0 ≤ X 20 h ∧ X 20 h ≤ N) ∧
  (∀ h b : Nat, h < 8 → b < 3 → X 14 h = 0 → X 32 (3 * h + b) = 0) ∧
  X 6 0 ≤ 1100 * N
def LV (N : Nat) (X : Nat → Nat → Int) : Prop := VX X ∧ TI X ∧ YV N X
theorem FO_b (X : Nat → Nat → Int) (d : Int) : ∀ k : Nat, 0 ≤ FO X d k ∧ FO X d k ≤ k := by
  intro k
  induction k with
  | zero => exact ⟨Int.le_refl _, Int.le_refl _⟩
  | succ k ih =>
    unfold FO
    split <;> omega
theorem FO_c {X Y : Nat → Nat → Int} (d : Int) : ∀ k : Nat, (∀ j : Nat, j < k → Y 7 j = X 7 j) → FO Y d k = FO X d k := by
  intro k
  induction k with
  | zero => intro _; rfl
  | succ k ih =>
    intro h
    unfold FO
    rw [ih (fun j hj => h j (by omega)), h k (by omega)]
theorem FO_all {X : Nat → Nat → Int} {d : Int} : ∀ k : Nat, (∀ j : Nat, j < k → X 7 j / 10 < 1000 * d) → FO X d k = k := by
  intro k
  induction k with
  | zero => intro _; rfl
  | succ k ih =>
    intro h
    unfold FO
    rw [ih (fun j hj => h j (by omega)), if_pos (h k (by omega))]
    omega
theorem SU_c {X Y : Nat → Nat → Int} {f : Nat} : ∀ k : Nat, (∀ j : Nat, j < k → Y f j = X f j) → SU Y f k = SU X f k := by
  intro k
  induction k with
  | zero => intro _; rfl
  | succ k ih =>
    intro h
    unfold SU
    rw [ih (fun j hj => h j (by omega)), h k (by omega)]
theorem SU_1 {X Y : Nat → Nat → Int} {f n : Nat} {v : Int} (hn : Y f n = X f n + v) (ho : ∀ j : Nat, j ≠ n → Y f j = X f j) : ∀ k : Nat, SU Y f k = SU X f k + (if n < k then v else 0) := by
  intro k
  induction k with
  | zero => simp [SU]
  | succ k ih =>
    unfold SU
    rw [ih]
    by_cases hk : k = n
    · subst hk
      rw [hn, if_neg (Nat.lt_irrefl _), if_pos (Nat.lt_succ_self _)]
      omega
    · rw [ho k hk]
      by_cases h2 : n < k
      · rw [if_pos h2, if_pos (by omega)]
        omega
      · rw [if_neg h2, if_neg (by omega)]
        omega
def yf (f : Nat) : Prop := f = 5 ∨ f = 6 ∨ f = 7 ∨ f = 14 ∨ f = 17 ∨ f = 18 ∨ f = 19 ∨ f = 20 ∨ f = 21
theorem yv_fr {N : Nat} {X Y : Nat → Nat → Int} (h : YV N X) (hf : ∀ f i : Nat, yf f → Y f i = X f i) (h32 : ∀ i : Nat, Y 32 i ≠ 0 → X 32 i ≠ 0) : YV N Y := by
  obtain ⟨y1, y2, ⟨y3, y4⟩, ⟨y5, y6⟩, y7, y8, y9⟩ := h
  have e5 := hf 5 0 (by unfold yf; omega)
  have e6 := hf 6 0 (by unfold yf; omega)
  have e7 := fun i => hf 7 i (by unfold yf; omega)
  have e14 := fun i => hf 14 i (by unfold yf; omega)
  have e17 := fun i => hf 17 i (by unfold yf; omega)
  have e18 := fun i => hf 18 i (by unfold yf; omega)
  have e19 := fun i => hf 19 i (by unfold yf; omega)
  have e20 := fun i => hf 20 i (by unfold yf; omega)
  have e21 := fun i => hf 21 i (by unfold yf; omega)
  have eF : FO Y (X 6 0 / 1000) (X 5 0).toNat = FO X (X 6 0 / 1000) (X 5 0).toNat := FO_c _ _ (fun j _ => e7 j)
  unfold YV
  rw [e5, e6, eF, SU_c 8 (fun j _ => e21 j), SU_c 8 (fun j _ => e17 j)]
  refine ⟨fun k hk => by rw [e7]; exact y1 k hk, fun k hk => by rw [e7, e7]; exact y2 k hk, ⟨y3, fun h hh => by rw [e21]; exact y4 h hh⟩, ⟨y5, fun h hh => by rw [e17]; exact y6 h hh⟩, fun h hh => by rw [e18, e19, e20]; exact y7 h hh, fun h b hh hb hs => ?_, y9⟩
  rw [e14] at hs
  have := y8 h b hh hb hs
  by_cases q : Y 32 (3 * h + b) = 0
  · exact q
  · exact absurd this (h32 _ q)
theorem yv_up {N : Nat} {X : Nat → Nat → Int} (h : YV N X) {f i : Nat} {v : Int} (hf : ¬ yf f) (h32 : f = 32 → v = 0) : YV N (up X f i v) := by
  refine yv_fr h (fun g j hg => up_f _ _ _ _ (fun q => hf (by rw [← q]; exact hg))) (fun j hj => ?_)
  by_cases q : 32 = f ∧ j = i
  · obtain ⟨rfl, rfl⟩ := q
    rw [up_s] at hj
    exact absurd (h32 rfl) hj
  · have e : up X f i v 32 j = X 32 j := if_neg q
    rw [e] at hj
    exact hj
theorem yv_N {N M : Nat} {X : Nat → Nat → Int} (h : YV N X) (hM : N ≤ M) : YV M X := by
  obtain ⟨y1, y2, y3, y5, y7, y8, y9⟩ := h
  exact ⟨y1, y2, y3, y5, fun h hh => by have := y7 h hh; omega, y8, by omega⟩
theorem lv_N {N M : Nat} {X : Nat → Nat → Int} (h : LV N X) (hM : N ≤ M) : LV M X := ⟨h.1, h.2.1, yv_N h.2.2 hM⟩
/-! the operations, but press, fault, pass -/
theorem lv_lic {N : Nat} {X : Nat → Nat → Int} (h : LV N X) {i : Nat} {v : Int} (hv : 0 ≤ v ∧ v ≤ 1000) : LV N (up X 23 i v) :=
  ⟨vx_up h.1 (by decide) (fun _ => hv), ti_up h.2.1 (by decide), yv_up h.2.2 (by unfold yf; decide) (fun q => absurd q (by decide))⟩
theorem lv_qui {N : Nat} {X : Nat → Nat → Int} (h : LV N X) {n : Nat} {a b : Int} (hv : 0 ≤ a ∧ a < 1000 ∧ 0 ≤ b ∧ b < 1000) : LV N (up (up X 15 n a) 16 n b) :=
  ⟨vx_up (vx_up h.1 (by decide) (fun _ => by show 0 ≤ a ∧ a ≤ (999 : Int); omega)) (by decide) (fun _ => by show 0 ≤ b ∧ b ≤ (999 : Int); omega), ti_up (ti_up h.2.1 (by decide)) (by decide), yv_up (yv_up h.2.2 (by unfold yf; decide) (fun q => absurd q (by decide))) (by unfold yf; decide) (fun q => absurd q (by decide))⟩
theorem lv_lay {N : Nat} {X : Nat → Nat → Int} (h : LV N X) {i : Nat} {a b : Int} (ha : a = -1 ∨ (0 ≤ a ∧ a < X 4 0)) (hb : 1 ≤ b ∧ b ≤ 9) : LV N (up (up (up X 30 i a) 31 i b) 32 i 0) := by
  have b4 : 0 ≤ X 4 0 ∧ X 4 0 ≤ 12 := h.1.1 4 0 rfl
  exact ⟨vx_up (vx_up (vx_u30 h.1 (by omega)) (by decide) (fun _ => by show 1 ≤ b ∧ b ≤ (9 : Int); omega)) (by decide) (fun _ => by decide), ti_32 (ti_up (ti_up h.2.1 (by decide)) (by decide)) _, yv_up (yv_up (yv_up h.2.2 (by unfold yf; decide) (fun q => absurd q (by decide))) (by unfold yf; decide) (fun q => absurd q (by decide))) (by unfold yf; decide) (fun _ => rfl)⟩
theorem lv_rep {N : Nat} {X : Nat → Nat → Int} (h : LV N X) {n : Nat} (hn : n < 8) : LV N (up (up X 34 (n / 4) n) 35 (n / 4) (X 6 0 + 50)) := by
  have b6 : 0 ≤ X 6 0 ∧ X 6 0 ≤ 1000000 := h.1.1 6 0 rfl
  refine ⟨vx_up (vx_up h.1 (by decide) (fun _ => by show -1 ≤ _ ∧ _ ≤ (7 : Int); omega)) (by decide) (fun _ => by show 0 ≤ _ ∧ _ ≤ (1000050 : Int); omega), ⟨fun j => ?_, fun j hj => ?_⟩, yv_up (yv_up h.2.2 (by unfold yf; decide) (fun q => absurd q (by decide))) (by unfold yf; decide) (fun q => absurd q (by decide))⟩
  · rw [up_f _ _ _ _ (by decide), up_f _ _ _ _ (by decide), up_f _ _ _ _ (by decide), up_f _ _ _ _ (by decide), up_f _ _ _ _ (by decide), up_f _ _ _ _ (by decide)]
    exact h.2.1.1 j
  · have e6 : up (up X 34 (n / 4) n) 35 (n / 4) (X 6 0 + 50) 6 0 = X 6 0 := by rw [up_f _ _ _ _ (by decide), up_f _ _ _ _ (by decide)]
    rw [e6]
    rw [up_f _ _ _ _ (by decide)] at hj
    by_cases hq : j = n / 4
    · subst hq
      rw [up_s]
      omega
    · rw [up_i _ _ _ _ hq] at hj
      rw [up_i _ _ _ _ hq, up_f _ _ _ _ (by decide)]
      exact h.2.1.2 j hj
theorem lv_add {N : Nat} {X : Nat → Nat → Int} (h : LV N X) {k : Nat} {o c t : Int} (hk : X 4 0 = k ∧ k < 12) (ho : 0 ≤ o ∧ o < 8) (hc : 1 ≤ c ∧ c ≤ 12) (ht : 0 ≤ t ∧ t < 16 ^ c.toNat) : LV N (nX X k o c t) := by
  have hV := h.1
  refine ⟨?_, ti_up (ti_up (ti_up (ti_up h.2.1 (by decide)) (by decide)) (by decide)) (by decide), yv_up (yv_up (yv_up (yv_up h.2.2 (by unfold yf; decide) (fun q => absurd q (by decide))) (by unfold yf; decide) (fun q => absurd q (by decide))) (by unfold yf; decide) (fun q => absurd q (by decide))) (by unfold yf; decide) (fun q => absurd q (by decide))⟩
  unfold nX
  refine ⟨fun f i hf => ?_, fun i => ?_, fun i => ?_⟩
  · have b := hV.1 f i hf
    unfold up
    split
    · rename_i q
      rw [q.1]
      show 0 ≤ _ ∧ _ ≤ (12 : Int)
      omega
    · split
      · rename_i q
        rw [q.1] at hf
        cases hf
      · split
        · rename_i q
          rw [q.1]
          show 1 ≤ _ ∧ _ ≤ (12 : Int)
          omega
        · split
          · rename_i q
            rw [q.1]
            show 0 ≤ _ ∧ _ ≤ (7 : Int)
            omega
          · exact b
  · have b := hV.2.1 i
    rw [up_s, up_f _ _ _ _ (by decide), up_f _ _ _ _ (by decide), up_f _ _ _ _ (by decide), up_f _ _ _ _ (by decide)]
    omega
  · by_cases hik : i = k
    · subst hik
      simp [up]
      exact ht
    · simp [up, hik]
      exact hV.2.2 i
