/-! PURE: the passing of time keeps the invariant. -/
theorem sh_le {f t a b : Int} (h : f ≤ t) : 0 ≤ shS f t a b ∧ shS f t a b ≤ t - f := by
  unfold shS
  omega
theorem qS_le {X : Nat → Nat → Int} (hV : VX X) (h : Nat) {s u : Int} (hs : 0 ≤ s) (hu : s ≤ u) : qS X h s u ≤ u - s := by
  have b15 : 0 ≤ X 15 h ∧ X 15 h ≤ 999 := hV.1 15 h rfl
  have b16 : 0 ≤ X 16 h ∧ X 16 h ≤ 999 := hV.1 16 h rfl
  have r0 : 0 ≤ s % 1000 := Int.emod_nonneg _ (by decide)
  unfold qS shS
  generalize s % 1000 = r at *
  split <;> omega
theorem SU_ge {X : Nat → Nat → Int} {f : Nat} : ∀ k : Nat, (∀ j : Nat, j < k → 0 ≤ X f j) → 0 ≤ SU X f k ∧ ∀ j : Nat, j < k → X f j ≤ SU X f k := by
  intro k
  induction k with
  | zero => intro _; exact ⟨Int.le_refl _, fun j hj => by omega⟩
  | succ k ih =>
    intro h
    have i1 := ih (fun j hj => h j (by omega))
    have hk := h k (by omega)
    unfold SU
    refine ⟨by omega, fun j hj => ?_⟩
    by_cases hq : j = k
    · subst hq
      omega
    · have := i1.2 j (by omega)
      omega
theorem SU_0 {X : Nat → Nat → Int} {f : Nat} : ∀ k : Nat, (∀ j : Nat, j < k → X f j = 0) → SU X f k = 0 := by
  intro k
  induction k with
  | zero => intro _; rfl
  | succ k ih =>
    intro h
    unfold SU
    rw [ih (fun j hj => h j (by omega)), h k (by omega)]
    rfl
theorem SU_le {X Y : Nat → Nat → Int} : ∀ k : Nat, (∀ j : Nat, j < k → Y 17 j ≤ X 17 j + 1 - 3 * X 21 j) → SU Y 17 k ≤ SU X 17 k + k - 3 * SU X 21 k := by
  intro k
  induction k with
  | zero => intro _; show (0 : Int) ≤ 0 + 0 - 3 * 0; decide
  | succ k ih =>
    intro h
    have i1 := ih (fun j hj => h j (by omega))
    have h1 := h k (by omega)
    unfold SU
    omega
theorem cd_c (X : Nat → Nat → Int) (h i : Nat) : cdS X h 17 i = (if i = h then X 17 i + (if X 22 i = 0 then 0 else 1) - 3 * X 21 i else X 17 i) ∧ cdS X h 21 i = (if i = h then 0 else X 21 i) ∧ cdS X h 22 i = (if i = h then 1 else X 22 i) := by
  unfold cdS
  by_cases hi : i = h
  · subst hi
    by_cases h22 : X 22 i = 0
    · simp [up, h22]
    · simp [up, h22]
  · by_cases h22 : X 22 h = 0
    · simp [up, h22, hi]
    · simp [up, h22, hi]
theorem p4_c (X : Nat → Nat → Int) : ∀ (k i : Nat), pa4 X k 17 i = (if i < k then X 17 i + (if X 22 i = 0 then 0 else 1) - 3 * X 21 i else X 17 i) ∧ pa4 X k 21 i = (if i < k then 0 else X 21 i) ∧ pa4 X k 22 i = (if i < k then 1 else X 22 i) := by
  intro k
  induction k with
  | zero => intro i; exact ⟨rfl, rfl, rfl⟩
  | succ k ih =>
    intro i
    obtain ⟨a1, a2, a3⟩ := cd_c (pa4 X k) k i
    obtain ⟨b1, b2, b3⟩ := ih i
    show cdS (pa4 X k) k 17 i = _ ∧ cdS (pa4 X k) k 21 i = _ ∧ cdS (pa4 X k) k 22 i = _
    rw [a1, a2, a3, b1, b2, b3]
    by_cases hi : i = k
    · subst hi
      simp
    · have e1 : i < k + 1 ↔ i < k := by omega
      simp [hi, e1]
theorem p3_14 (X : Nat → Nat → Int) (i : Nat) : ∀ k : Nat, pa3 X k 14 i = 0 → X 14 i = 0 := by
  intro k
  induction k with
  | zero => exact fun h => h
  | succ k ih =>
    intro h
    refine ih ?_
    have h1 : fiS (pa3 X k) k (pa3 X k 6 0) 14 i = 0 := h
    unfold fiS at h1
    split at h1
    · rw [up_f _ _ _ _ (by decide)] at h1
      by_cases hi : i = ((pa3 X k) 34 k).toNat
      · rw [← hi, up_s] at h1
        exact absurd h1 (by decide)
      · rw [up_i _ _ _ _ hi] at h1
        exact h1
    · exact h1
/-- a stretch, but for the end of a day -/
theorem psB_y {N : Nat} {X : Nat → Nat → Int} (h : LV N X) {u : Int} (hu : X 6 0 < u) :
    (∀ h' : Nat, h' < 8 → (0 ≤ psB X u 19 h' ∧ psB X u 19 h' ≤ psB X u 18 h' ∧ psB X u 18 h' ≤ u) ∧ 0 ≤ psB X u 20 h' ∧ psB X u 20 h' ≤ N) ∧
    (∀ h' b : Nat, h' < 8 → b < 3 → psB X u 14 h' = 0 → psB X u 32 (3 * h' + b) = 0) ∧
    (∀ f i : Nat, f = 5 ∨ f = 7 ∨ f = 17 ∨ f = 21 → psB X u f i = X f i) ∧ psB X u 6 0 = u := by
  obtain ⟨hV, hT, hY⟩ := h
  have b6 : 0 ≤ X 6 0 ∧ X 6 0 ≤ 1000000 := hV.1 6 0 rfl
  refine ⟨fun h' hh => ?_, fun h' b hh hb hs => ?_, fun f i hf => ?_, ?_⟩
  · have y7 := hY.2.2.2.2.1 h' hh
    have q0 := qS_0 X h' (X 6 0) u
    have q1 := qS_le hV h' (s := X 6 0) (u := u) b6.1 (by omega)
    rw [psB_f _ _ _ (by decide), psB_f _ _ _ (by decide), psB_f _ _ _ (by decide), psA_f _ _ _ (f := 20) (by decide), psA_c, psA_c]
    simp only [if_neg (show ¬ (18 = 6 ∧ h' = 0) by omega), if_neg (show ¬ (19 = 6 ∧ h' = 0) by omega)]
    simp only [show ¬ ((19 : Nat) = 18) by decide, if_false, if_true]
    refine ⟨?_, y7.2⟩
    by_cases hr : h' < 8 ∧ rsS X h' ≠ 0
    · simp only [if_pos hr]
      omega
    · simp only [if_neg hr]
      omega
  · unfold psB at hs ⊢
    have h1 := p3_14 _ _ 2 hs
    rw [p2_f _ _ (by decide) 8, psA_f _ _ _ (by decide)] at h1
    have h2 := hY.2.2.2.2.2.1 h' b hh hb h1
    rw [p3_f _ _ (by decide) 2]
    by_cases hq : pa2 (psA X u) 8 32 (3 * h' + b) = 0
    · exact hq
    · have h3 := (p2_32 (psA X u) _ 8 hq).1
      rw [psA_f _ _ _ (by decide)] at h3
      exact absurd h2 h3
  · rw [psB_f _ _ _ (by omega), psA_f _ _ _ (by omega)]
  · rw [psB_f _ _ _ (by decide), psA_6]
theorem ps_lv {N : Nat} {X : Nat → Nat → Int} (h : LV N X) {u : Int} (hu : X 6 0 < u) (hd : X 6 0 % 1000 + (u - X 6 0) ≤ 1000) (hN : u ≤ 1100 * N) (hu2 : u ≤ 1000000) : LV N (psS X u) := by
  have hB := psB_y h hu
  obtain ⟨hV, hT, hY⟩ := h
  have b6 : 0 ≤ X 6 0 ∧ X 6 0 ≤ 1000000 := hV.1 6 0 rfl
  have b5 : 0 ≤ X 5 0 ∧ X 5 0 ≤ 100 := hV.1 5 0 rfl
  refine ⟨vx_ps hV ⟨by omega, hu2⟩, ti_ps hT u, ?_⟩
  obtain ⟨z7, z8, zf, z6⟩ := hB
  obtain ⟨y1, y2, ⟨y3, y4⟩, ⟨y5, y6⟩, y7, y8, y9⟩ := hY
  obtain ⟨m, hm⟩ : ∃ m : Nat, X 5 0 = m := ⟨(X 5 0).toNat, by omega⟩
  have z5 : psB X u 5 0 = m := (zf 5 0 (by omega)).trans hm
  rw [hm] at y1 y2 y3 y5 y6
  rw [Int.toNat_natCast] at y3 y5 y6
  have b22 : ∀ i : Nat, 0 ≤ psB X u 22 i := fun i => ((vx_p3 (vx_p2 (vx_psA hV (u := u) ⟨by omega, hu2⟩) 8) 2).1 22 i rfl).1
  unfold psS
  generalize hZ : psB X u = Z at *
  have eF : ∀ d : Int, FO Z d m = FO X d m := fun d => FO_c d m (fun j _ => zf 7 j (by omega))
  rw [z6]
  by_cases hc : u % 1000 = 0
  · rw [if_pos hc]
    have hd1 : u / 1000 = X 6 0 / 1000 + 1 := by omega
    have q5 : pa4 Z 8 5 0 = m := (p4_f _ _ (by decide) 8).trans z5
    have q6 : pa4 Z 8 6 0 = u := (p4_f _ _ (by decide) 8).trans z6
    have q7 : ∀ j : Nat, pa4 Z 8 7 j = X 7 j := fun j => (p4_f _ _ (by decide) 8).trans (zf 7 j (by omega))
    have qo : ∀ f j : Nat, f ≠ 17 → f ≠ 21 → f ≠ 22 → pa4 Z 8 f j = Z f j := fun f j h1 h2 h3 => p4_f _ _ ⟨h1, h2, h3⟩ 8
    have q17 : ∀ j : Nat, j < 8 → pa4 Z 8 17 j = X 17 j + (if Z 22 j = 0 then 0 else 1) - 3 * X 21 j := fun j hj => by
      rw [(p4_c Z 8 j).1, if_pos hj, zf 17 j (by omega), zf 21 j (by omega)]
    have q21 : ∀ j : Nat, j < 8 → pa4 Z 8 21 j = 0 := fun j hj => by rw [(p4_c Z 8 j).2.1, if_pos hj]
    generalize pa4 Z 8 = Y at *
    have hall : FO Y (u / 1000) m = m := FO_all m (fun j hj => by
      rw [q7, hd1]
      have := y1 j (by omega)
      omega)
    have bF := FO_b X (X 6 0 / 1000) m
    have s1 : SU Y 17 8 ≤ SU X 17 8 + (8 : Nat) - 3 * SU X 21 8 := SU_le 8 (fun j hj => by
      rw [q17 j hj]
      split <;> omega)
    have s2 := SU_ge 8 y4
    unfold YV
    rw [q5, q6, Int.toNat_natCast, hall, SU_0 8 q21]
    refine ⟨fun k hk => ?_, fun k hk => ?_, ⟨by omega, fun h hh => by rw [q21 h hh]; exact Int.le_refl _⟩, ⟨by omega, fun h hh => ?_⟩, fun h hh => ?_, fun h b hh hb hs => ?_, hN⟩
    · rw [q7]
      have := y1 k hk
      omega
    · rw [q7, q7]
      exact y2 k hk
    · rw [q17 h hh]
      have := y6 h hh
      have := y4 h hh
      have := s2.2 h hh
      split <;> omega
    · rw [qo 18 h (by decide) (by decide) (by decide), qo 19 h (by decide) (by decide) (by decide), qo 20 h (by decide) (by decide) (by decide)]
      exact z7 h hh
    · rw [qo 14 h (by decide) (by decide) (by decide)] at hs
      rw [qo 32 _ (by decide) (by decide) (by decide)]
      exact z8 h b hh hb hs
  · rw [if_neg hc]
    have hd1 : u / 1000 = X 6 0 / 1000 := by omega
    unfold YV
    rw [z5, z6, Int.toNat_natCast, hd1, eF, SU_c 8 (fun j _ => zf 17 j (by omega)), SU_c 8 (fun j _ => zf 21 j (by omega))]
    refine ⟨fun k hk => ?_, fun k hk => ?_, ⟨y3, fun h hh => ?_⟩, ⟨y5, fun h hh => ?_⟩, z7, z8, hN⟩
    · rw [zf 7 k (by omega)]
      have := y1 k hk
      omega
    · rw [zf 7 k (by omega), zf 7 (k + 1) (by omega)]
      exact y2 k hk
    · rw [zf 21 h (by omega)]
      exact y4 h hh
    · rw [zf 17 h (by omega)]
      exact y6 h hh
theorem pa_lv {N : Nat} {X : Nat → Nat → Int} (h : LV N X) {e : Int} (he : X 6 0 ≤ e ∧ e ≤ 1000000) (hN : e ≤ 1100 * N) : ∀ j : Nat, LV N (paX X e j) ∧ paX X e j 6 0 ≤ e ∧ (paX X e j 6 0 = e ∨ X 6 0 + (j : Nat) ≤ paX X e j 6 0) := by
  intro j
  induction j with
  | zero => exact ⟨h, he.1, Or.inr (by show X 6 0 + ((0 : Nat) : Int) ≤ X 6 0; omega)⟩
  | succ j ih =>
    obtain ⟨i1, i2, i3⟩ := ih
    unfold paX
    by_cases hc : paX X e j 6 0 < e
    · rw [if_pos hc]
      have hq := nc_qu i1.1 i1.2.1 hc
      have e6 := ps_6 (paX X e j) (ncS (paX X e j) e)
      refine ⟨ps_lv i1 hq.1 hq.2.2.2.2 (by omega) (by omega), by omega, by omega⟩
    · rw [if_neg hc]
      exact ⟨i1, i2, Or.inl (by omega)⟩
