/-! fault: the class goes through the houses, the reference through the bells of a street -/
theorem fa_f (X : Nat → Nat → Int) (n : Nat) {f : Nat} (i : Nat) (hf : f ≠ 32 ∧ f ≠ 33) : ∀ k : Nat, faX X n k f i = X f i := by
  intro k
  induction k with
  | zero => rfl
  | succ k ih =>
    unfold faX
    split
    · exact (sbX_f _ _ _ hf _ _).trans ih
    · exact ih
theorem fa_lo (X : Nat → Nat → Int) (n : Nat) : ∀ k : Nat, k ≤ 4 * (n / 4) → faX X n k = X ∧ faN X n k = 0 := by
  intro k
  induction k with
  | zero => intro _; exact ⟨rfl, rfl⟩
  | succ k ih =>
    intro hk
    have h1 := ih (by omega)
    unfold faX faN
    rw [if_neg (fun q => by omega), if_neg (fun q => by omega)]
    exact h1
theorem fa_hi (X : Nat → Nat → Int) (n : Nat) : ∀ k : Nat, faX X n (4 * (n / 4) + 4 + k) = faX X n (4 * (n / 4) + 4) ∧ faN X n (4 * (n / 4) + 4 + k) = faN X n (4 * (n / 4) + 4) := by
  intro k
  induction k with
  | zero => exact ⟨rfl, rfl⟩
  | succ k ih =>
    show faX X n ((4 * (n / 4) + 4 + k) + 1) = _ ∧ faN X n ((4 * (n / 4) + 4 + k) + 1) = _
    rw [faX, faN, if_neg (fun q => by omega), if_neg (fun q => by omega)]
    exact ih
def Pn (n : Nat) : Nat → Prop := fun i => i < 3 * n ∨ 3 * n + 3 ≤ i
theorem ti_sb {X : Nat → Nat → Int} (hV : VX X) (hT : TI X) {h : Nat} (hh : h < 8) : ∀ k : Nat, k ≤ 3 → TI (sbX X h (X 6 0) k) := by
  intro k
  induction k with
  | zero => intro _; exact hT
  | succ k ih =>
    intro hk
    have h1 := ih (by omega)
    have b37 : 1 ≤ X 37 (X 30 (3 * h + k)).toNat ∧ X 37 (X 30 (3 * h + k)).toNat ≤ 12 := hV.1 37 _ rfl
    unfold sbX
    split
    · exact ti_ru h1 (by omega) (by rw [sbX_f X h _ (by decide) 0 k]; omega)
    · exact h1
theorem sb_s (X : Nat → Nat → Int) (h : Nat) (t : Int) (k : Nat) : sbX X h t (k + 1) = if 0 ≤ X 30 (3 * h + k) ∧ X 32 (3 * h + k) = 0 then ruS (sbX X h t k) (3 * h + k) (t + 2 * X 37 (X 30 (3 * h + k)).toNat) else sbX X h t k := rfl
theorem sb_n (X : Nat → Nat → Int) (h : Nat) (k : Nat) : sbN X h (k + 1) = if 0 ≤ X 30 (3 * h + k) ∧ X 32 (3 * h + k) = 0 then sbN X h k + 1 else sbN X h k := rfl
/-- one bell of a house that isn't the faulty one -/
theorem rel_f1 {n h : Nat} (hn : h ≠ n) {X S : Nat → Nat → Int} (hV : VX X) (hT : TI X) (h0 : Rel (Pn n) X S) (hb : S 11 h = 0) {k : Nat} (hk : k < 3) {Y T : Nat → Nat → Int} (hY : Y = sbX X h (X 6 0) k) (hR : Rel (Pn n) Y T) (hT7 : T 7 (3 * h + k) = S 7 (3 * h + k)) (hTf : ∀ f i, f ≠ 7 → T f i = S f i) :
    Rel (Pn n) (sbX X h (X 6 0) (k + 1)) (if T 11 ((3 * h + k) / 3) = 0 ∧ 0 < T 5 (3 * h + k) ∧ T 7 (3 * h + k) = 0 then beS T (3 * h + k) else T) ∧
    (if T 11 ((3 * h + k) / 3) = 0 ∧ 0 < T 5 (3 * h + k) ∧ T 7 (3 * h + k) = 0 then (1 : Int) else 0) = sbN X h (k + 1) - sbN X h k := by
  have hPk : Pn n (3 * h + k) := by unfold Pn; omega
  have s7 := e7 h0 hV hT hPk
  have e5 := (h0.2.2.1 (3 * h + k)).1
  have b4 : 0 ≤ X 4 0 ∧ X 4 0 ≤ 12 := hV.1 4 0 rfl
  have hk4 := hV.2.1 (3 * h + k)
  have e3 : (3 * h + k) / 3 = h := by omega
  have t5 := hTf 5 (3 * h + k) (by decide)
  have t11 := hTf 11 h (by decide)
  rw [e3, hT7, t5, t11, hb, sb_s, sb_n]
  by_cases hc : 0 ≤ X 30 (3 * h + k) ∧ X 32 (3 * h + k) = 0
  · have hc2 : (0 : Int) = 0 ∧ 0 < S 5 (3 * h + k) ∧ S 7 (3 * h + k) = 0 := by omega
    rw [if_pos hc, if_pos hc, if_pos hc2, if_pos hc2]
    refine ⟨?_, by omega⟩
    obtain ⟨m, hm⟩ : ∃ m : Nat, X 30 (3 * h + k) = m := ⟨(X 30 (3 * h + k)).toNat, by omega⟩
    have e2 := h0.2.1 m (by omega)
    unfold beS
    have t0 := hTf 0 0 (by decide)
    have em : (S 5 (3 * h + k) - 1).toNat = m := by omega
    have em2 : (X 30 (3 * h + k)).toNat = m := by omega
    rw [t0, t5, em, em2, hTf 3 m (by decide), e2.2.1, h0.1.1, ← hY]
    exact rel_ru hR _ _
  · have hc2 : ¬ ((0 : Int) = 0 ∧ 0 < S 5 (3 * h + k) ∧ S 7 (3 * h + k) = 0) := by omega
    rw [if_neg hc, if_neg hc, if_neg hc2, if_neg hc2, ← hY]
    exact ⟨hR, by omega⟩
theorem fl_s (S : Nat → Nat → Int) (n j : Nat) : flS S n (j + 1) = if flS S n j 11 ((12 * (n / 4) + j) / 3) = 0 ∧ 0 < flS S n j 5 (12 * (n / 4) + j) ∧ flS S n j 7 (12 * (n / 4) + j) = 0 then beS (flS S n j) (12 * (n / 4) + j) else flS S n j := rfl
theorem fl_n (S : Nat → Nat → Int) (n j : Nat) : flN S n (j + 1) = if flS S n j 11 ((12 * (n / 4) + j) / 3) = 0 ∧ 0 < flS S n j 5 (12 * (n / 4) + j) ∧ flS S n j 7 (12 * (n / 4) + j) = 0 then flN S n j + (if (12 * (n / 4) + j) / 3 = n then 0 else 1) else flN S n j := rfl
/-- the reference writes no bell before its turn -/
theorem fl_7 (S : Nat → Nat → Int) (n : Nat) (i : Nat) : ∀ j : Nat, 12 * (n / 4) + j ≤ i → flS S n j 7 i = S 7 i := by
  intro j
  induction j with
  | zero => intro _; rfl
  | succ j ih =>
    intro hj
    rw [fl_s]
    split
    · unfold beS
      rw [up_i _ _ _ _ (by omega)]
      exact ih (by omega)
    · exact ih (by omega)
/-- the bells of a house of the street, the faulty house left out -/
theorem rel_fh {n i : Nat} (hi : 4 * (n / 4) + i ≠ n) {X S : Nat → Nat → Int} (hV : VX X) (hT : TI X) (hR : Rel (Pn n) X (flS S n (3 * i))) (hb : flS S n (3 * i) 11 (4 * (n / 4) + i) = 0) :
    ∀ k : Nat, k ≤ 3 → Rel (Pn n) (sbX X (4 * (n / 4) + i) (X 6 0) k) (flS S n (3 * i + k)) ∧ flN S n (3 * i + k) - flN S n (3 * i) = sbN X (4 * (n / 4) + i) k := by
  intro k
  induction k with
  | zero => intro _; exact ⟨hR, by show flN S n (3 * i) - flN S n (3 * i) = 0; omega⟩
  | succ k ih =>
    intro hk
    obtain ⟨h1, h2⟩ := ih (by omega)
    have e : 12 * (n / 4) + (3 * i + k) = 3 * (4 * (n / 4) + i) + k := by omega
    have hf : ∀ f q, f ≠ 7 → flS S n (3 * i + k) f q = flS S n (3 * i) f q := fun f q hf => (fl_20 S n hf _).trans (fl_20 S n hf _).symm
    have h7 : flS S n (3 * i + k) 7 (3 * (4 * (n / 4) + i) + k) = flS S n (3 * i) 7 (3 * (4 * (n / 4) + i) + k) := (fl_7 S n _ _ (by omega)).trans (fl_7 S n _ _ (by omega)).symm
    have h3 := rel_f1 hi hV hT hR hb (k := k) (by omega) rfl h1 h7 hf
    have e4 : ¬ (3 * (4 * (n / 4) + i) + k) / 3 = n := by omega
    show Rel _ _ (flS S n (3 * i + k + 1)) ∧ flN S n (3 * i + k + 1) - _ = _
    rw [fl_s, fl_n, e, if_neg e4]
    refine ⟨h3.1, ?_⟩
    have h4 := h3.2
    split at h4 <;> rename_i q
    · rw [if_pos q]
      omega
    · rw [if_neg q]
      omega
/-- the bells of the faulty house, or of one that is broken -/
theorem rel_fx {n i : Nat} {X S : Nat → Nat → Int} (hR : Rel (Pn n) X (flS S n (3 * i))) (hb : 4 * (n / 4) + i = n ∨ flS S n (3 * i) 11 (4 * (n / 4) + i) ≠ 0) :
    ∀ k : Nat, k ≤ 3 → Rel (Pn n) X (flS S n (3 * i + k)) ∧ flN S n (3 * i + k) = flN S n (3 * i) := by
  intro k
  induction k with
  | zero => intro _; exact ⟨hR, rfl⟩
  | succ k ih =>
    intro hk
    obtain ⟨h1, h2⟩ := ih (by omega)
    have e : 12 * (n / 4) + (3 * i + k) = 3 * (4 * (n / 4) + i) + k := by omega
    have e3 : (3 * (4 * (n / 4) + i) + k) / 3 = 4 * (n / 4) + i := by omega
    have hf : flS S n (3 * i + k) 11 (4 * (n / 4) + i) = flS S n (3 * i) 11 (4 * (n / 4) + i) := (fl_20 S n (by decide) _).trans (fl_20 S n (by decide) _).symm
    show Rel _ _ (flS S n (3 * i + k + 1)) ∧ flN S n (3 * i + k + 1) = _
    rw [fl_s, fl_n, e, e3, hf]
    rcases hb with hb | hb
    · rw [if_pos hb]
      split
      · refine ⟨?_, by omega⟩
        unfold beS
        exact rel_7x h1 _ (by unfold Pn; omega)
      · exact ⟨h1, h2⟩
    · rw [if_neg (fun q => hb q.1), if_neg (fun q => hb q.1)]
      exact ⟨h1, h2⟩
theorem rel_fl {X S : Nat → Nat → Int} {n : Nat} (hn : n < 8) (hV : VX X) (hT : TI X) (hR : RelA X S) : ∀ i : Nat, i ≤ 4 → Rel (Pn n) (faX X n (4 * (n / 4) + i)) (flS S n (3 * i)) ∧ TI (faX X n (4 * (n / 4) + i)) ∧ faN X n (4 * (n / 4) + i) = flN S n (3 * i) := by
  intro i
  induction i with
  | zero =>
    intro _
    have h := fa_lo X n (4 * (n / 4)) (Nat.le_refl _)
    show Rel _ (faX X n (4 * (n / 4))) S ∧ TI (faX X n (4 * (n / 4))) ∧ faN X n (4 * (n / 4)) = 0
    rw [h.1, h.2]
    exact ⟨rel_mono hR (fun _ _ => trivial), hT, rfl⟩
  | succ i ih =>
    intro hi
    obtain ⟨h1, h2, h3⟩ := ih (by omega)
    have hVk := vx_fa hV n (4 * (n / 4) + i)
    have e11 := (h1.2.2.2.2.1 (4 * (n / 4) + i)).2.2.1
    have b14 : 0 ≤ faX X n (4 * (n / 4) + i) 14 (4 * (n / 4) + i) ∧ faX X n (4 * (n / 4) + i) 14 (4 * (n / 4) + i) ≤ 1 := hVk.1 14 _ rfl
    show Rel _ (faX X n (4 * (n / 4) + i + 1)) (flS S n (3 * i + 3)) ∧ TI (faX X n (4 * (n / 4) + i + 1)) ∧ faN X n (4 * (n / 4) + i + 1) = flN S n (3 * i + 3)
    rw [faX, faN]
    by_cases hc : 4 * (n / 4) + i ≠ n ∧ (4 * (n / 4) + i) / 4 = n / 4 ∧ faX X n (4 * (n / 4) + i) 14 (4 * (n / 4) + i) ≠ 0
    · rw [if_pos hc, if_pos hc]
      have h4 := rel_fh hc.1 hVk h2 h1 (by omega) 3 (Nat.le_refl _)
      exact ⟨h4.1, ti_sb hVk h2 (by omega) 3 (Nat.le_refl _), by omega⟩
    · rw [if_neg hc, if_neg hc]
      have h4 := rel_fx h1 (by omega) 3 (Nat.le_refl _)
      exact ⟨h4.1, h2, by omega⟩
theorem rel_fa {X S : Nat → Nat → Int} {n : Nat} (hn : n < 8) (hV : VX X) (hT : TI X) (hR : RelA X S) : Rel (Pn n) (faX X n 8) (flS S n 12) ∧ TI (faX X n 8) ∧ faN X n 8 = flN S n 12 := by
  have h := rel_fl hn hV hT hR 4 (Nat.le_refl _)
  have h2 := fa_hi X n (4 - 4 * (n / 4))
  have e : 4 * (n / 4) + 4 + (4 - 4 * (n / 4)) = 8 := by omega
  rw [e] at h2
  rw [h2.1, h2.2]
  exact h
theorem rel_fault {X S : Nat → Nat → Int} (h : IV X S) {n : Nat} {u : Int} (hu : u = n) (hn : n < 8) (h5 : X 5 0 < 100) : IV (faR X n u) (fmR S n) ∧ faN X n 8 = flN S n 12 := by
  obtain ⟨hR, hV, hT, hW⟩ := h
  obtain ⟨h1, h2, h3⟩ := rel_fa hn hV hT hR
  refine ⟨?_, h3⟩
  have hB := rel_bd n h1
  have vB := vx_bd (vx_fa hV n 8) n
  have tB := ti_bd h2 n
  have wB := vs_br (vs_fl hW n 12) n
  have b5 : 0 ≤ X 5 0 ∧ X 5 0 ≤ 100 := hV.1 5 0 rfl
  have f5 : bdS (faX X n 8) n 5 0 = X 5 0 := faX_5 X n
  have e20 := hB.1.2.2
  have e0 := hB.1.1
  have e17 := (hB.2.2.2.2.1 n).2.2.2.2.2.2.2.2
  unfold faR fmR fmW
  subst hu
  refine ⟨?_, vx_up (vx_uf (vx_uf vB ⟨rfl, by decide⟩) ⟨rfl, by decide⟩) (by decide) (fun _ => by show 0 ≤ _ ∧ _ ≤ (100 : Int); omega), ti_up (ti_up (ti_up tB (by decide)) (by decide)) (by decide), vs_uf (vs_up (vs_uf wB (by decide)) (by decide) (fun _ _ => by show 0 ≤ _ ∧ _ ≤ (100 : Int); omega)) (by decide)⟩
  rw [e20, e0, e17, f5]
  generalize bdS (faX X n 8) n = A at *
  generalize brM (flS S n 12) n = B at *
  obtain ⟨⟨r0, r1, r20⟩, r2, r5, r8, r9, r18⟩ := hB
  refine ⟨⟨r0, r1, ?_⟩, r2, r5, fun j => ?_, fun j => ?_, r18⟩
  · simp [up]
  · have r8j := r8 j
    by_cases hj : j = (X 5 0).toNat
    · simp [up, hj] at r8j ⊢
      exact r8j.1
    · simp [up, hj] at r8j ⊢
      exact r8j
  · have r9j := r9 j
    by_cases hj : j = n
    · subst hj
      simp [up]; omega
    · simp [up, hj]; omega
