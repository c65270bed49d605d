/-! the loops of a second, step by step -/
theorem sp_f (X : Nat → Nat → Int) (h : Nat) (s e : Int) {f : Nat} (i : Nat) (hf : f ≠ 18 ∧ f ≠ 19 ∧ f ≠ 22) : spS X h s e f i = X f i := by
  unfold spS
  (repeat' split) <;> simp [up, hf.1, hf.2.1, hf.2.2]
theorem p1_f (X : Nat → Nat → Int) (u : Int) {f : Nat} (i : Nat) (hf : f ≠ 18 ∧ f ≠ 19 ∧ f ≠ 22) : ∀ k : Nat, pa1 X u k f i = X f i := by
  intro k
  induction k with
  | zero => rfl
  | succ k ih => exact (sp_f _ _ _ _ _ hf).trans ih
theorem ti_p1 {X : Nat → Nat → Int} (hT : TI X) (u : Int) (k : Nat) : TI (pa1 X u k) := by
  refine ⟨fun i => ?_, fun i => ?_⟩
  · rw [p1_f X u i (by decide) k, p1_f X u 0 (by decide) k, p1_f X u i (by decide) k]
    exact hT.1 i
  · rw [p1_f X u i (by decide) k, p1_f X u 0 (by decide) k, p1_f X u i (by decide) k]
    exact hT.2 i
theorem rel_1 {X S : Nat → Nat → Int} (h : RelA X S) (hV : VX X) (hT : TI X) : ∀ k : Nat, RelA (pa1 X (X 6 0 + 1) k) (sc1 S k) := by
  intro k
  induction k with
  | zero => exact h
  | succ k ih =>
    have r := rel_sp ih (vx_p1 hV _ k) (ti_p1 hT _ k) k
    have e : pa1 X (X 6 0 + 1) k 6 0 = X 6 0 := p1_f X _ 0 (by decide) k
    show RelA (spS _ _ _ _) (rgS _ _)
    rw [e] at r ⊢
    exact r
theorem rel_t {X S : Nat → Nat → Int} (h : RelA X S) (v : Int) : RelA (up X 6 0 v) (up S 0 0 v) := by
  obtain ⟨⟨r0, r1, r20⟩, r2, r5, r8, r9, r18⟩ := h
  refine ⟨⟨?_, ?_, ?_⟩, fun j hj2 => ?_, fun j => ?_, fun j => ?_, fun j => ?_, fun j => ?_⟩
  · simp [up]; try omega
  · simp [up]; try omega
  · simp [up]; try omega
  · have hj3 : (j : Int) < _ := hj2
    simp [up] at hj3
    have r2j := r2 j (by omega)
    by_cases hj : j = 0
    · subst hj
      simp [up]; try omega
    · simp [up, hj]; try omega
  · have r5j := r5 j
    by_cases hj : j = 0
    · subst hj
      simp [up] at r5j ⊢; try first | assumption | omega
    · simp [up, hj] at r5j ⊢; try first | assumption | omega
  · have r8j := r8 j
    by_cases hj : j = 0
    · subst hj
      simp [up]; try omega
    · simp [up, hj]; try omega
  · have r9j := r9 j
    by_cases hj : j = 0
    · subst hj
      simp [up]; try omega
    · simp [up, hj]; try omega
  · have r18j := r18 j
    by_cases hj : j = 0
    · subst hj
      simp [up] at r18j ⊢; try first | assumption | omega
    · simp [up, hj] at r18j ⊢; try first | assumption | omega
/-- a bell's end -/
theorem rel_e {X S : Nat → Nat → Int} (h : RelA X S) (hV : VX X) (k : Nat) : RelA (if X 33 k ≤ X 6 0 then up X 32 k 0 else X) (en1 S k) := by
  have b6 : 0 ≤ X 6 0 ∧ X 6 0 ≤ 1000000 := hV.1 6 0 rfl
  have e7 := (h.2.2.1 k).2.2 trivial
  have e0 := h.1.1
  unfold en1
  by_cases hc : X 33 k ≤ X 6 0
  · rw [if_pos hc]
    have e : (if S 7 k ≤ S 0 0 then 0 else S 7 k) = (0 : Int) := by
      rw [e7, e0]
      (repeat' split) <;> omega
    rw [e]
    obtain ⟨⟨r0, r1, r20⟩, r2, r5, r8, r9, r18⟩ := h
    refine ⟨⟨?_, ?_, ?_⟩, fun j hj2 => ?_, fun j => ?_, fun j => ?_, fun j => ?_, fun j => ?_⟩
    · simp [up]; try omega
    · simp [up]; try omega
    · simp [up]; try omega
    · have hj3 : (j : Int) < _ := hj2
      simp [up] at hj3
      have r2j := r2 j (by omega)
      by_cases hj : j = k
      · subst hj
        simp [up]; try omega
      · simp [up, hj]; try omega
    · have r5j := r5 j
      by_cases hj : j = k
      · subst hj
        simp [up] at r5j ⊢; try first | assumption | omega
      · simp [up, hj] at r5j ⊢; try first | assumption | omega
    · have r8j := r8 j
      by_cases hj : j = k
      · subst hj
        simp [up]; try omega
      · simp [up, hj]; try omega
    · have r9j := r9 j
      by_cases hj : j = k
      · subst hj
        simp [up]; try omega
      · simp [up, hj]; try omega
    · have r18j := r18 j
      by_cases hj : j = k
      · subst hj
        simp [up] at r18j ⊢; try first | assumption | omega
      · simp [up, hj] at r18j ⊢; try first | assumption | omega
  · rw [if_neg hc]
    have e : (if S 7 k ≤ S 0 0 then 0 else S 7 k) = S 7 k := by
      rw [e7, e0]
      (repeat' split) <;> omega
    rw [e]
    have e2 : up S 7 k (S 7 k) = S := by
      funext f i
      unfold up
      split
      · rename_i q
        rw [q.1, q.2]
      · rfl
    rw [e2]
    exact h
theorem se1 (X : Nat → Nat → Int) (h : Nat) (t : Int) (k : Nat) : seS X h t (k + 1) = if seS X h t k 33 (3 * h + k) ≤ t then up (seS X h t k) 32 (3 * h + k) 0 else seS X h t k := by
  rw [seS_f X h t (by decide) _ k]
  rfl
theorem p2_6 (X : Nat → Nat → Int) : ∀ k : Nat, pa2 X k 6 0 = X 6 0 := by
  intro k
  induction k with
  | zero => rfl
  | succ k ih => exact (seS_f _ _ _ (by decide) _ 3).trans ih
theorem rel_2a {X S : Nat → Nat → Int} (h : RelA X S) (hV : VX X) (n : Nat) : ∀ k : Nat, RelA (seS X n (X 6 0) k) (Nat.rec S (fun j Y => en1 Y (3 * n + j)) k) := by
  intro k
  induction k with
  | zero => exact h
  | succ k ih =>
    have r := rel_e ih (vx_se hV n _ k) (3 * n + k)
    rw [seS_f X n (X 6 0) (by decide) 0 k] at r
    rw [se1]
    exact r
theorem rel_2 {X S : Nat → Nat → Int} (h : RelA X S) (hV : VX X) : ∀ k : Nat, RelA (pa2 X k) (sc2 S (3 * k)) := by
  intro k
  induction k with
  | zero => exact h
  | succ k ih => exact rel_2a ih (vx_p2 hV k) k 3
/-- a crew -/
theorem rel_3a {X S : Nat → Nat → Int} (h : RelA X S) (hV : VX X) (h0 : 0 < X 6 0) (k : Nat) (hT : 0 ≤ X 34 k → X 6 0 ≤ X 35 k) : RelA (fiS X k (X 6 0)) (cr1 S k) := by
  have e0 := h.1.1
  have e18 := h.2.2.2.2.2 k
  have b34 : -1 ≤ X 34 k ∧ X 34 k ≤ 7 := hV.1 34 k rfl
  unfold fiS cr1
  by_cases hc : 0 ≤ X 34 k ∧ X 35 k ≤ X 6 0
  · have hd : S 18 k = S 0 0 := by
      rw [e18.1, e0, if_neg (by omega)]
      have := hT hc.1
      omega
    have e19 := e18.2 hc.1
    rw [if_pos hc, if_pos hd, e19]
    obtain ⟨n, hn⟩ : ∃ n : Nat, X 34 k = n := ⟨(X 34 k).toNat, by omega⟩
    have hn2 : (X 34 k).toNat = n := by omega
    rw [hn2]
    obtain ⟨⟨r0, r1, r20⟩, r2, r5, r8, r9, r18⟩ := h
    refine ⟨⟨r0, r1, r20⟩, r2, r5, r8, fun j => ?_, fun j => ?_⟩
    · have r9j := r9 j
      by_cases hj : j = n
      · subst hj
        simp [up]; omega
      · simp [up, hj]; omega
    · have r18j := r18 j
      by_cases hj : j = k
      · subst hj
        simp [up]
      · simp [up, hj] at r18j ⊢; exact r18j
  · have hd : ¬ S 18 k = S 0 0 := by
      rw [e18.1, e0]
      split <;> omega
    rw [if_neg hc, if_neg hd]
    exact h
theorem fi_f (X : Nat → Nat → Int) (n : Nat) (t : Int) {f : Nat} (i : Nat) (hf : f ≠ 14 ∧ f ≠ 34) : fiS X n t f i = X f i := by
  unfold fiS
  split <;> simp [up, hf.1, hf.2]
theorem fi_34 (X : Nat → Nat → Int) (n : Nat) (t : Int) {i : Nat} (hi : i ≠ n) : fiS X n t 34 i = X 34 i := by
  unfold fiS
  split <;> simp [up, hi]
theorem p3_f (X : Nat → Nat → Int) {f : Nat} (i : Nat) (hf : f ≠ 14 ∧ f ≠ 34) : ∀ k : Nat, pa3 X k f i = X f i := by
  intro k
  induction k with
  | zero => rfl
  | succ k ih => exact (fi_f _ _ _ _ hf).trans ih
theorem p3_34 (X : Nat → Nat → Int) {i : Nat} : ∀ k : Nat, k ≤ i → pa3 X k 34 i = X 34 i := by
  intro k
  induction k with
  | zero => intro _; rfl
  | succ k ih => intro hk; exact (fi_34 _ _ _ (by omega)).trans (ih (by omega))
theorem rel_3 {X S : Nat → Nat → Int} (h : RelA X S) (hV : VX X) (h0 : 0 < X 6 0) (hT : ∀ k : Nat, 0 ≤ X 34 k → X 6 0 ≤ X 35 k) : ∀ k : Nat, RelA (pa3 X k) (sc3 S k) := by
  intro k
  induction k with
  | zero => exact h
  | succ k ih =>
    have e6 : pa3 X k 6 0 = X 6 0 := p3_f X 0 (by decide) k
    refine rel_3a ih (vx_p3 hV k) (by omega) k ?_
    rw [e6, p3_34 X k (Nat.le_refl k), p3_f X k (by decide) k]
    exact hT k
/-- the end of a day -/
theorem rel_4a {X S : Nat → Nat → Int} (h : RelA X S) (hV : VX X) (k : Nat) : RelA (cdS X k) (cd1 S k) := by
  have b22 : 0 ≤ X 22 k ∧ X 22 k ≤ 1 := hV.1 22 k rfl
  unfold cdS cd1
  by_cases hc : X 22 k = 0
  · rw [if_pos hc]
    obtain ⟨⟨r0, r1, r20⟩, r2, r5, r8, r9, r18⟩ := h
    refine ⟨⟨?_, ?_, ?_⟩, fun j hj2 => ?_, fun j => ?_, fun j => ?_, fun j => ?_, fun j => ?_⟩
    · simp [up]; try omega
    · simp [up]; try omega
    · simp [up]; try omega
    · have hj3 : (j : Int) < _ := hj2
      simp [up] at hj3
      have r2j := r2 j (by omega)
      by_cases hj : j = k
      · subst hj
        simp [up]; try omega
      · simp [up, hj]; try omega
    · have r5j := r5 j
      by_cases hj : j = k
      · subst hj
        simp [up] at r5j ⊢; try first | assumption | omega
      · simp [up, hj] at r5j ⊢; try first | assumption | omega
    · have r8j := r8 j
      by_cases hj : j = k
      · subst hj
        simp [up]; try omega
      · simp [up, hj]; try omega
    · have r9j := r9 j
      by_cases hj : j = k
      · subst hj
        simp [up]; try omega
      · simp [up, hj]; try omega
    · have r18j := r18 j
      by_cases hj : j = k
      · subst hj
        simp [up] at r18j ⊢; try first | assumption | omega
      · simp [up, hj] at r18j ⊢; try first | assumption | omega
  · rw [if_neg hc]
    obtain ⟨⟨r0, r1, r20⟩, r2, r5, r8, r9, r18⟩ := h
    refine ⟨⟨?_, ?_, ?_⟩, fun j hj2 => ?_, fun j => ?_, fun j => ?_, fun j => ?_, fun j => ?_⟩
    · simp [up]; try omega
    · simp [up]; try omega
    · simp [up]; try omega
    · have hj3 : (j : Int) < _ := hj2
      simp [up] at hj3
      have r2j := r2 j (by omega)
      by_cases hj : j = k
      · subst hj
        simp [up]; try omega
      · simp [up, hj]; try omega
    · have r5j := r5 j
      by_cases hj : j = k
      · subst hj
        simp [up] at r5j ⊢; try first | assumption | omega
      · simp [up, hj] at r5j ⊢; try first | assumption | omega
    · have r8j := r8 j
      by_cases hj : j = k
      · subst hj
        simp [up]; try omega
      · simp [up, hj]; try omega
    · have r9j := r9 j
      by_cases hj : j = k
      · subst hj
        simp [up]; try omega
      · simp [up, hj]; try omega
    · have r18j := r18 j
      by_cases hj : j = k
      · subst hj
        simp [up] at r18j ⊢; try first | assumption | omega
      · simp [up, hj] at r18j ⊢; try first | assumption | omega
theorem rel_4 {X S : Nat → Nat → Int} (h : RelA X S) (hV : VX X) : ∀ k : Nat, RelA (pa4 X k) (sc4 S k) := by
  intro k
  induction k with
  | zero => exact h
  | succ k ih => exact rel_4a ih (vx_p4 hV k) k
theorem p2_f (X : Nat → Nat → Int) {f : Nat} (i : Nat) (hf : f ≠ 32) : ∀ k : Nat, pa2 X k f i = X f i := by
  intro k
  induction k with
  | zero => rfl
  | succ k ih => exact (seS_f _ _ _ hf _ 3).trans ih
/-- one second -/
theorem rel_sec {X S : Nat → Nat → Int} (h : RelA X S) (hV : VX X) (hT : TI X) (h6 : X 6 0 < 1000000) : RelA (psS X (X 6 0 + 1)) (secS S) := by
  have b6 : 0 ≤ X 6 0 ∧ X 6 0 ≤ 1000000 := hV.1 6 0 rfl
  have eA : pa1 X (X 6 0 + 1) 8 6 0 = X 6 0 := p1_f X _ 0 (by decide) 8
  have r1 := rel_1 h hV hT 8
  have hA : RelA (psA X (X 6 0 + 1)) (secA S) := by
    unfold psA secA
    have e := r1.1.1
    rw [eA] at e
    rw [e]
    exact rel_t r1 _
  have vA := vx_psA hV (u := X 6 0 + 1) (by omega)
  have r2 := rel_2 hA vA 8
  have tA : psA X (X 6 0 + 1) 6 0 = X 6 0 + 1 := up_s _ _ _ _
  have hB : RelA (psB X (X 6 0 + 1)) (secB S) := by
    refine rel_3 r2 (vx_p2 vA 8) (by rw [p2_6]; omega) (fun k => ?_) 2
    rw [p2_f _ _ (by decide) 8, p2_f _ _ (by decide) 8, p2_f _ _ (by decide) 8, tA]
    show 0 ≤ up _ _ _ _ 34 k → _ ≤ up _ _ _ _ 35 k
    rw [up_f _ _ _ _ (by decide), up_f _ _ _ _ (by decide), p1_f X _ _ (by decide) 8, p1_f X _ _ (by decide) 8]
    have := hT.2 k
    omega
  have vB : VX (psB X (X 6 0 + 1)) := vx_p3 (vx_p2 vA 8) 2
  unfold psS secS
  rw [hB.1.1]
  split
  · exact rel_4 hB vB 8
  · exact hB
