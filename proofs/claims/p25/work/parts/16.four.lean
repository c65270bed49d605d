/-! PURE: the number of melodies stays; quiet told twice. -/
theorem pr_4 (X : Nat → Nat → Int) (n b k : Nat) : prX X n b k 4 0 = X 4 0 := by
  unfold prX
  split
  · rfl
  · split
    · exact up_f _ _ _ _ (by decide)
    · split
      · rfl
      · split
        · exact bd_f X n (by decide)
        · unfold ruS
          rw [up_f _ _ _ _ (by decide), up_f _ _ _ _ (by decide), urS_f X n k (by decide)]
theorem fr_4 (X : Nat → Nat → Int) (n : Nat) (u : Int) : faR X n u 4 0 = X 4 0 := by
  unfold faR
  rw [up_f _ _ _ _ (by decide), up_f _ _ _ _ (by decide), up_f _ _ _ _ (by decide), bd_f _ _ (by decide)]
  exact fa_f X n 0 (by decide) 8
theorem pa_4 (X : Nat → Nat → Int) (e : Int) : ∀ j : Nat, paX X e j 4 0 = X 4 0 := by
  intro j
  induction j with
  | zero => rfl
  | succ j ih =>
    unfold paX
    split
    · rw [ps_B _ _ _ (by decide), psB_f _ _ _ (by decide), psA_f _ _ _ (by decide)]
      exact ih
    · exact ih
def qv (X : Nat → Nat → Int) (n : Nat) : Int := if 0 < qS X n (X 6 0) (X 6 0 + 1) then 1 else 0
theorem qv_b (X : Nat → Nat → Int) (n : Nat) : qv X n = 0 ∨ qv X n = 1 := by
  unfold qv
  split
  · exact Or.inr rfl
  · exact Or.inl rfl
theorem qu_15 (X : Nat → Nat → Int) (n : Nat) (a b : Int) : up (up X 15 n a) 16 n b 15 n = a ∧ up (up X 15 n a) 16 n b 16 n = b ∧ up (up X 15 n a) 16 n b 6 0 = X 6 0 ∧ up (up X 15 n a) 16 n b 4 0 = X 4 0 := by
  refine ⟨?_, up_s _ _ _ _, ?_, ?_⟩
  · rw [up_f _ _ _ _ (by decide), up_s]
  · rw [up_f _ _ _ _ (by decide), up_f _ _ _ _ (by decide)]
  · rw [up_f _ _ _ _ (by decide), up_f _ _ _ _ (by decide)]
theorem qv_0 (X : Nat → Nat → Int) (n : Nat) (a : Int) : qv (up (up X 15 n a) 16 n a) n = 0 := by
  obtain ⟨e1, e2, -, -⟩ := qu_15 X n a a
  unfold qv
  refine if_neg ?_
  unfold qS shS
  rw [e1, e2, if_pos (Int.le_refl _)]
  omega
theorem qv_2 (X : Nat → Nat → Int) (n : Nat) (a b : Int) : qv (up (up (up (up X 15 n a) 16 n b) 15 n a) 16 n b) n = qv (up (up X 15 n a) 16 n b) n := by
  obtain ⟨e1, e2, e3, -⟩ := qu_15 X n a b
  obtain ⟨f1, f2, f3, -⟩ := qu_15 (up (up X 15 n a) 16 n b) n a b
  unfold qv qS
  rw [e1, e2, e3, f1, f2, f3, e3]
theorem ly_f (X : Nat → Nat → Int) (i : Nat) (a b : Int) : up (up (up X 30 i a) 31 i b) 32 i 0 32 i = 0 ∧ up (up (up X 30 i a) 31 i b) 32 i 0 30 i = a ∧ up (up (up X 30 i a) 31 i b) 32 i 0 4 0 = X 4 0 := by
  refine ⟨up_s _ _ _ _, ?_, ?_⟩
  · rw [up_f _ _ _ _ (by decide), up_f _ _ _ _ (by decide), up_s]
  · rw [up_f _ _ _ _ (by decide), up_f _ _ _ _ (by decide), up_f _ _ _ _ (by decide)]
theorem re_f (X : Nat → Nat → Int) (i : Nat) (a b : Int) : up (up X 34 i a) 35 i b 34 i = a ∧ up (up X 34 i a) 35 i b 6 0 = X 6 0 ∧ up (up X 34 i a) 35 i b 4 0 = X 4 0 := by
  refine ⟨?_, ?_, ?_⟩
  · rw [up_f _ _ _ _ (by decide), up_s]
  · rw [up_f _ _ _ _ (by decide), up_f _ _ _ _ (by decide)]
  · rw [up_f _ _ _ _ (by decide), up_f _ _ _ _ (by decide)]
theorem nx_f (X : Nat → Nat → Int) (k : Nat) (o c t : Int) : nX X k o c t 4 0 = (k + 1 : Nat) ∧ nX X k o c t 37 k = c ∧ nX X k o c t 38 k = t := by
  unfold nX
  refine ⟨up_s _ _ _ _, ?_, ?_⟩
  · rw [up_f _ _ _ _ (by decide), up_f _ _ _ _ (by decide), up_s]
  · rw [up_f _ _ _ _ (by decide), up_s]
