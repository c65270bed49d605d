/-! PURE: the reference's second and the class's stretch. -/
/-- the reference: is a second quiet for a house -/
def qM (S : Nat → Nat → Int) (h : Nat) : Int :=
  if S 9 h ≤ S 10 h then (if S 9 h ≤ S 0 0 % 1000 ∧ S 0 0 % 1000 < S 10 h then 1 else 0) else (if S 9 h ≤ S 0 0 % 1000 ∨ S 0 0 % 1000 < S 10 h then 1 else 0)
abbrev anyM (S : Nat → Nat → Int) (h : Nat) : Prop := 0 < S 7 (3 * h + 0) ∨ 0 < S 7 (3 * h + 1) ∨ 0 < S 7 (3 * h + 2)
def rg1 (S : Nat → Nat → Int) (h : Nat) : Nat → Nat → Int := up S 13 h (S 13 h + 1)
def rg2 (S : Nat → Nat → Int) (h : Nat) : Nat → Nat → Int := up (rg1 S h) 14 h (rg1 S h 14 h + qM (rg1 S h) h)
def rg3 (S : Nat → Nat → Int) (h : Nat) : Nat → Nat → Int := up (rg2 S h) 16 h (if qM (rg2 S h) h = 0 then rg2 S h 16 h else 1)
def rgS (S : Nat → Nat → Int) (h : Nat) : Nat → Nat → Int := if anyM S h then rg3 S h else S
def sc1 (S : Nat → Nat → Int) : Nat → Nat → Nat → Int
  | 0 => S
  | k + 1 => rgS (sc1 S k) k
def en1 (S : Nat → Nat → Int) (k : Nat) : Nat → Nat → Int := up S 7 k (if S 7 k ≤ S 0 0 then 0 else S 7 k)
def sc2 (S : Nat → Nat → Int) : Nat → Nat → Nat → Int
  | 0 => S
  | k + 1 => en1 (sc2 S k) k
def cr1 (S : Nat → Nat → Int) (k : Nat) : Nat → Nat → Int := if S 18 k = S 0 0 then up (up S 11 (S 19 k).toNat 0) 18 k 0 else S
def sc3 (S : Nat → Nat → Int) : Nat → Nat → Nat → Int
  | 0 => S
  | k + 1 => cr1 (sc3 S k) k
def cd1 (S : Nat → Nat → Int) (h : Nat) : Nat → Nat → Int := up (up (up S 12 h (S 12 h + (1 - S 16 h - 3 * S 17 h))) 16 h 0) 17 h 0
def sc4 (S : Nat → Nat → Int) : Nat → Nat → Nat → Int
  | 0 => S
  | k + 1 => cd1 (sc4 S k) k
def secA (S : Nat → Nat → Int) : Nat → Nat → Int := up (sc1 S 8) 0 0 (sc1 S 8 0 0 + 1)
def secB (S : Nat → Nat → Int) : Nat → Nat → Int := sc3 (sc2 (secA S) 24) 2
def secS (S : Nat → Nat → Int) : Nat → Nat → Int := if secB S 0 0 % 1000 = 0 then sc4 (secB S) 8 else secB S
/-- the reference's state S and the class's X say the same (the ends of bells only where P) -/
def Rel (P : Nat → Prop) (X S : Nat → Nat → Int) : Prop :=
  (S 0 0 = X 6 0 ∧ S 1 0 = X 4 0 ∧ S 20 0 = X 5 0) ∧ (∀ k : Nat, (k : Int) < X 4 0 → S 2 k = X 36 k ∧ S 3 k = X 37 k ∧ S 4 k = X 38 k) ∧
  (∀ i : Nat, S 5 i = X 30 i + 1 ∧ S 6 i = X 31 i ∧ (P i → S 7 i = if X 32 i = 0 then 0 else X 33 i)) ∧
  (∀ i : Nat, S 8 i = X 23 i ∧ S 21 i = X 7 i) ∧
  (∀ h : Nat, S 9 h = X 15 h ∧ S 10 h = X 16 h ∧ S 11 h = 1 - X 14 h ∧ S 12 h = X 17 h ∧ S 13 h = X 18 h ∧ S 14 h = X 19 h ∧ S 15 h = X 20 h ∧ S 16 h = 1 - X 22 h ∧ S 17 h = X 21 h) ∧
  (∀ k : Nat, S 18 k = (if X 34 k < 0 then 0 else X 35 k) ∧ (0 ≤ X 34 k → S 19 k = X 34 k))
abbrev RelA (X S : Nat → Nat → Int) : Prop := Rel (fun _ => True) X S
/-- a bell that rings ends later, a crew under way comes later -/
def TI (X : Nat → Nat → Int) : Prop := (∀ i : Nat, X 32 i ≠ 0 → i < 24 ∧ X 6 0 < X 33 i) ∧ ∀ k : Nat, 0 ≤ X 34 k → k < 2 ∧ X 6 0 < X 35 k
theorem any_eq {X S : Nat → Nat → Int} (h : RelA X S) (hV : VX X) (hT : TI X) (k : Nat) : anyM S k ↔ rsS X k ≠ 0 := by
  have b6 : 0 ≤ X 6 0 ∧ X 6 0 ≤ 1000000 := hV.1 6 0 rfl
  have key : ∀ i, 0 < S 7 i ↔ X 32 i ≠ 0 := by
    intro i
    rw [(h.2.2.1 i).2.2 trivial]
    have := hT.1 i
    split <;> omega
  unfold anyM rsS
  rw [key, key, key]
  (repeat' split) <;> omega
theorem q_eq {X S : Nat → Nat → Int} (h0 : S 0 0 = X 6 0) (k : Nat) (h9 : S 9 k = X 15 k) (h10 : S 10 k = X 16 k) (hV : VX X) : qM S k = qS X k (X 6 0) (X 6 0 + 1) := by
  have b6 : 0 ≤ X 6 0 ∧ X 6 0 ≤ 1000000 := hV.1 6 0 rfl
  have b15 : 0 ≤ X 15 k ∧ X 15 k ≤ 999 := hV.1 15 k rfl
  have b16 : 0 ≤ X 16 k ∧ X 16 k ≤ 999 := hV.1 16 k rfl
  unfold qM qS shS
  rw [h0, h9, h10]
  generalize X 6 0 = t at *
  have ht : 0 ≤ t % 1000 ∧ t % 1000 < 1000 := ⟨Int.emod_nonneg _ (by decide), Int.emod_lt_of_pos _ (by decide)⟩
  have e : t % 1000 + (t + 1) - t = t % 1000 + 1 := by omega
  rw [e]
  generalize t % 1000 = r at *
  (repeat' split) <;> omega
theorem rel_sp {X S : Nat → Nat → Int} (h : RelA X S) (hV : VX X) (hT : TI X) (k : Nat) : RelA (spS X k (X 6 0) (X 6 0 + 1)) (rgS S k) := by
  have ha := any_eq h hV hT k
  have hq := q_eq h.1.1 k (h.2.2.2.2.1 k).1 (h.2.2.2.2.1 k).2.1 hV
  have b22 : 0 ≤ X 22 k ∧ X 22 k ≤ 1 := hV.1 22 k rfl
  unfold rgS spS
  by_cases hr : rsS X k = 0
  · rw [if_pos hr, if_neg (fun q => (ha.mp q) hr)]
    exact h
  · rw [if_neg hr, if_pos (ha.mpr hr)]
    have q1 : qM (rg1 S k) k = qM S k := by unfold qM rg1; simp [up]
    have q2 : qM (rg2 S k) k = qM S k := by rw [← q1]; unfold qM rg2; simp [up]
    have qb : qM S k = 0 ∨ qM S k = 1 := by unfold qM; (repeat' split) <;> omega
    have e3 : rg3 S k = up (up (up S 13 k (S 13 k + 1)) 14 k (S 14 k + qM S k)) 16 k (if qM S k = 0 then S 16 k else 1) := by
      unfold rg3
      rw [q2]
      unfold rg2
      rw [q1]
      unfold rg1
      simp [up]
    rw [e3, hq]
    rw [hq] at qb
    generalize qS X k (X 6 0) (X 6 0 + 1) = w at *
    have e1 : X 6 0 + 1 - X 6 0 = 1 := by omega
    rw [e1]
    have b22 : 0 ≤ X 22 k ∧ X 22 k ≤ 1 := hV.1 22 k rfl
    by_cases hw : w = 0
    · rw [if_neg (by omega), if_pos hw]
      obtain ⟨⟨r0, r1, r20⟩, r2, r5, r8, r9, r18⟩ := h
      refine ⟨⟨?_, ?_, ?_⟩, fun j hj2 => ?_, fun j => ?_, fun j => ?_, fun j => ?_, fun j => ?_⟩
      · simp [up]; try omega
      · simp [up]; try omega
      · simp [up]; try omega
      · have hj3 : (j : Int) < _ := hj2
        simp [up] at hj3
        have r2j := r2 j (by omega)
        by_cases hj : j = k
        · subst hj
          simp [up]; try omega
        · simp [up, hj]; try omega
      · have r5j := r5 j
        by_cases hj : j = k
        · subst hj
          simp [up] at r5j ⊢; try first | assumption | omega
        · simp [up, hj] at r5j ⊢; try first | assumption | omega
      · have r8j := r8 j
        by_cases hj : j = k
        · subst hj
          simp [up]; try omega
        · simp [up, hj]; try omega
      · have r9j := r9 j
        by_cases hj : j = k
        · subst hj
          simp [up]; try omega
        · simp [up, hj]; try omega
      · have r18j := r18 j
        by_cases hj : j = k
        · subst hj
          simp [up] at r18j ⊢; try first | assumption | omega
        · simp [up, hj] at r18j ⊢; try first | assumption | omega
    · rw [if_pos (by omega), if_neg hw]
      obtain ⟨⟨r0, r1, r20⟩, r2, r5, r8, r9, r18⟩ := h
      refine ⟨⟨?_, ?_, ?_⟩, fun j hj2 => ?_, fun j => ?_, fun j => ?_, fun j => ?_, fun j => ?_⟩
      · simp [up]; try omega
      · simp [up]; try omega
      · simp [up]; try omega
      · have hj3 : (j : Int) < _ := hj2
        simp [up] at hj3
        have r2j := r2 j (by omega)
        by_cases hj : j = k
        · subst hj
          simp [up]; try omega
        · simp [up, hj]; try omega
      · have r5j := r5 j
        by_cases hj : j = k
        · subst hj
          simp [up] at r5j ⊢; try first | assumption | omega
        · simp [up, hj] at r5j ⊢; try first | assumption | omega
      · have r8j := r8 j
        by_cases hj : j = k
        · subst hj
          simp [up]; try omega
        · simp [up, hj]; try omega
      · have r9j := r9 j
        by_cases hj : j = k
        · subst hj
          simp [up]; try omega
        · simp [up, hj]; try omega
      · have r18j := r18 j
        by_cases hj : j = k
        · subst hj
          simp [up] at r18j ⊢; try first | assumption | omega
        · simp [up, hj] at r18j ⊢; try first | assumption | omega
