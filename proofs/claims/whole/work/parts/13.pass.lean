/-! a stretch is its seconds -/
theorem rs_c {X Y : Nat → Nat → Int} (h : Nat) (e : ∀ i, Y 32 i = X 32 i) : rsS Y h = rsS X h := by
  unfold rsS
  rw [e, e, e]
theorem q_c {X Y : Nat → Nat → Int} (h : Nat) (s u : Int) (e : Y 15 h = X 15 h ∧ Y 16 h = X 16 h) : qS Y h s u = qS X h s u := by
  unfold qS
  rw [e.1, e.2]
theorem sp_c (X : Nat → Nat → Int) (h : Nat) (s u : Int) (f i : Nat) : spS X h s u f i = if i = h ∧ rsS X h ≠ 0 then (if f = 18 then X 18 i + (u - s) else if f = 19 then X 19 i + qS X i s u else if f = 22 ∧ 0 < qS X i s u then 0 else X f i) else X f i := by
  unfold spS
  by_cases hr : rsS X h = 0
  · simp [hr]
  · by_cases hi : i = h
    · subst hi
      by_cases hq : 0 < qS X i s u
      · simp [hr, hq, up]
        (repeat' split) <;> simp_all
      · simp [hr, hq, up]
        (repeat' split) <;> simp_all
    · simp only [hr, hi, if_false, false_and]
      split <;> simp [up, hi]
theorem p1_c (X : Nat → Nat → Int) (u : Int) (f i : Nat) : ∀ k : Nat, pa1 X u k f i = if i < k ∧ rsS X i ≠ 0 then (if f = 18 then X 18 i + (u - X 6 0) else if f = 19 then X 19 i + qS X i (X 6 0) u else if f = 22 ∧ 0 < qS X i (X 6 0) u then 0 else X f i) else X f i := by
  intro k
  induction k generalizing f i with
  | zero => simp [pa1]
  | succ k ih =>
    have e6 : pa1 X u k 6 0 = X 6 0 := p1_f X u 0 (by decide) k
    have er : rsS (pa1 X u k) k = rsS X k := rs_c k (fun j => p1_f X u j (by decide) k)
    have eq : ∀ j, qS (pa1 X u k) j (X 6 0) u = qS X j (X 6 0) u := fun j => q_c j _ _ ⟨p1_f X u j (by decide) k, p1_f X u j (by decide) k⟩
    show spS (pa1 X u k) k (pa1 X u k 6 0) u f i = _
    rw [sp_c, e6, er, eq, ih, ih, ih]
    by_cases hi : i = k
    · subst hi
      simp
    · have e1 : i < k + 1 ↔ i < k := by omega
      simp [hi, e1]
theorem psA_c (X : Nat → Nat → Int) (u : Int) (f i : Nat) : psA X u f i = if f = 6 ∧ i = 0 then u else if i < 8 ∧ rsS X i ≠ 0 then (if f = 18 then X 18 i + (u - X 6 0) else if f = 19 then X 19 i + qS X i (X 6 0) u else if f = 22 ∧ 0 < qS X i (X 6 0) u then 0 else X f i) else X f i := by
  unfold psA
  rw [← p1_c X u f i 8]
  rfl
theorem qS_add {X : Nat → Nat → Int} (hV : VX X) (h : Nat) {t u : Int} (ht : 0 ≤ t) (hu : t + 1 ≤ u) (hd : t % 1000 + (u - t) ≤ 1000) (hd1 : t % 1000 ≠ 999) : qS X h t u = qS X h t (t + 1) + qS X h (t + 1) u := by
  have b15 : 0 ≤ X 15 h ∧ X 15 h ≤ 999 := hV.1 15 h rfl
  have b16 : 0 ≤ X 16 h ∧ X 16 h ≤ 999 := hV.1 16 h rfl
  have e1 : (t + 1) % 1000 = t % 1000 + 1 := by omega
  have r0 : 0 ≤ t % 1000 := Int.emod_nonneg _ (by decide)
  unfold qS shS
  rw [e1]
  have e2 : t % 1000 + u - t = t % 1000 + (u - t) := by omega
  have e3 : t % 1000 + (t + 1) - t = t % 1000 + 1 := by omega
  have e4 : t % 1000 + 1 + u - (t + 1) = t % 1000 + (u - t) := by omega
  rw [e2, e3, e4]
  generalize t % 1000 = r at *
  generalize hw : u - t = w at *
  generalize X 15 h = a at *
  generalize X 16 h = b at *
  have : 1 ≤ w := by omega
  clear hw
  split <;> omega
theorem qS_0 (X : Nat → Nat → Int) (h : Nat) (s u : Int) : 0 ≤ qS X h s u := by
  unfold qS shS
  split <;> omega
theorem p2_id {X : Nat → Nat → Int} (h : ∀ i, X 32 i ≠ 0 → X 6 0 < X 33 i) : ∀ k : Nat, pa2 X k = X := by
  have se : ∀ n k : Nat, seS X n (X 6 0) k = X := by
    intro n k
    induction k with
    | zero => rfl
    | succ k ih =>
      unfold seS
      rw [ih]
      split
      · rename_i hc
        funext f i
        unfold up
        split
        · rename_i q
          rw [q.1, q.2]
          have := h (3 * n + k)
          omega
        · rfl
      · rfl
  intro k
  induction k with
  | zero => rfl
  | succ k ih =>
    show seS (pa2 X k) k (pa2 X k 6 0) 3 = X
    rw [ih]
    exact se k 3
theorem p3_id {X : Nat → Nat → Int} (h : ∀ i, 0 ≤ X 34 i → X 6 0 < X 35 i) : ∀ k : Nat, pa3 X k = X := by
  intro k
  induction k with
  | zero => rfl
  | succ k ih =>
    show fiS (pa3 X k) k (pa3 X k 6 0) = X
    rw [ih]
    unfold fiS
    have := h k
    rw [if_neg (by omega)]
/-- nothing changes before u -/
def Qu (X : Nat → Nat → Int) (u : Int) : Prop := (∀ i, X 32 i ≠ 0 → u ≤ X 33 i) ∧ (∀ k, 0 ≤ X 34 k → u ≤ X 35 k) ∧ X 6 0 % 1000 + (u - X 6 0) ≤ 1000
theorem psA_f (X : Nat → Nat → Int) (u : Int) {f : Nat} (i : Nat) (hf : f ≠ 6 ∧ f ≠ 18 ∧ f ≠ 19 ∧ f ≠ 22) : psA X u f i = X f i := by
  unfold psA
  rw [up_f _ _ _ _ hf.1]
  exact p1_f X u i ⟨hf.2.1, hf.2.2.1, hf.2.2.2⟩ 8
theorem psA_6 (X : Nat → Nat → Int) (u : Int) : psA X u 6 0 = u := up_s _ _ _ _
theorem ps_one {X : Nat → Nat → Int} {u : Int} (hq : Qu X u) (h0 : 0 ≤ X 6 0) (hu : X 6 0 + 1 < u) : psS X (X 6 0 + 1) = psA X (X 6 0 + 1) := by
  obtain ⟨q1, q2, q3⟩ := hq
  have e2 : pa2 (psA X (X 6 0 + 1)) 8 = psA X (X 6 0 + 1) := p2_id (fun i => by
    rw [psA_6, psA_f _ _ _ (by decide), psA_f _ _ _ (by decide)]
    have := q1 i
    omega) 8
  have e3 : psB X (X 6 0 + 1) = psA X (X 6 0 + 1) := by
    unfold psB
    rw [e2]
    exact p3_id (fun i => by
      rw [psA_6, psA_f _ _ _ (by decide), psA_f _ _ _ (by decide)]
      have := q2 i
      omega) 2
  unfold psS
  rw [e3, psA_6, if_neg (by omega)]
theorem psA_two {X : Nat → Nat → Int} (hV : VX X) {u : Int} (hq : Qu X u) (hu : X 6 0 + 1 < u) : psA (psA X (X 6 0 + 1)) u = psA X u := by
  obtain ⟨q1, q2, q3⟩ := hq
  have b6 : 0 ≤ X 6 0 ∧ X 6 0 ≤ 1000000 := hV.1 6 0 rfl
  funext f i
  have er : rsS (psA X (X 6 0 + 1)) i = rsS X i := rs_c i (fun j => psA_f _ _ _ (by decide))
  have eq : qS (psA X (X 6 0 + 1)) i (X 6 0 + 1) u = qS X i (X 6 0 + 1) u := q_c i _ _ ⟨psA_f _ _ _ (by decide), psA_f _ _ _ (by decide)⟩
  have ea := qS_add hV i b6.1 (by omega) q3 (by omega)
  have g1 := qS_0 X i (X 6 0) (X 6 0 + 1)
  have g2 := qS_0 X i (X 6 0 + 1) u
  rw [psA_c (psA X (X 6 0 + 1)) u f i, er, psA_6, eq, psA_c X u f i, ea]
  by_cases h6 : f = 6 ∧ i = 0
  · rw [if_pos h6, if_pos h6]
  · rw [if_neg h6, if_neg h6]
    by_cases hi : i < 8 ∧ rsS X i ≠ 0
    · rw [if_pos hi, if_pos hi, psA_c X _ 18 i, psA_c X _ 19 i, psA_c X _ f i, if_neg h6, if_pos hi, if_pos hi, if_pos hi]
      by_cases f18 : f = 18
      · subst f18
        simp
        omega
      · by_cases f19 : f = 19
        · subst f19
          simp
          omega
        · by_cases f22 : f = 22
          · subst f22
            simp
            (repeat' split) <;> first | rfl | omega
          · simp [f18, f19, f22]
    · rw [if_neg hi, if_neg hi, psA_c X _ f i, if_neg h6, if_neg hi]
theorem psS_A {X Y : Nat → Nat → Int} {u : Int} (h : psA X u = psA Y u) : psS X u = psS Y u := by
  have e : psB X u = psB Y u := by
    unfold psB
    rw [h]
  unfold psS
  rw [e]
/-- n seconds -/
def secN : Nat → (Nat → Nat → Int) → Nat → Nat → Int
  | 0, X => X
  | n + 1, X => secN n (psS X (X 6 0 + 1))
theorem secN_add : ∀ (a b : Nat) (X : Nat → Nat → Int), secN b (secN a X) = secN (a + b) X := by
  intro a
  induction a with
  | zero => intro b X; rw [Nat.zero_add]; rfl
  | succ a ih =>
    intro b X
    rw [Nat.succ_add]
    exact ih b _
theorem qu_A {X : Nat → Nat → Int} {u : Int} (hq : Qu X u) (hu : X 6 0 + 1 < u) : Qu (psA X (X 6 0 + 1)) u := by
  obtain ⟨q1, q2, q3⟩ := hq
  refine ⟨fun i => ?_, fun i => ?_, ?_⟩
  · rw [psA_f _ _ _ (by decide), psA_f _ _ _ (by decide)]
    exact q1 i
  · rw [psA_f _ _ _ (by decide), psA_f _ _ _ (by decide)]
    exact q2 i
  · rw [psA_6]
    omega
theorem ps_secs : ∀ (n : Nat) (X : Nat → Nat → Int), VX X → X 6 0 + (n + 1 : Nat) ≤ 1000000 → Qu X (X 6 0 + (n + 1 : Nat)) → psS X (X 6 0 + (n + 1 : Nat)) = secN (n + 1) X := by
  intro n
  induction n with
  | zero => intro X _ _ _; rfl
  | succ n ih =>
    intro X hV hu hq
    have b6 : 0 ≤ X 6 0 ∧ X 6 0 ≤ 1000000 := hV.1 6 0 rfl
    have h1 := ps_one hq b6.1 (by omega)
    have hV1 : VX (psA X (X 6 0 + 1)) := vx_psA hV (by omega)
    have h2 := psA_two hV hq (by omega)
    show psS X _ = secN (n + 1) (psS X (X 6 0 + 1))
    rw [h1]
    have e6 : psA X (X 6 0 + 1) 6 0 + ((n + 1 : Nat) : Int) = X 6 0 + ((n + 1 + 1 : Nat) : Int) := by rw [psA_6]; omega
    have h3 := ih (psA X (X 6 0 + 1)) hV1 (by omega) (by rw [e6]; exact qu_A hq (by omega))
    rw [e6] at h3
    rw [← h3]
    exact psS_A h2.symm
