/-! PURE: the class over integers: the stretches of a pass, what the operations leave. -/
/-- a bell that rings ends later, a crew under way comes later -/
def TI (X : Nat → Nat → Int) : Prop := (∀ i : Nat, X 32 i ≠ 0 → i < 24 ∧ X 6 0 < X 33 i) ∧ ∀ k : Nat, 0 ≤ X 34 k → k < 2 ∧ X 6 0 < X 35 k
theorem sp_f (X : Nat → Nat → Int) (h : Nat) (s e : Int) {f : Nat} (i : Nat) (hf : f ≠ 18 ∧ f ≠ 19 ∧ f ≠ 22) : spS X h s e f i = X f i := by
  unfold spS
  (repeat' split) <;> simp [up, hf.1, hf.2.1, hf.2.2]
theorem p1_f (X : Nat → Nat → Int) (u : Int) {f : Nat} (i : Nat) (hf : f ≠ 18 ∧ f ≠ 19 ∧ f ≠ 22) : ∀ k : Nat, pa1 X u k f i = X f i := by
  intro k
  induction k with
  | zero => rfl
  | succ k ih => exact (sp_f _ _ _ _ _ hf).trans ih
theorem ti_p1 {X : Nat → Nat → Int} (hT : TI X) (u : Int) (k : Nat) : TI (pa1 X u k) := by
  refine ⟨fun i => ?_, fun i => ?_⟩
  · rw [p1_f X u i (by decide) k, p1_f X u 0 (by decide) k, p1_f X u i (by decide) k]
    exact hT.1 i
  · rw [p1_f X u i (by decide) k, p1_f X u 0 (by decide) k, p1_f X u i (by decide) k]
    exact hT.2 i
theorem se1 (X : Nat → Nat → Int) (h : Nat) (t : Int) (k : Nat) : seS X h t (k + 1) = if seS X h t k 33 (3 * h + k) ≤ t then up (seS X h t k) 32 (3 * h + k) 0 else seS X h t k := by
  rw [seS_f X h t (by decide) _ k]
  rfl
theorem p2_6 (X : Nat → Nat → Int) : ∀ k : Nat, pa2 X k 6 0 = X 6 0 := by
  intro k
  induction k with
  | zero => rfl
  | succ k ih => exact (seS_f _ _ _ (by decide) _ 3).trans ih
theorem fi_f (X : Nat → Nat → Int) (n : Nat) (t : Int) {f : Nat} (i : Nat) (hf : f ≠ 14 ∧ f ≠ 34) : fiS X n t f i = X f i := by
  unfold fiS
  split <;> simp [up, hf.1, hf.2]
theorem fi_34 (X : Nat → Nat → Int) (n : Nat) (t : Int) {i : Nat} (hi : i ≠ n) : fiS X n t 34 i = X 34 i := by
  unfold fiS
  split <;> simp [up, hi]
theorem p3_f (X : Nat → Nat → Int) {f : Nat} (i : Nat) (hf : f ≠ 14 ∧ f ≠ 34) : ∀ k : Nat, pa3 X k f i = X f i := by
  intro k
  induction k with
  | zero => rfl
  | succ k ih => exact (fi_f _ _ _ _ hf).trans ih
theorem p3_34 (X : Nat → Nat → Int) {i : Nat} : ∀ k : Nat, k ≤ i → pa3 X k 34 i = X 34 i := by
  intro k
  induction k with
  | zero => intro _; rfl
  | succ k ih => intro hk; exact (fi_34 _ _ _ (by omega)).trans (ih (by omega))
theorem p2_f (X : Nat → Nat → Int) {f : Nat} (i : Nat) (hf : f ≠ 32) : ∀ k : Nat, pa2 X k f i = X f i := by
  intro k
  induction k with
  | zero => rfl
  | succ k ih => exact (seS_f _ _ _ hf _ 3).trans ih
theorem rs_c {X Y : Nat → Nat → Int} (h : Nat) (e : ∀ i, Y 32 i = X 32 i) : rsS Y h = rsS X h := by
  unfold rsS
  rw [e, e, e]
theorem q_c {X Y : Nat → Nat → Int} (h : Nat) (s u : Int) (e : Y 15 h = X 15 h ∧ Y 16 h = X 16 h) : qS Y h s u = qS X h s u := by
  unfold qS
  rw [e.1, e.2]
theorem sp_c (X : Nat → Nat → Int) (h : Nat) (s u : Int) (f i : Nat) : spS X h s u f i = if i = h ∧ rsS X h ≠ 0 then (if f = 18 then X 18 i + (u - s) else if f = 19 then X 19 i + qS X i s u else if f = 22 ∧ 0 < qS X i s u then 0 else X f i) else X f i := by
  unfold spS
  by_cases hr : rsS X h = 0
  · simp [hr]
  · by_cases hi : i = h
    · subst hi
      by_cases hq : 0 < qS X i s u
      · simp [hr, hq, up]
        (repeat' split) <;> simp_all
      · simp [hr, hq, up]
        (repeat' split) <;> simp_all
    · simp only [hr, hi, if_false, false_and]
      split <;> simp [up, hi]
theorem p1_c (X : Nat → Nat → Int) (u : Int) (f i : Nat) : ∀ k : Nat, pa1 X u k f i = if i < k ∧ rsS X i ≠ 0 then (if f = 18 then X 18 i + (u - X 6 0) else if f = 19 then X 19 i + qS X i (X 6 0) u else if f = 22 ∧ 0 < qS X i (X 6 0) u then 0 else X f i) else X f i := by
  intro k
  induction k generalizing f i with
  | zero => simp [pa1]
  | succ k ih =>
    have e6 : pa1 X u k 6 0 = X 6 0 := p1_f X u 0 (by decide) k
    have er : rsS (pa1 X u k) k = rsS X k := rs_c k (fun j => p1_f X u j (by decide) k)
    have eq : ∀ j, qS (pa1 X u k) j (X 6 0) u = qS X j (X 6 0) u := fun j => q_c j _ _ ⟨p1_f X u j (by decide) k, p1_f X u j (by decide) k⟩
    show spS (pa1 X u k) k (pa1 X u k 6 0) u f i = _
    rw [sp_c, e6, er, eq, ih, ih, ih]
    by_cases hi : i = k
    · subst hi
      simp
    · have e1 : i < k + 1 ↔ i < k := by omega
      simp [hi, e1]
theorem psA_c (X : Nat → Nat → Int) (u : Int) (f i : Nat) : psA X u f i = if f = 6 ∧ i = 0 then u else if i < 8 ∧ rsS X i ≠ 0 then (if f = 18 then X 18 i + (u - X 6 0) else if f = 19 then X 19 i + qS X i (X 6 0) u else if f = 22 ∧ 0 < qS X i (X 6 0) u then 0 else X f i) else X f i := by
  unfold psA
  rw [← p1_c X u f i 8]
  rfl
theorem qS_0 (X : Nat → Nat → Int) (h : Nat) (s u : Int) : 0 ≤ qS X h s u := by
  unfold qS shS
  split <;> omega
/-- nothing changes before u -/
def Qu (X : Nat → Nat → Int) (u : Int) : Prop := (∀ i, X 32 i ≠ 0 → u ≤ X 33 i) ∧ (∀ k, 0 ≤ X 34 k → u ≤ X 35 k) ∧ X 6 0 % 1000 + (u - X 6 0) ≤ 1000
theorem psA_f (X : Nat → Nat → Int) (u : Int) {f : Nat} (i : Nat) (hf : f ≠ 6 ∧ f ≠ 18 ∧ f ≠ 19 ∧ f ≠ 22) : psA X u f i = X f i := by
  unfold psA
  rw [up_f _ _ _ _ hf.1]
  exact p1_f X u i ⟨hf.2.1, hf.2.2.1, hf.2.2.2⟩ 8
theorem psA_6 (X : Nat → Nat → Int) (u : Int) : psA X u 6 0 = u := up_s _ _ _ _
theorem fs_hit (X : Nat → Nat → Int) (h : Nat) (l : Int) : ∀ k j : Nat, j < k → X 32 (3 * h + j) ≠ 0 → fsS X h l k ≤ X 33 (3 * h + j) := by
  intro k
  induction k with
  | zero => intro j hj; omega
  | succ k ih =>
    intro j hj hr
    by_cases hjk : j = k
    · subst hjk
      unfold fsS
      split <;> omega
    · have := ih j (by omega) hr
      unfold fsS
      split <;> omega
theorem fs_low {X : Nat → Nat → Int} (hT : TI X) (h : Nat) {l : Int} (hl : X 6 0 < l) : ∀ k : Nat, X 6 0 < fsS X h l k := by
  intro k
  induction k with
  | zero => exact hl
  | succ k ih =>
    have := hT.1 (3 * h + k)
    unfold fsS
    split
    · rename_i q
      exact (this q.1).2
    · exact ih
theorem nh_hit (X : Nat → Nat → Int) (n : Int) : ∀ k h j : Nat, h < k → j < 3 → X 32 (3 * h + j) ≠ 0 → ncH X n k ≤ X 33 (3 * h + j) := by
  intro k
  induction k with
  | zero => intro h j hh; omega
  | succ k ih =>
    intro h j hh hj hr
    by_cases hk : h = k
    · subst hk
      have := fs_hit X h (ncH X n h) 3 j hj hr
      unfold ncH
      omega
    · have := ih h j (by omega) hj hr
      unfold ncH
      omega
theorem nh_low {X : Nat → Nat → Int} (hT : TI X) {n : Int} (hn : X 6 0 < n) : ∀ k : Nat, X 6 0 < ncH X n k := by
  intro k
  induction k with
  | zero => exact hn
  | succ k ih =>
    have := fs_low hT k ih 3
    unfold ncH
    omega
theorem nc_hit (X : Nat → Nat → Int) (n : Int) : ∀ k j : Nat, j < k → 0 ≤ X 34 j → ncC X n k ≤ X 35 j := by
  intro k
  induction k with
  | zero => intro j hj; omega
  | succ k ih =>
    intro j hj hr
    by_cases hjk : j = k
    · subst hjk
      unfold ncC
      split <;> omega
    · have := ih j (by omega) hr
      unfold ncC
      split <;> omega
theorem nc_low {X : Nat → Nat → Int} (hT : TI X) {n : Int} (hn : X 6 0 < n) : ∀ k : Nat, X 6 0 < ncC X n k := by
  intro k
  induction k with
  | zero => exact hn
  | succ k ih =>
    have := hT.2 k
    unfold ncC
    split
    · rename_i q
      have := (this q).2
      omega
    · exact ih
theorem nc_qu {X : Nat → Nat → Int} (hV : VX X) (hT : TI X) {e : Int} (he : X 6 0 < e) : X 6 0 < ncS X e ∧ ncS X e ≤ e ∧ Qu X (ncS X e) := by
  have b6 : 0 ≤ X 6 0 ∧ X 6 0 ≤ 1000000 := hV.1 6 0 rfl
  have r1 : X 6 0 % 1000 < 1000 := Int.emod_lt_of_pos _ (by decide)
  have hm : X 6 0 < min e (X 6 0 - X 6 0 % 1000 + 1000) := by omega
  have l1 := nh_low hT hm 8
  have l2 := nc_low hT l1 2
  have u1 := nh_le X (min e (X 6 0 - X 6 0 % 1000 + 1000)) 8
  have u2 := nc_le X (ncH X (min e (X 6 0 - X 6 0 % 1000 + 1000)) 8) 2
  unfold ncS
  refine ⟨l2, by omega, fun i hi => ?_, fun k hk => ?_, by omega⟩
  · have hi2 := (hT.1 i hi).1
    have e1 : 3 * (i / 3) + i % 3 = i := by omega
    have := nh_hit X (min e (X 6 0 - X 6 0 % 1000 + 1000)) 8 (i / 3) (i % 3) (by omega) (by omega) (by rw [e1]; exact hi)
    rw [e1] at this
    omega
  · exact nc_hit X _ 2 k (hT.2 k hk).1 hk
theorem se_32 (X : Nat → Nat → Int) (n : Nat) (t : Int) (i : Nat) : ∀ k : Nat, seS X n t k 32 i ≠ 0 → X 32 i ≠ 0 ∧ (3 * n ≤ i → i < 3 * n + k → t < X 33 i) := by
  intro k
  induction k with
  | zero => intro h; exact ⟨h, fun _ _ => by omega⟩
  | succ k ih =>
    unfold seS
    split
    · rename_i hc
      intro h
      by_cases hi : i = 3 * n + k
      · subst hi
        rw [up_s] at h
        exact absurd rfl h
      · rw [up_i _ _ _ _ hi] at h
        have := ih h
        exact ⟨this.1, fun h1 h2 => this.2 h1 (by omega)⟩
    · rename_i hc
      intro h
      have := ih h
      refine ⟨this.1, fun h1 h2 => ?_⟩
      by_cases hi : i = 3 * n + k
      · subst hi
        omega
      · exact this.2 h1 (by omega)
theorem p2_32 (X : Nat → Nat → Int) (i : Nat) : ∀ k : Nat, pa2 X k 32 i ≠ 0 → X 32 i ≠ 0 ∧ (i < 3 * k → X 6 0 < X 33 i) := by
  intro k
  induction k with
  | zero => intro h; exact ⟨h, fun _ => by omega⟩
  | succ k ih =>
    intro h
    have h1 := se_32 (pa2 X k) k (pa2 X k 6 0) i 3 h
    rw [p2_6, p2_f X (f := 33) i (by decide) k] at h1
    have h2 := ih h1.1
    refine ⟨h2.1, fun h3 => ?_⟩
    by_cases hi : 3 * k ≤ i
    · exact h1.2 hi (by omega)
    · exact h2.2 (by omega)
theorem fi_34b (X : Nat → Nat → Int) (n : Nat) (t : Int) (i : Nat) : 0 ≤ fiS X n t 34 i → 0 ≤ X 34 i ∧ (i = n → t < X 35 i) := by
  unfold fiS
  split
  · rename_i hc
    intro h
    by_cases hi : i = n
    · subst hi
      rw [up_s] at h
      omega
    · rw [up_i _ _ _ _ hi, up_f _ _ _ _ (by decide)] at h
      exact ⟨h, fun q => absurd q hi⟩
  · rename_i hc
    intro h
    refine ⟨h, fun q => ?_⟩
    subst q
    omega
theorem p3_34b (X : Nat → Nat → Int) (i : Nat) : ∀ k : Nat, 0 ≤ pa3 X k 34 i → 0 ≤ X 34 i ∧ (i < k → X 6 0 < X 35 i) := by
  intro k
  induction k with
  | zero => intro h; exact ⟨h, fun _ => by omega⟩
  | succ k ih =>
    intro h
    have h1 := fi_34b (pa3 X k) k (pa3 X k 6 0) i h
    rw [p3_f X 0 (by decide) k, p3_f X (f := 35) i (by decide) k] at h1
    have h2 := ih h1.1
    refine ⟨h2.1, fun h3 => ?_⟩
    by_cases hi : i = k
    · exact h1.2 hi
    · exact h2.2 (by omega)
theorem cd_f (X : Nat → Nat → Int) (h : Nat) {f : Nat} (i : Nat) (hf : f ≠ 17 ∧ f ≠ 21 ∧ f ≠ 22) : cdS X h f i = X f i := by
  unfold cdS
  split <;> simp [up, hf.1, hf.2.1, hf.2.2]
theorem p4_f (X : Nat → Nat → Int) {f : Nat} (i : Nat) (hf : f ≠ 17 ∧ f ≠ 21 ∧ f ≠ 22) : ∀ k : Nat, pa4 X k f i = X f i := by
  intro k
  induction k with
  | zero => rfl
  | succ k ih => exact (cd_f _ _ _ hf).trans ih
theorem ps_B (X : Nat → Nat → Int) (u : Int) {f : Nat} (i : Nat) (hf : f ≠ 17 ∧ f ≠ 21 ∧ f ≠ 22) : psS X u f i = psB X u f i := by
  unfold psS
  split
  · exact p4_f _ _ hf 8
  · rfl
theorem psB_f (X : Nat → Nat → Int) (u : Int) {f : Nat} (i : Nat) (hf : f ≠ 14 ∧ f ≠ 34 ∧ f ≠ 32) : psB X u f i = psA X u f i := by
  unfold psB
  rw [p3_f _ _ ⟨hf.1, hf.2.1⟩ 2, p2_f _ _ hf.2.2 8]
theorem ps_6 (X : Nat → Nat → Int) (u : Int) : psS X u 6 0 = u := by
  rw [ps_B _ _ _ (by decide), psB_f _ _ _ (by decide), psA_6]
theorem ti_ps {X : Nat → Nat → Int} (hT : TI X) (u : Int) : TI (psS X u) := by
  refine ⟨fun i => ?_, fun i => ?_⟩
  · rw [ps_6, ps_B _ _ _ (by decide), ps_B _ _ _ (by decide), psB_f _ _ _ (f := 33) (by decide), psA_f _ _ _ (by decide)]
    unfold psB
    rw [p3_f _ _ (by decide) 2]
    intro h
    have h1 := p2_32 _ i 8 h
    rw [psA_f _ _ _ (by decide), psA_6, psA_f _ _ _ (by decide)] at h1
    have h2 := hT.1 i h1.1
    exact ⟨h2.1, h1.2 (by omega)⟩
  · rw [ps_6, ps_B _ _ _ (by decide), ps_B _ _ _ (by decide), psB_f _ _ _ (f := 35) (by decide), psA_f _ _ _ (by decide)]
    unfold psB
    intro h
    have h1 := p3_34b _ i 2 h
    rw [p2_f _ _ (by decide) 8, p2_6, p2_f _ _ (by decide) 8, psA_f _ _ _ (by decide), psA_6, psA_f _ _ _ (by decide)] at h1
    have h2 := hT.2 i h1.1
    exact ⟨h2.1, h1.2 h2.1⟩
theorem ti_up {X : Nat → Nat → Int} (h : TI X) {f i : Nat} {v : Int} (hf : f ≠ 6 ∧ f ≠ 32 ∧ f ≠ 33 ∧ f ≠ 34 ∧ f ≠ 35) : TI (up X f i v) := by
  refine ⟨fun j => ?_, fun j => ?_⟩
  · rw [up_f X i _ v (Ne.symm hf.1), up_f X i _ v (Ne.symm hf.2.1), up_f X i _ v (Ne.symm hf.2.2.1)]
    exact h.1 j
  · rw [up_f X i _ v (Ne.symm hf.1), up_f X i _ v (Ne.symm hf.2.2.2.1), up_f X i _ v (Ne.symm hf.2.2.2.2)]
    exact h.2 j
theorem ti_32 {X : Nat → Nat → Int} (h : TI X) (i : Nat) : TI (up X 32 i 0) := by
  refine ⟨fun j => ?_, fun j => ?_⟩
  · rw [up_f X (f := 32) (g := 6) i _ 0 (by decide), up_f X (f := 32) (g := 33) i _ 0 (by decide)]
    intro hj
    by_cases hi : j = i
    · rw [hi, up_s] at hj
      exact absurd rfl hj
    · rw [up_i X 32 32 0 hi] at hj
      exact h.1 j hj
  · rw [up_f X i _ 0 (by decide), up_f X i _ 0 (by decide), up_f X i _ 0 (by decide)]
    exact h.2 j
theorem ti_ru {X : Nat → Nat → Int} (h : TI X) {i : Nat} {v : Int} (hi : i < 24) (hv : X 6 0 < v) : TI (ruS X i v) := by
  unfold ruS
  refine ⟨fun j hj => ?_, fun j => ?_⟩
  · rw [up_f _ i _ v (by decide), up_f _ i _ _ (by decide)]
    by_cases hji : j = i
    · rw [hji, up_s]
      exact ⟨hi, hv⟩
    · rw [up_f _ i _ v (by decide), up_i X 32 32 _ hji] at hj
      rw [up_i _ 33 33 _ hji, up_f _ i _ _ (by decide)]
      exact h.1 j hj
  · rw [up_f _ i _ v (by decide), up_f _ i _ v (by decide), up_f _ i _ v (by decide), up_f _ i _ _ (by decide), up_f _ i _ _ (by decide), up_f _ i _ _ (by decide)]
    exact h.2 j
theorem ti_bd {X : Nat → Nat → Int} (h : TI X) (n : Nat) : TI (bdS X n) := ti_32 (ti_32 (ti_32 (ti_up h (by decide)) _) _) _
theorem ti_ur {X : Nat → Nat → Int} (h : TI X) (n k : Nat) : TI (urS X n k) := by
  unfold urS
  split
  · exact h
  · exact ti_up h (by decide)
theorem ql_01 (X : Nat → Nat → Int) (n : Nat) (t : Int) (hV : VX X) (ht : 0 ≤ t) : qS X n t (t + 1) = 0 ∨ qS X n t (t + 1) = 1 := by
  have b15 : 0 ≤ X 15 n ∧ X 15 n ≤ 999 := hV.1 15 n rfl
  have b16 : 0 ≤ X 16 n ∧ X 16 n ≤ 999 := hV.1 16 n rfl
  unfold qS shS
  have h1 : t % 1000 + (t + 1) - t = t % 1000 + 1 := by omega
  rw [h1]
  split <;> omega
theorem fa_f (X : Nat → Nat → Int) (n : Nat) {f : Nat} (i : Nat) (hf : f ≠ 32 ∧ f ≠ 33) : ∀ k : Nat, faX X n k f i = X f i := by
  intro k
  induction k with
  | zero => rfl
  | succ k ih =>
    unfold faX
    split
    · exact (sbX_f _ _ _ hf _ _).trans ih
    · exact ih
theorem fa_lo (X : Nat → Nat → Int) (n : Nat) : ∀ k : Nat, k ≤ 4 * (n / 4) → faX X n k = X ∧ faN X n k = 0 := by
  intro k
  induction k with
  | zero => intro _; exact ⟨rfl, rfl⟩
  | succ k ih =>
    intro hk
    have h1 := ih (by omega)
    unfold faX faN
    rw [if_neg (fun q => by omega), if_neg (fun q => by omega)]
    exact h1
theorem fa_hi (X : Nat → Nat → Int) (n : Nat) : ∀ k : Nat, faX X n (4 * (n / 4) + 4 + k) = faX X n (4 * (n / 4) + 4) ∧ faN X n (4 * (n / 4) + 4 + k) = faN X n (4 * (n / 4) + 4) := by
  intro k
  induction k with
  | zero => exact ⟨rfl, rfl⟩
  | succ k ih =>
    show faX X n ((4 * (n / 4) + 4 + k) + 1) = _ ∧ faN X n ((4 * (n / 4) + 4 + k) + 1) = _
    rw [faX, faN, if_neg (fun q => by omega), if_neg (fun q => by omega)]
    exact ih
theorem ti_sb {X : Nat → Nat → Int} (hV : VX X) (hT : TI X) {h : Nat} (hh : h < 8) : ∀ k : Nat, k ≤ 3 → TI (sbX X h (X 6 0) k) := by
  intro k
  induction k with
  | zero => intro _; exact hT
  | succ k ih =>
    intro hk
    have h1 := ih (by omega)
    have b37 : 1 ≤ X 37 (X 30 (3 * h + k)).toNat ∧ X 37 (X 30 (3 * h + k)).toNat ≤ 12 := hV.1 37 _ rfl
    unfold sbX
    split
    · exact ti_ru h1 (by omega) (by rw [sbX_f X h _ (by decide) 0 k]; omega)
    · exact h1
theorem sb_s (X : Nat → Nat → Int) (h : Nat) (t : Int) (k : Nat) : sbX X h t (k + 1) = if 0 ≤ X 30 (3 * h + k) ∧ X 32 (3 * h + k) = 0 then ruS (sbX X h t k) (3 * h + k) (t + 2 * X 37 (X 30 (3 * h + k)).toNat) else sbX X h t k := rfl
theorem sb_n (X : Nat → Nat → Int) (h : Nat) (k : Nat) : sbN X h (k + 1) = if 0 ≤ X 30 (3 * h + k) ∧ X 32 (3 * h + k) = 0 then sbN X h k + 1 else sbN X h k := rfl
