/-! the stretches of a pass -/
theorem fs_hit (X : Nat → Nat → Int) (h : Nat) (l : Int) : ∀ k j : Nat, j < k → X 32 (3 * h + j) ≠ 0 → fsS X h l k ≤ X 33 (3 * h + j) := by
  intro k
  induction k with
  | zero => intro j hj; omega
  | succ k ih =>
    intro j hj hr
    by_cases hjk : j = k
    · subst hjk
      unfold fsS
      split <;> omega
    · have := ih j (by omega) hr
      unfold fsS
      split <;> omega
theorem fs_low {X : Nat → Nat → Int} (hT : TI X) (h : Nat) {l : Int} (hl : X 6 0 < l) : ∀ k : Nat, X 6 0 < fsS X h l k := by
  intro k
  induction k with
  | zero => exact hl
  | succ k ih =>
    have := hT.1 (3 * h + k)
    unfold fsS
    split
    · rename_i q
      exact (this q.1).2
    · exact ih
theorem nh_hit (X : Nat → Nat → Int) (n : Int) : ∀ k h j : Nat, h < k → j < 3 → X 32 (3 * h + j) ≠ 0 → ncH X n k ≤ X 33 (3 * h + j) := by
  intro k
  induction k with
  | zero => intro h j hh; omega
  | succ k ih =>
    intro h j hh hj hr
    by_cases hk : h = k
    · subst hk
      have := fs_hit X h (ncH X n h) 3 j hj hr
      unfold ncH
      omega
    · have := ih h j (by omega) hj hr
      unfold ncH
      omega
theorem nh_low {X : Nat → Nat → Int} (hT : TI X) {n : Int} (hn : X 6 0 < n) : ∀ k : Nat, X 6 0 < ncH X n k := by
  intro k
  induction k with
  | zero => exact hn
  | succ k ih =>
    have := fs_low hT k ih 3
    unfold ncH
    omega
theorem nc_hit (X : Nat → Nat → Int) (n : Int) : ∀ k j : Nat, j < k → 0 ≤ X 34 j → ncC X n k ≤ X 35 j := by
  intro k
  induction k with
  | zero => intro j hj; omega
  | succ k ih =>
    intro j hj hr
    by_cases hjk : j = k
    · subst hjk
      unfold ncC
      split <;> omega
    · have := ih j (by omega) hr
      unfold ncC
      split <;> omega
theorem nc_low {X : Nat → Nat → Int} (hT : TI X) {n : Int} (hn : X 6 0 < n) : ∀ k : Nat, X 6 0 < ncC X n k := by
  intro k
  induction k with
  | zero => exact hn
  | succ k ih =>
    have := hT.2 k
    unfold ncC
    split
    · rename_i q
      have := (this q).2
      omega
    · exact ih
theorem nc_qu {X : Nat → Nat → Int} (hV : VX X) (hT : TI X) {e : Int} (he : X 6 0 < e) : X 6 0 < ncS X e ∧ ncS X e ≤ e ∧ Qu X (ncS X e) := by
  have b6 : 0 ≤ X 6 0 ∧ X 6 0 ≤ 1000000 := hV.1 6 0 rfl
  have r1 : X 6 0 % 1000 < 1000 := Int.emod_lt_of_pos _ (by decide)
  have hm : X 6 0 < min e (X 6 0 - X 6 0 % 1000 + 1000) := by omega
  have l1 := nh_low hT hm 8
  have l2 := nc_low hT l1 2
  have u1 := nh_le X (min e (X 6 0 - X 6 0 % 1000 + 1000)) 8
  have u2 := nc_le X (ncH X (min e (X 6 0 - X 6 0 % 1000 + 1000)) 8) 2
  unfold ncS
  refine ⟨l2, by omega, fun i hi => ?_, fun k hk => ?_, by omega⟩
  · have hi2 := (hT.1 i hi).1
    have e1 : 3 * (i / 3) + i % 3 = i := by omega
    have := nh_hit X (min e (X 6 0 - X 6 0 % 1000 + 1000)) 8 (i / 3) (i % 3) (by omega) (by omega) (by rw [e1]; exact hi)
    rw [e1] at this
    omega
  · exact nc_hit X _ 2 k (hT.2 k hk).1 hk
theorem se_32 (X : Nat → Nat → Int) (n : Nat) (t : Int) (i : Nat) : ∀ k : Nat, seS X n t k 32 i ≠ 0 → X 32 i ≠ 0 ∧ (3 * n ≤ i → i < 3 * n + k → t < X 33 i) := by
  intro k
  induction k with
  | zero => intro h; exact ⟨h, fun _ _ => by omega⟩
  | succ k ih =>
    unfold seS
    split
    · rename_i hc
      intro h
      by_cases hi : i = 3 * n + k
      · subst hi
        rw [up_s] at h
        exact absurd rfl h
      · rw [up_i _ _ _ _ hi] at h
        have := ih h
        exact ⟨this.1, fun h1 h2 => this.2 h1 (by omega)⟩
    · rename_i hc
      intro h
      have := ih h
      refine ⟨this.1, fun h1 h2 => ?_⟩
      by_cases hi : i = 3 * n + k
      · subst hi
        omega
      · exact this.2 h1 (by omega)
theorem p2_32 (X : Nat → Nat → Int) (i : Nat) : ∀ k : Nat, pa2 X k 32 i ≠ 0 → X 32 i ≠ 0 ∧ (i < 3 * k → X 6 0 < X 33 i) := by
  intro k
  induction k with
  | zero => intro h; exact ⟨h, fun _ => by omega⟩
  | succ k ih =>
    intro h
    have h1 := se_32 (pa2 X k) k (pa2 X k 6 0) i 3 h
    rw [p2_6, p2_f X (f := 33) i (by decide) k] at h1
    have h2 := ih h1.1
    refine ⟨h2.1, fun h3 => ?_⟩
    by_cases hi : 3 * k ≤ i
    · exact h1.2 hi (by omega)
    · exact h2.2 (by omega)
theorem fi_34b (X : Nat → Nat → Int) (n : Nat) (t : Int) (i : Nat) : 0 ≤ fiS X n t 34 i → 0 ≤ X 34 i ∧ (i = n → t < X 35 i) := by
  unfold fiS
  split
  · rename_i hc
    intro h
    by_cases hi : i = n
    · subst hi
      rw [up_s] at h
      omega
    · rw [up_i _ _ _ _ hi, up_f _ _ _ _ (by decide)] at h
      exact ⟨h, fun q => absurd q hi⟩
  · rename_i hc
    intro h
    refine ⟨h, fun q => ?_⟩
    subst q
    omega
theorem p3_34b (X : Nat → Nat → Int) (i : Nat) : ∀ k : Nat, 0 ≤ pa3 X k 34 i → 0 ≤ X 34 i ∧ (i < k → X 6 0 < X 35 i) := by
  intro k
  induction k with
  | zero => intro h; exact ⟨h, fun _ => by omega⟩
  | succ k ih =>
    intro h
    have h1 := fi_34b (pa3 X k) k (pa3 X k 6 0) i h
    rw [p3_f X 0 (by decide) k, p3_f X (f := 35) i (by decide) k] at h1
    have h2 := ih h1.1
    refine ⟨h2.1, fun h3 => ?_⟩
    by_cases hi : i = k
    · exact h1.2 hi
    · exact h2.2 (by omega)
theorem cd_f (X : Nat → Nat → Int) (h : Nat) {f : Nat} (i : Nat) (hf : f ≠ 17 ∧ f ≠ 21 ∧ f ≠ 22) : cdS X h f i = X f i := by
  unfold cdS
  split <;> simp [up, hf.1, hf.2.1, hf.2.2]
theorem p4_f (X : Nat → Nat → Int) {f : Nat} (i : Nat) (hf : f ≠ 17 ∧ f ≠ 21 ∧ f ≠ 22) : ∀ k : Nat, pa4 X k f i = X f i := by
  intro k
  induction k with
  | zero => rfl
  | succ k ih => exact (cd_f _ _ _ hf).trans ih
theorem ps_B (X : Nat → Nat → Int) (u : Int) {f : Nat} (i : Nat) (hf : f ≠ 17 ∧ f ≠ 21 ∧ f ≠ 22) : psS X u f i = psB X u f i := by
  unfold psS
  split
  · exact p4_f _ _ hf 8
  · rfl
theorem psB_f (X : Nat → Nat → Int) (u : Int) {f : Nat} (i : Nat) (hf : f ≠ 14 ∧ f ≠ 34 ∧ f ≠ 32) : psB X u f i = psA X u f i := by
  unfold psB
  rw [p3_f _ _ ⟨hf.1, hf.2.1⟩ 2, p2_f _ _ hf.2.2 8]
theorem ps_6 (X : Nat → Nat → Int) (u : Int) : psS X u 6 0 = u := by
  rw [ps_B _ _ _ (by decide), psB_f _ _ _ (by decide), psA_6]
theorem ti_ps {X : Nat → Nat → Int} (hT : TI X) (u : Int) : TI (psS X u) := by
  refine ⟨fun i => ?_, fun i => ?_⟩
  · rw [ps_6, ps_B _ _ _ (by decide), ps_B _ _ _ (by decide), psB_f _ _ _ (f := 33) (by decide), psA_f _ _ _ (by decide)]
    unfold psB
    rw [p3_f _ _ (by decide) 2]
    intro h
    have h1 := p2_32 _ i 8 h
    rw [psA_f _ _ _ (by decide), psA_6, psA_f _ _ _ (by decide)] at h1
    have h2 := hT.1 i h1.1
    exact ⟨h2.1, h1.2 (by omega)⟩
  · rw [ps_6, ps_B _ _ _ (by decide), ps_B _ _ _ (by decide), psB_f _ _ _ (f := 35) (by decide), psA_f _ _ _ (by decide)]
    unfold psB
    intro h
    have h1 := p3_34b _ i 2 h
    rw [p2_f _ _ (by decide) 8, p2_6, p2_f _ _ (by decide) 8, psA_f _ _ _ (by decide), psA_6, psA_f _ _ _ (by decide)] at h1
    have h2 := hT.2 i h1.1
    exact ⟨h2.1, h1.2 h2.1⟩
theorem vx_sN : ∀ (n : Nat) (X : Nat → Nat → Int), VX X → TI X → X 6 0 + (n : Nat) ≤ 1000000 → VX (secN n X) ∧ TI (secN n X) ∧ secN n X 6 0 = X 6 0 + (n : Nat) := by
  intro n
  induction n with
  | zero => intro X hV hT _; exact ⟨hV, hT, (Int.add_zero _).symm⟩
  | succ n ih =>
    intro X hV hT hn
    have b6 : 0 ≤ X 6 0 ∧ X 6 0 ≤ 1000000 := hV.1 6 0 rfl
    have h6 := ps_6 X (X 6 0 + 1)
    have h := ih (psS X (X 6 0 + 1)) (vx_ps hV (by omega)) (ti_ps hT _) (by omega)
    refine ⟨h.1, h.2.1, h.2.2.trans ?_⟩
    omega
theorem pa_sN {X : Nat → Nat → Int} (hV : VX X) (hT : TI X) {e : Int} (he : X 6 0 ≤ e ∧ e ≤ 1000000) : ∀ j : Nat, ∃ n : Nat, paX X e j = secN n X ∧ X 6 0 + (n : Nat) ≤ e ∧ (X 6 0 + (n : Nat) = e ∨ j ≤ n) := by
  intro j
  induction j with
  | zero => exact ⟨0, rfl, by omega, Or.inr (Nat.le_refl _)⟩
  | succ j ih =>
    obtain ⟨n, e1, e2, e3⟩ := ih
    have hn := vx_sN n X hV hT (by omega)
    unfold paX
    rw [e1, hn.2.2]
    by_cases hc : X 6 0 + (n : Nat) < e
    · rw [if_pos hc]
      have hq := nc_qu hn.1 hn.2.1 (e := e) (by rw [hn.2.2]; exact hc)
      rw [hn.2.2] at hq
      obtain ⟨m, hm⟩ : ∃ m : Nat, ncS (secN n X) e = X 6 0 + (n : Nat) + (m + 1 : Nat) := ⟨(ncS (secN n X) e - (X 6 0 + (n : Nat)) - 1).toNat, by omega⟩
      have hp := ps_secs m (secN n X) hn.1 (by rw [hn.2.2]; omega) (by rw [hn.2.2, ← hm]; exact hq.2.2)
      rw [hn.2.2, ← hm, secN_add] at hp
      exact ⟨n + (m + 1), hp, by omega, by omega⟩
    · rw [if_neg hc]
      exact ⟨n, rfl, e2, Or.inl (by omega)⟩
theorem rel_sN : ∀ (n : Nat) (X S : Nat → Nat → Int), RelA X S → VX X → TI X → X 6 0 + (n : Nat) ≤ 1000000 → RelA (secN n X) (Nat.rec S (fun _ Y => secS Y) n) := by
  intro n
  induction n with
  | zero => intro X S h _ _ _; exact h
  | succ n ih =>
    intro X S h hV hT hn
    have b6 : 0 ≤ X 6 0 ∧ X 6 0 ≤ 1000000 := hV.1 6 0 rfl
    have e : secN (n + 1) X = psS (secN n X) (secN n X 6 0 + 1) := (secN_add n 1 X).symm
    have hv := vx_sN n X hV hT (by omega)
    rw [e]
    exact rel_sec (ih X S h hV hT (by omega)) hv.1 hv.2.1 (by omega)
/-- pass: class and reference -/
def seN (S : Nat → Nat → Int) : Nat → Nat → Nat → Int
  | 0 => S
  | n + 1 => secS (seN S n)
theorem seN_r (S : Nat → Nat → Int) : ∀ n : Nat, seN S n = Nat.rec S (fun _ Y => secS Y) n := by
  intro n
  induction n with
  | zero => rfl
  | succ n ih =>
    show secS (seN S n) = secS _
    rw [ih]
theorem rel_pass {X S : Nat → Nat → Int} (h : RelA X S) (hV : VX X) (hT : TI X) {w : Nat} (hw : X 6 0 + (w : Nat) ≤ 1000000) {j : Nat} (hj : (j : Int) = w ∨ X 6 0 + (w : Nat) ≤ paX X (X 6 0 + (w : Nat)) j 6 0) :
    RelA (paX X (X 6 0 + (w : Nat)) j) (seN S w) ∧ VX (paX X (X 6 0 + (w : Nat)) j) ∧ TI (paX X (X 6 0 + (w : Nat)) j) ∧ paX X (X 6 0 + (w : Nat)) j 6 0 = X 6 0 + (w : Nat) := by
  have b6 : 0 ≤ X 6 0 ∧ X 6 0 ≤ 1000000 := hV.1 6 0 rfl
  obtain ⟨n, e1, e2, e3⟩ := pa_sN hV hT (e := X 6 0 + (w : Nat)) (by omega) j
  have hv := vx_sN n X hV hT (by omega)
  rw [e1, hv.2.2] at hj
  have hn : n = w := by omega
  subst hn
  rw [e1]
  refine ⟨?_, hv.1, hv.2.1, hv.2.2⟩
  rw [seN_r]
  exact rel_sN n X S h hV hT hw
