/-! PURE: each call, in the class and in the reference. -/
def IV (X S : Nat → Nat → Int) : Prop := RelA X S ∧ VX X ∧ TI X ∧ VS S
theorem rel22 {X S : Nat → Nat → Int} (h : RelA X S) (v : Int) : RelA X (up S 22 0 v) := h
theorem inv22 {X S : Nat → Nat → Int} (h : IV X S) (v : Int) : IV X (up S 22 0 v) := ⟨rel22 h.1 v, h.2.1, h.2.2.1, vs_uf h.2.2.2 (by decide)⟩
theorem ti_up {X : Nat → Nat → Int} (h : TI X) {f i : Nat} {v : Int} (hf : f ≠ 6 ∧ f ≠ 32 ∧ f ≠ 33 ∧ f ≠ 34 ∧ f ≠ 35) : TI (up X f i v) := by
  refine ⟨fun j => ?_, fun j => ?_⟩
  · rw [up_f X i _ v (Ne.symm hf.1), up_f X i _ v (Ne.symm hf.2.1), up_f X i _ v (Ne.symm hf.2.2.1)]
    exact h.1 j
  · rw [up_f X i _ v (Ne.symm hf.1), up_f X i _ v (Ne.symm hf.2.2.2.1), up_f X i _ v (Ne.symm hf.2.2.2.2)]
    exact h.2 j
theorem ti_32 {X : Nat → Nat → Int} (h : TI X) (i : Nat) : TI (up X 32 i 0) := by
  refine ⟨fun j => ?_, fun j => ?_⟩
  · rw [up_f X (f := 32) (g := 6) i _ 0 (by decide), up_f X (f := 32) (g := 33) i _ 0 (by decide)]
    intro hj
    by_cases hi : j = i
    · rw [hi, up_s] at hj
      exact absurd rfl hj
    · rw [up_i X 32 32 0 hi] at hj
      exact h.1 j hj
  · rw [up_f X i _ 0 (by decide), up_f X i _ 0 (by decide), up_f X i _ 0 (by decide)]
    exact h.2 j
theorem ti_ru {X : Nat → Nat → Int} (h : TI X) {i : Nat} {v : Int} (hi : i < 24) (hv : X 6 0 < v) : TI (ruS X i v) := by
  unfold ruS
  refine ⟨fun j hj => ?_, fun j => ?_⟩
  · rw [up_f _ i _ v (by decide), up_f _ i _ _ (by decide)]
    by_cases hji : j = i
    · rw [hji, up_s]
      exact ⟨hi, hv⟩
    · rw [up_f _ i _ v (by decide), up_i X 32 32 _ hji] at hj
      rw [up_i _ 33 33 _ hji, up_f _ i _ _ (by decide)]
      exact h.1 j hj
  · rw [up_f _ i _ v (by decide), up_f _ i _ v (by decide), up_f _ i _ v (by decide), up_f _ i _ _ (by decide), up_f _ i _ _ (by decide), up_f _ i _ _ (by decide)]
    exact h.2 j
theorem ti_bd {X : Nat → Nat → Int} (h : TI X) (n : Nat) : TI (bdS X n) := ti_32 (ti_32 (ti_32 (ti_up h (by decide)) _) _) _
theorem ti_ur {X : Nat → Nat → Int} (h : TI X) (n k : Nat) : TI (urS X n k) := by
  unfold urS
  split
  · exact h
  · exact ti_up h (by decide)
/-- a bell: rings, ends -/
theorem e7 {P : Nat → Prop} {X S : Nat → Nat → Int} (h : Rel P X S) (hV : VX X) (hT : TI X) {i : Nat} (hP : P i) : 0 ≤ S 7 i ∧ (S 7 i = 0 ↔ X 32 i = 0) := by
  have b6 : 0 ≤ X 6 0 ∧ X 6 0 ≤ 1000000 := hV.1 6 0 rfl
  have e := (h.2.2.1 i).2.2 hP
  have t := hT.1 i
  rw [e]
  split <;> omega
theorem ql_01 (X : Nat → Nat → Int) (n : Nat) (t : Int) (hV : VX X) (ht : 0 ≤ t) : qS X n t (t + 1) = 0 ∨ qS X n t (t + 1) = 1 := by
  have b15 : 0 ≤ X 15 n ∧ X 15 n ≤ 999 := hV.1 15 n rfl
  have b16 : 0 ≤ X 16 n ∧ X 16 n ≤ 999 := hV.1 16 n rfl
  unfold qS shS
  have h1 : t % 1000 + (t + 1) - t = t % 1000 + 1 := by omega
  rw [h1]
  split <;> omega
theorem rl_eq {X S : Nat → Nat → Int} (h : RelA X S) (hV : VX X) (hT : TI X) (n b : Nat) : plM S n (3 * n + b) = rlS X n + X 31 (3 * n + b) := by
  have k0 := e7 h hV hT (i := 3 * n + 0) trivial
  have k1 := e7 h hV hT (i := 3 * n + 1) trivial
  have k2 := e7 h hV hT (i := 3 * n + 2) trivial
  unfold plM rlS
  rw [(h.2.2.1 _).2.1, (h.2.2.1 (3 * n + 0)).2.1, (h.2.2.1 (3 * n + 1)).2.1, (h.2.2.1 (3 * n + 2)).2.1]
  (repeat' split) <;> omega
theorem rs_eq {X S : Nat → Nat → Int} (h : RelA X S) (hV : VX X) (hT : TI X) (n : Nat) : rsM S n = rsS X n := by
  have k0 := e7 h hV hT (i := 3 * n + 0) trivial
  have k1 := e7 h hV hT (i := 3 * n + 1) trivial
  have k2 := e7 h hV hT (i := 3 * n + 2) trivial
  unfold rsM rsS
  (repeat' split) <;> omega
/-- a bell begins -/
theorem rel_ru {P : Nat → Prop} {X S : Nat → Nat → Int} (h : Rel P X S) (i : Nat) (v : Int) : Rel P (ruS X i v) (up S 7 i v) := by
  unfold ruS
  obtain ⟨⟨r0, r1, r20⟩, r2, r5, r8, r9, r18⟩ := h
  refine ⟨⟨r0, r1, r20⟩, r2, fun j => ?_, r8, r9, r18⟩
  have r5j := r5 j
  by_cases hj : j = i
  · subst hj
    simp [up] at r5j ⊢
    exact ⟨r5j.1, r5j.2.1⟩
  · simp [up, hj] at r5j ⊢
    exact r5j
theorem rel_7x {P : Nat → Prop} {X S : Nat → Nat → Int} (h : Rel P X S) {i : Nat} (v : Int) (hP : ¬ P i) : Rel P X (up S 7 i v) := by
  obtain ⟨⟨r0, r1, r20⟩, r2, r5, r8, r9, r18⟩ := h
  refine ⟨⟨r0, r1, r20⟩, r2, fun j => ?_, r8, r9, r18⟩
  have r5j := r5 j
  by_cases hj : j = i
  · subst hj
    simp [up] at r5j ⊢
    exact ⟨r5j.1, r5j.2.1, fun q => absurd q hP⟩
  · simp [up, hj] at r5j ⊢
    exact r5j
/-- a house breaks down -/
theorem rel_bd {X S : Nat → Nat → Int} (n : Nat) (h : Rel (fun i => i < 3 * n ∨ 3 * n + 3 ≤ i) X S) : RelA (bdS X n) (brM S n) := by
  unfold bdS brM
  obtain ⟨⟨r0, r1, r20⟩, r2, r5, r8, r9, r18⟩ := h
  refine ⟨⟨r0, r1, r20⟩, r2, fun j => ?_, r8, fun j => ?_, r18⟩
  · have r5j := r5 j
    by_cases h0 : j = 3 * n + 0
    · subst h0
      simp [up] at r5j ⊢
      exact ⟨r5j.1, r5j.2.1⟩
    · by_cases h1 : j = 3 * n + 1
      · subst h1
        simp [up] at r5j ⊢
        exact ⟨r5j.1, r5j.2.1⟩
      · by_cases h2 : j = 3 * n + 2
        · subst h2
          simp [up] at r5j ⊢
          exact ⟨r5j.1, r5j.2.1⟩
        · simp [up, h0, h1, h2] at r5j ⊢
          simp at h0
          simp [h0] 
          exact ⟨r5j.1, r5j.2.1, r5j.2.2 (by omega)⟩
  · have r9j := r9 j
    by_cases hj : j = n
    · subst hj
      simp [up]; omega
    · simp [up, hj]; omega
theorem rel_mono {P Q : Nat → Prop} {X S : Nat → Nat → Int} (h : Rel P X S) (hq : ∀ i, Q i → P i) : Rel Q X S :=
  ⟨h.1, h.2.1, fun i => ⟨(h.2.2.1 i).1, (h.2.2.1 i).2.1, fun q => (h.2.2.1 i).2.2 (hq i q)⟩, h.2.2.2⟩
/-! press -/
theorem rel_press {X S : Nat → Nat → Int} (h : IV X S) {n b k : Nat} (hn : n < 8) (hb : b < 3) (hk : X 30 (3 * n + b) = k) :
    pmV S n (3 * n + b) k = prV X n b k ∧ IV (prX X n b k) (pmS S (up S 22 0 0) n (3 * n + b) k) := by
  obtain ⟨hR, hV, hT, hW⟩ := h
  have hZ : IV X (up S 22 0 0) := inv22 ⟨hR, hV, hT, hW⟩ 0
  have b6 : 0 ≤ X 6 0 ∧ X 6 0 ≤ 1000000 := hV.1 6 0 rfl
  have b14 : 0 ≤ X 14 n ∧ X 14 n ≤ 1 := hV.1 14 n rfl
  have b23 : 0 ≤ X 23 (12 * n + k) ∧ X 23 (12 * n + k) ≤ 1000 := hV.1 23 _ rfl
  have b37 : 1 ≤ X 37 k ∧ X 37 k ≤ 12 := hV.1 37 _ rfl
  have b32 : 0 ≤ X 32 (3 * n + b) ∧ X 32 (3 * n + b) ≤ 1 := hV.1 32 _ rfl
  have hk4 := hV.2.1 (3 * n + b)
  rw [hk] at hk4
  have e11 := (hR.2.2.2.2.1 n).2.2.1
  have s7 := e7 hR hV hT (i := 3 * n + b) trivial
  have e2 := hR.2.1 k hk4
  have e8 := (hR.2.2.2.1 (12 * n + k)).1
  have eq := q_eq hR.1.1 n (hR.2.2.2.2.1 n).1 (hR.2.2.2.2.1 n).2.1 hV
  have el := rl_eq hR hV hT n b
  have q01 := ql_01 X n (X 6 0) hV b6.1
  unfold pmV prV pmS prX
  rw [eq, el, e2.1, e11, e8]
  generalize hw : qS X n (X 6 0) (X 6 0 + 1) = w at *
  by_cases c1 : X 14 n = 0 ∨ X 32 (3 * n + b) ≠ 0
  · rw [if_pos c1, if_pos c1, if_pos (by omega), if_pos (by omega)]
    exact ⟨rfl, hZ⟩
  · have d1 : ¬ (1 - X 14 n = 1 ∨ 0 < S 7 (3 * n + b)) := by omega
    rw [if_neg c1, if_neg c1, if_neg d1, if_neg d1]
    by_cases c2 : 0 < w
    · have d2 : w ≠ 0 := by omega
      rw [if_pos c2, if_pos c2, if_pos d2, if_pos d2]
      refine ⟨rfl, ?_, vx_uf hV ⟨rfl, by decide⟩, ti_up hT (by decide), vs_uf hZ.2.2.2 (by decide)⟩
      have e15 := (hR.2.2.2.2.1 n).2.2.2.2.2.2.1
      rw [e15]
      have g1 : RelA (up X 20 n (X 20 n + 1)) (up S 15 n (X 20 n + 1)) := by
        obtain ⟨⟨r0, r1, r20⟩, r2, r5, r8, r9, r18⟩ := hR
        refine ⟨⟨?_, ?_, ?_⟩, fun j hj2 => ?_, fun j => ?_, fun j => ?_, fun j => ?_, fun j => ?_⟩
        · simp [up]; try omega
        · simp [up]; try omega
        · simp [up]; try omega
        · have hj3 : (j : Int) < _ := hj2
          simp [up] at hj3
          have r2j := r2 j (by omega)
          by_cases hj : j = n
          · subst hj
            simp [up]; try omega
          · simp [up, hj]; try omega
        · have r5j := r5 j
          by_cases hj : j = n
          · subst hj
            simp [up] at r5j ⊢; try first | assumption | omega
          · simp [up, hj] at r5j ⊢; try first | assumption | omega
        · have r8j := r8 j
          by_cases hj : j = n
          · subst hj
            simp [up]; try omega
          · simp [up, hj]; try omega
        · have r9j := r9 j
          by_cases hj : j = n
          · subst hj
            simp [up]; try omega
          · simp [up, hj]; try omega
        · have r18j := r18 j
          by_cases hj : j = n
          · subst hj
            simp [up] at r18j ⊢; try first | assumption | omega
          · simp [up, hj] at r18j ⊢; try first | assumption | omega
      exact g1
    · have d2 : ¬ w ≠ 0 := by omega
      rw [if_neg c2, if_neg c2, if_neg d2, if_neg d2]
      have hm : mrS X n k = 0 ↔ (X 36 k ≠ n ∧ X 23 (12 * n + k) = 0) := by
        unfold mrS
        split <;> omega
      by_cases c3 : mrS X n k = 0
      · rw [if_pos c3, if_pos c3, if_pos (hm.mp c3), if_pos (hm.mp c3)]
        exact ⟨rfl, hZ⟩
      · rw [if_neg c3, if_neg c3, if_neg (fun q => c3 (hm.mpr q)), if_neg (fun q => c3 (hm.mpr q))]
        by_cases c4 : 10 < rlS X n + X 31 (3 * n + b)
        · rw [if_pos c4, if_pos c4, if_pos c4]
          exact ⟨rfl, rel_bd n (rel_mono hZ.1 (fun _ _ => trivial)), vx_bd hV n, ti_bd hT n, vs_br hZ.2.2.2 n⟩
        · rw [if_neg c4, if_neg c4, if_neg c4]
          refine ⟨rfl, ?_⟩
          have hmr : X 36 k = n ∨ 0 < X 23 (12 * n + k) := by
            by_cases q : X 36 k = n
            · exact Or.inl q
            · right
              have : ¬ X 23 (12 * n + k) = 0 := fun q2 => c3 (hm.mpr ⟨q, q2⟩)
              omega
          have vu := vx_ur (h := n) (k := k) hV hmr
          have u6 : urS X n k 6 0 = X 6 0 := urS_f X n k (by decide)
          have u37 : urS X n k 37 k = X 37 k := urS_f X n k (by decide)
          have hU : RelA (urS X n k) (up (up S 22 0 0) 8 (12 * n + k) (X 23 (12 * n + k) - (if X 36 k = n then 0 else 1))) := by
            unfold urS
            by_cases q : X 36 k = n
            · rw [if_pos q, if_pos q]
              have e9 : up (up S 22 0 0) 8 (12 * n + k) (X 23 (12 * n + k) - 0) = up S 22 0 0 := by
                funext f i
                by_cases hfi : f = 8 ∧ i = 12 * n + k
                · obtain ⟨rfl, rfl⟩ := hfi
                  rw [up_s, up_f _ _ _ _ (by decide), e8]
                  omega
                · exact if_neg hfi
              rw [e9]
              exact hZ.1
            · rw [if_neg q, if_neg q]
              have g1 : RelA (up X 23 (12 * n + k) (X 23 (12 * n + k) - 1)) (up S 8 (12 * n + k) (X 23 (12 * n + k) - 1)) := by
                obtain ⟨⟨r0, r1, r20⟩, r2, r5, r8, r9, r18⟩ := hR
                refine ⟨⟨?_, ?_, ?_⟩, fun j hj2 => ?_, fun j => ?_, fun j => ?_, fun j => ?_, fun j => ?_⟩
                · simp [up]; try omega
                · simp [up]; try omega
                · simp [up]; try omega
                · have hj3 : (j : Int) < _ := hj2
                  simp [up] at hj3
                  have r2j := r2 j (by omega)
                  by_cases hj : j = (12 * n + k)
                  · subst hj
                    simp [up]; try omega
                  · simp [up, hj]; try omega
                · have r5j := r5 j
                  by_cases hj : j = (12 * n + k)
                  · subst hj
                    simp [up] at r5j ⊢; try first | assumption | omega
                  · simp [up, hj] at r5j ⊢; try first | assumption | omega
                · have r8j := r8 j
                  by_cases hj : j = (12 * n + k)
                  · subst hj
                    simp [up]; try omega
                  · simp [up, hj]; try omega
                · have r9j := r9 j
                  by_cases hj : j = (12 * n + k)
                  · subst hj
                    simp [up]; try omega
                  · simp [up, hj]; try omega
                · have r18j := r18 j
                  by_cases hj : j = (12 * n + k)
                  · subst hj
                    simp [up] at r18j ⊢; try first | assumption | omega
                  · simp [up, hj] at r18j ⊢; try first | assumption | omega
              exact g1
          have vW : VS (up (up S 22 0 0) 8 (12 * n + k) (X 23 (12 * n + k) - (if X 36 k = n then 0 else 1))) := vs_up hZ.2.2.2 (by decide) (fun _ _ => by
            show 0 ≤ _ ∧ _ ≤ (1000 : Int)
            split <;> omega)
          refine ⟨?_, vx_ru vu (by rw [u6, u37]; omega), ti_ru (ti_ur hT n k) (by omega) (by rw [u6, u37]; omega), vs_be vW _⟩
          unfold beS
          have e0 : up (up S 22 0 0) 8 (12 * n + k) (X 23 (12 * n + k) - (if X 36 k = n then 0 else 1)) 0 0 = X 6 0 := by
            rw [up_f _ _ _ _ (by decide), up_f _ _ _ _ (by decide)]
            exact hR.1.1
          have e5 : up (up S 22 0 0) 8 (12 * n + k) (X 23 (12 * n + k) - (if X 36 k = n then 0 else 1)) 5 (3 * n + b) = X 30 (3 * n + b) + 1 := by
            rw [up_f _ _ _ _ (by decide), up_f _ _ _ _ (by decide)]
            exact (hR.2.2.1 _).1
          have e3 : up (up S 22 0 0) 8 (12 * n + k) (X 23 (12 * n + k) - (if X 36 k = n then 0 else 1)) 3 k = X 37 k := by
            rw [up_f _ _ _ _ (by decide), up_f _ _ _ _ (by decide)]
            exact e2.2.1
          have ek : (X 30 (3 * n + b) + 1 - 1).toNat = k := by omega
          rw [e0, e5, ek, e3, u6, u37]
          exact rel_ru hU _ _
