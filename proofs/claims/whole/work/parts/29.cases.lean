/-! PURE: a call in the class and in the reference: the same code, the same answer. -/
def CS (z r q : Int) (Y T : Nat → Nat → Int) : Prop := T 22 0 = z ∧ (z = 0 → r = q) ∧ IV Y T
theorem cs_0 {X S : Nat → Nat → Int} (h : IV X S) {r q : Int} (e : r = q) : CS 0 r q X (up S 22 0 0) := ⟨up_s _ _ _ _, fun _ => e, inv22 h 0⟩
theorem cs_e {X S : Nat → Nat → Int} (h : IV X S) (c r q : Int) (hc : c ≠ 0) : CS c r q X (up S 22 0 c) := ⟨up_s _ _ _ _, fun e => absurd e hc, inv22 h c⟩
theorem cs_e2 {X S : Nat → Nat → Int} (h : IV X S) (c r q : Int) (hc : c ≠ 0) : CS c r q X (up (up S 22 0 0) 22 0 c) := ⟨up_s _ _ _ _, fun e => absurd e hc, inv22 (inv22 h 0) c⟩
section CSs
variable {X S Y T : Nat → Nat → Int} {z r q u v2 u3 u4 t : Int}
theorem cs_points (h : IV X S) (a : co_points X u z r Y) (b : ro_points S u q T) : CS z r q Y T := by
  have hR := h.1
  rcases a with ⟨n, ca, rfl, rfl, rfl⟩ | ⟨ca, rfl, rfl⟩ <;> rcases b with ⟨n2, cb, rfl, rfl⟩ | ⟨cb, rfl⟩
  · obtain rfl : n = n2 := by omega
    refine cs_0 h ?_
    exact (hR.2.2.2.2.1 n).2.2.2.1.symm
  · exact absurd ca.2 (by omega)
  · exact absurd cb.2 (by omega)
  · exact cs_e h 1 _ _ (by decide)
theorem cs_secondsRung (h : IV X S) (a : co_secondsRung X u z r Y) (b : ro_secondsRung S u q T) : CS z r q Y T := by
  have hR := h.1
  rcases a with ⟨n, ca, rfl, rfl, rfl⟩ | ⟨ca, rfl, rfl⟩ <;> rcases b with ⟨n2, cb, rfl, rfl⟩ | ⟨cb, rfl⟩
  · obtain rfl : n = n2 := by omega
    refine cs_0 h ?_
    exact (hR.2.2.2.2.1 n).2.2.2.2.1.symm
  · exact absurd ca.2 (by omega)
  · exact absurd cb.2 (by omega)
  · exact cs_e h 1 _ _ (by decide)
theorem cs_quietBroken (h : IV X S) (a : co_quietBroken X u z r Y) (b : ro_quietBroken S u q T) : CS z r q Y T := by
  have hR := h.1
  rcases a with ⟨n, ca, rfl, rfl, rfl⟩ | ⟨ca, rfl, rfl⟩ <;> rcases b with ⟨n2, cb, rfl, rfl⟩ | ⟨cb, rfl⟩
  · obtain rfl : n = n2 := by omega
    refine cs_0 h ?_
    exact (hR.2.2.2.2.1 n).2.2.2.2.2.1.symm
  · exact absurd ca.2 (by omega)
  · exact absurd cb.2 (by omega)
  · exact cs_e h 1 _ _ (by decide)
theorem cs_hushed (h : IV X S) (a : co_hushed X u z r Y) (b : ro_hushed S u q T) : CS z r q Y T := by
  have hR := h.1
  rcases a with ⟨n, ca, rfl, rfl, rfl⟩ | ⟨ca, rfl, rfl⟩ <;> rcases b with ⟨n2, cb, rfl, rfl⟩ | ⟨cb, rfl⟩
  · obtain rfl : n = n2 := by omega
    refine cs_0 h ?_
    exact (hR.2.2.2.2.1 n).2.2.2.2.2.2.1.symm
  · exact absurd ca.2 (by omega)
  · exact absurd cb.2 (by omega)
  · exact cs_e h 1 _ _ (by decide)
theorem cs_isSound (h : IV X S) (a : co_isSound X u z r Y) (b : ro_isSound S u q T) : CS z r q Y T := by
  have hR := h.1
  rcases a with ⟨n, ca, rfl, rfl, rfl⟩ | ⟨ca, rfl, rfl⟩ <;> rcases b with ⟨n2, cb, rfl, rfl⟩ | ⟨cb, rfl⟩
  · obtain rfl : n = n2 := by omega
    refine cs_0 h ?_
    have e := (hR.2.2.2.2.1 n).2.2.1
    have b := (show (0 : Int) ≤ _ ∧ _ ≤ (1 : Int) from h.2.1.1 14 n rfl)
    split <;> omega
  · exact absurd ca.2 (by omega)
  · exact absurd cb.2 (by omega)
  · exact cs_e h 1 _ _ (by decide)
theorem cs_ringing (h : IV X S) (a : co_ringing X u z r Y) (b : ro_ringing S u q T) : CS z r q Y T := by
  have hR := h.1
  rcases a with ⟨n, ca, rfl, rfl, rfl⟩ | ⟨ca, rfl, rfl⟩ <;> rcases b with ⟨n2, cb, rfl, rfl⟩ | ⟨cb, rfl⟩
  · obtain rfl : n = n2 := by omega
    refine cs_0 h ?_
    exact (rs_eq hR h.2.1 h.2.2.1 n).symm
  · exact absurd ca.2 (by omega)
  · exact absurd cb.2 (by omega)
  · exact cs_e h 1 _ _ (by decide)
theorem cs_faultAt (h : IV X S) (a : co_faultAt X u z r Y) (b : ro_faultAt S u q T) : CS z r q Y T := by
  have hR := h.1
  have e5 := hR.1.2.2
  rcases a with ⟨ca, rfl, rfl, rfl⟩ | ⟨ca, rfl, rfl⟩ <;> rcases b with ⟨n2, cb, rfl, rfl⟩ | ⟨cb, rfl⟩
  · refine cs_0 h ?_
    have e : u.toNat = n2 := by omega
    rw [e]
    exact (hR.2.2.2.1 n2).2.symm
  · exact absurd ca.2 (by omega)
  · exact absurd cb.2 (by omega)
  · exact cs_e h 1 _ _ (by decide)
theorem cs_ringsLeft (h : IV X S) (a : co_ringsLeft X u v2 z r Y) (b : ro_ringsLeft S u v2 q T) : CS z r q Y T := by
  have hR := h.1
  have e4 := hR.1.2.1
  rcases a with ⟨n, k, ca, rfl, rfl, rfl⟩ | ⟨ca, rfl, rfl⟩ <;> rcases b with ⟨n2, k2, cb, rfl, rfl⟩ | ⟨cb, rfl⟩
  · obtain rfl : n = n2 := by omega
    obtain rfl : k = k2 := by omega
    refine cs_0 h ?_
    rw [(hR.2.1 k (by omega)).1, (hR.2.2.2.1 _).1]
  · exact absurd ca.2.1 (by omega)
  · exact absurd cb.2.1 (by omega)
  · exact cs_e h 1 _ _ (by decide)
theorem cs_toneAt (h : IV X S) (a : co_toneAt X u v2 z r Y) (b : ro_toneAt S u v2 q T) : CS z r q Y T := by
  have hR := h.1
  have e4 := hR.1.2.1
  rcases a with ⟨k, o, ca, rfl, rfl, rfl⟩ | ⟨ca, rfl, rfl⟩ <;> rcases b with ⟨k2, o2, cb, rfl, rfl⟩ | ⟨cb, rfl⟩ | ⟨⟨k2, cb, cb2⟩, rfl⟩
  · obtain rfl : k = k2 := by omega
    obtain rfl : o = o2 := by omega
    refine cs_0 h ?_
    rw [(hR.2.1 k (by omega)).2.2]
  · exact absurd ca.1.2 (by omega)
  · obtain rfl : k = k2 := by omega
    have := (hR.2.1 k (by omega)).2.1
    exact absurd ca.2.2 (by omega)
  · have := (hR.2.1 k2 (by omega)).2.1
    exact absurd cb.1.2 (by
      rcases ca with ca | ⟨k3, c3, c4, c5⟩
      · omega
      · obtain rfl : k2 = k3 := by omega
        omega)
  · exact cs_e h 1 _ _ (by decide)
  · exact cs_e2 h 1 _ _ (by decide)
theorem cs_shifted (h : IV X S) (a : co_shifted X u v2 z r Y) (b : ro_shifted S u v2 q T) : CS z r q Y T := by
  have hR := h.1
  have e4 := hR.1.2.1
  rcases a with ⟨k, cn, ca, rfl, rfl, rfl⟩ | ⟨ca, rfl, rfl⟩ | ⟨ca, rfl, rfl⟩ <;> rcases b with ⟨k2, cn2, cb, rfl, rfl⟩ | ⟨cb, rfl⟩ | ⟨cb, rfl⟩
  · obtain rfl : k = k2 := by omega
    have e := hR.2.1 k (by omega)
    obtain rfl : cn = cn2 := by omega
    refine cs_0 h ?_
    rw [e.2.2]
  · exact absurd ca.1.2 (by omega)
  · exact absurd ca.1.2 (by omega)
  · exact absurd cb.1.2 (by omega)
  · exact cs_e h 1 _ _ (by decide)
  · exact absurd cb.2 (by omega)
  · exact absurd cb.1.2 (by omega)
  · exact absurd ca.2 (by omega)
  · exact cs_e2 h 2 _ _ (by decide)
theorem cs_turned (h : IV X S) (a : co_turned X u z r Y) (b : ro_turned S u q T) : CS z r q Y T := by
  have hR := h.1
  have e4 := hR.1.2.1
  rcases a with ⟨k, cn, ca, rfl, rfl, rfl⟩ | ⟨ca, rfl, rfl⟩ <;> rcases b with ⟨k2, cn2, cb, rfl, rfl⟩ | ⟨cb, rfl⟩
  · obtain rfl : k = k2 := by omega
    have e := hR.2.1 k (by omega)
    obtain rfl : cn = cn2 := by omega
    refine cs_0 h ?_
    rw [e.2.2]
  · exact absurd ca.1.2 (by omega)
  · exact absurd cb.1.2 (by omega)
  · exact cs_e h 1 _ _ (by decide)
theorem cs_areAlike (h : IV X S) (a : co_areAlike X u v2 z r Y) (b : ro_areAlike S u v2 q T) : CS z r q Y T := by
  have hR := h.1
  have e4 := hR.1.2.1
  rcases a with ⟨k, o, ca, rfl, rfl, rfl⟩ | ⟨ca, rfl, rfl⟩ <;> rcases b with ⟨k2, o2, cb, rfl, rfl⟩ | ⟨cb, rfl⟩
  · obtain rfl : k = k2 := by omega
    obtain rfl : o = o2 := by omega
    exact cs_0 h (alike hR h.2.1 (by omega) (by omega))
  · exact absurd ca.1.2 (by omega)
  · exact absurd cb.1.2 (by omega)
  · exact cs_e h 1 _ _ (by decide)
theorem cs_license (h : IV X S) (a : co_license X u v2 u3 z r Y) (b : ro_license S u v2 u3 q T) : CS z r q Y T := by
  obtain ⟨hR, hV, hT, hW⟩ := h
  have h : IV X S := ⟨hR, hV, hT, hW⟩
  have e4 := hR.1.2.1
  rcases a with ⟨n, k, ca, rfl, rfl, rfl⟩ | ⟨ca, rfl, rfl⟩ | ⟨ca, rfl, rfl⟩ | ⟨⟨n, k, ca⟩, rfl, rfl⟩ <;> rcases b with ⟨n2, k2, cb, rfl, rfl⟩ | ⟨cb, rfl⟩ | ⟨cb, rfl⟩ | ⟨⟨n2, k2, cb⟩, rfl⟩
  · obtain rfl : n = n2 := by omega
    obtain rfl : k = k2 := by omega
    have e8 := (hR.2.2.2.1 (12 * n + k)).1
    have b23 : 0 ≤ X 23 (12 * n + k) ∧ X 23 (12 * n + k) ≤ 1000 := hV.1 23 _ rfl
    rw [e8]
    refine ⟨(up_f _ _ _ _ (by decide)).trans (up_s _ _ _ _), fun _ => rfl, ?_, vx_up hV (by decide) (fun _ => by show 0 ≤ _ ∧ _ ≤ (1000 : Int); omega), ti_up hT (by decide), vs_up (vs_uf hW (by decide)) (by decide) (fun _ _ => by show 0 ≤ _ ∧ _ ≤ (1000 : Int); omega)⟩
    have g1 : RelA (up X 23 (12 * n + k) (X 23 (12 * n + k) + u3)) (up S 8 (12 * n + k) (X 23 (12 * n + k) + u3)) := by
      obtain ⟨⟨r0, r1, r20⟩, r2, r5, r8, r9, r18⟩ := hR
      refine ⟨⟨?_, ?_, ?_⟩, fun j hj2 => ?_, fun j => ?_, fun j => ?_, fun j => ?_, fun j => ?_⟩
      · simp [up]; try omega
      · simp [up]; try omega
      · simp [up]; try omega
      · have hj3 : (j : Int) < _ := hj2
        simp [up] at hj3
        have r2j := r2 j (by omega)
        by_cases hj : j = (12 * n + k)
        · subst hj
          simp [up]; try omega
        · simp [up, hj]; try omega
      · have r5j := r5 j
        by_cases hj : j = (12 * n + k)
        · subst hj
          simp [up] at r5j ⊢; try first | assumption | omega
        · simp [up, hj] at r5j ⊢; try first | assumption | omega
      · have r8j := r8 j
        by_cases hj : j = (12 * n + k)
        · subst hj
          simp [up]; try omega
        · simp [up, hj]; try omega
      · have r9j := r9 j
        by_cases hj : j = (12 * n + k)
        · subst hj
          simp [up]; try omega
        · simp [up, hj]; try omega
      · have r18j := r18 j
        by_cases hj : j = (12 * n + k)
        · subst hj
          simp [up] at r18j ⊢; try first | assumption | omega
        · simp [up, hj] at r18j ⊢; try first | assumption | omega
    exact g1
  · exact absurd ca.1.2 (by omega)
  · exact absurd ca.1.2 (by omega)
  · obtain rfl : n = n2 := by omega
    obtain rfl : k = k2 := by omega
    have e8 := (hR.2.2.2.1 (12 * n + k)).1
    have e2 := (hR.2.1 k (by omega)).1
    exact absurd ca.1.2 (by omega)
  · exact absurd cb.1.2 (by omega)
  · exact cs_e h 1 _ _ (by decide)
  · exact absurd cb.1.2 (by omega)
  · exact absurd cb.1.2 (by omega)
  · exact absurd cb.1.2 (by omega)
  · exact absurd ca.1.2 (by omega)
  · exact cs_e h 2 _ _ (by decide)
  · exact absurd ca.1.2 (by omega)
  · obtain rfl : n = n2 := by omega
    obtain rfl : k = k2 := by omega
    have e8 := (hR.2.2.2.1 (12 * n + k)).1
    have e2 := (hR.2.1 k (by omega)).1
    exact absurd ca.1.2 (by omega)
  · exact absurd ca.1.2 (by omega)
  · exact absurd ca.1.2 (by omega)
  · exact cs_e2 h 3 _ _ (by decide)
theorem cs_setQuiet (h : IV X S) (a : co_setQuiet X u v2 u3 z r Y) (b : ro_setQuiet S u v2 u3 q T) : CS z r q Y T := by
  obtain ⟨hR, hV, hT, hW⟩ := h
  have h : IV X S := ⟨hR, hV, hT, hW⟩
  rcases a with ⟨n, ca, rfl, rfl, rfl⟩ | ⟨ca, rfl, rfl⟩ | ⟨ca, rfl, rfl⟩ <;> rcases b with ⟨n2, cb, rfl, rfl⟩ | ⟨cb, rfl⟩ | ⟨cb, rfl⟩
  · obtain rfl : n = n2 := by omega
    have g1 : RelA (up (up X 15 n v2) 16 n u3) (up (up S 9 n v2) 10 n u3) := by
      obtain ⟨⟨r0, r1, r20⟩, r2, r5, r8, r9, r18⟩ := hR
      refine ⟨⟨?_, ?_, ?_⟩, fun j hj2 => ?_, fun j => ?_, fun j => ?_, fun j => ?_, fun j => ?_⟩
      · simp [up]; try omega
      · simp [up]; try omega
      · simp [up]; try omega
      · have hj3 : (j : Int) < _ := hj2
        simp [up] at hj3
        have r2j := r2 j (by omega)
        by_cases hj : j = n
        · subst hj
          simp [up]; try omega
        · simp [up, hj]; try omega
      · have r5j := r5 j
        by_cases hj : j = n
        · subst hj
          simp [up] at r5j ⊢; try first | assumption | omega
        · simp [up, hj] at r5j ⊢; try first | assumption | omega
      · have r8j := r8 j
        by_cases hj : j = n
        · subst hj
          simp [up]; try omega
        · simp [up, hj]; try omega
      · have r9j := r9 j
        by_cases hj : j = n
        · subst hj
          simp [up]; try omega
        · simp [up, hj]; try omega
      · have r18j := r18 j
        by_cases hj : j = n
        · subst hj
          simp [up] at r18j ⊢; try first | assumption | omega
        · simp [up, hj] at r18j ⊢; try first | assumption | omega
    have g2 : RelA (up (up X 15 n v2) 16 n u3) (up (up (up S 22 0 0) 9 n v2) 10 n u3) := g1
    have vY : VX (up (up X 15 n v2) 16 n u3) := vx_up (vx_up hV (by decide) (fun _ => by show 0 ≤ v2 ∧ v2 ≤ (999 : Int); omega)) (by decide) (fun _ => by show 0 ≤ u3 ∧ u3 ≤ (999 : Int); omega)
    have e := q_eq g2.1.1 n (g2.2.2.2.2.1 n).1 (g2.2.2.2.2.1 n).2.1 vY
    have b6 : 0 ≤ (up (up X 15 n v2) 16 n u3) 6 0 ∧ (up (up X 15 n v2) 16 n u3) 6 0 ≤ 1000000 := vY.1 6 0 rfl
    have e01 := ql_01 (up (up X 15 n v2) 16 n u3) n ((up (up X 15 n v2) 16 n u3) 6 0) vY b6.1
    refine ⟨(up_f _ _ _ _ (by decide)).trans ((up_f _ _ _ _ (by decide)).trans (up_s _ _ _ _)), fun _ => ?_, g2, vY, ti_up (ti_up hT (by decide)) (by decide), vs_up (vs_up (vs_uf hW (by decide)) (by decide) (fun _ _ => by show 0 ≤ v2 ∧ v2 ≤ (999 : Int); omega)) (by decide) (fun _ _ => by show 0 ≤ u3 ∧ u3 ≤ (999 : Int); omega)⟩
    rw [e]
    split <;> omega
  · exact absurd ca.1.2 (by omega)
  · exact absurd ca.1.2 (by omega)
  · exact absurd cb.1.2 (by omega)
  · exact cs_e h 1 _ _ (by decide)
  · exact absurd cb.1.2 (by omega)
  · exact absurd cb.1.2 (by omega)
  · exact absurd ca.1.2 (by omega)
  · exact cs_e h 2 _ _ (by decide)
theorem cs_lay (h : IV X S) (a : co_lay X u v2 u3 u4 z r Y) (b : ro_lay S u v2 u3 u4 q T) : CS z r q Y T := by
  obtain ⟨hR, hV, hT, hW⟩ := h
  have h : IV X S := ⟨hR, hV, hT, hW⟩
  have e4 := hR.1.2.1
  rcases a with ⟨n, b9, ca, rfl, rfl, rfl⟩ | ⟨ca, rfl, rfl⟩ | ⟨ca, rfl, rfl⟩ <;> rcases b with ⟨n2, b2, cb, rfl, rfl⟩ | ⟨cb, rfl⟩ | ⟨cb, rfl⟩
  · obtain rfl : n = n2 := by omega
    obtain rfl : b9 = b2 := by omega
    have e5 := (hR.2.2.1 (3 * n + b9)).1
    have b4 : 0 ≤ X 4 0 ∧ X 4 0 ≤ 12 := hV.1 4 0 rfl
    have g1 : RelA (up (up (up X 30 (3 * n + b9) u3) 31 (3 * n + b9) u4) 32 (3 * n + b9) 0) (up (up (up S 5 (3 * n + b9) (u3 + 1)) 6 (3 * n + b9) u4) 7 (3 * n + b9) 0) := by
      obtain ⟨⟨r0, r1, r20⟩, r2, r5, r8, r9, r18⟩ := hR
      refine ⟨⟨?_, ?_, ?_⟩, fun j hj2 => ?_, fun j => ?_, fun j => ?_, fun j => ?_, fun j => ?_⟩
      · simp [up]; try omega
      · simp [up]; try omega
      · simp [up]; try omega
      · have hj3 : (j : Int) < _ := hj2
        simp [up] at hj3
        have r2j := r2 j (by omega)
        by_cases hj : j = (3 * n + b9)
        · subst hj
          simp [up]; try omega
        · simp [up, hj]; try omega
      · have r5j := r5 j
        by_cases hj : j = (3 * n + b9)
        · subst hj
          simp [up] at r5j ⊢; try first | assumption | omega
        · simp [up, hj] at r5j ⊢; try first | assumption | omega
      · have r8j := r8 j
        by_cases hj : j = (3 * n + b9)
        · subst hj
          simp [up]; try omega
        · simp [up, hj]; try omega
      · have r9j := r9 j
        by_cases hj : j = (3 * n + b9)
        · subst hj
          simp [up]; try omega
        · simp [up, hj]; try omega
      · have r18j := r18 j
        by_cases hj : j = (3 * n + b9)
        · subst hj
          simp [up] at r18j ⊢; try first | assumption | omega
        · simp [up, hj] at r18j ⊢; try first | assumption | omega
    refine ⟨(up_f _ _ _ _ (by decide)).trans ((up_f _ _ _ _ (by decide)).trans ((up_f _ _ _ _ (by decide)).trans (up_s _ _ _ _))), fun _ => by omega, g1, vx_up (vx_up (vx_u30 hV (by omega)) (by decide) (fun _ => by show 1 ≤ u4 ∧ u4 ≤ (9 : Int); omega)) (by decide) (fun _ => by decide), ti_32 (ti_up (ti_up hT (by decide)) (by decide)) _, ?_⟩
    have b1 : 0 ≤ S 1 0 ∧ S 1 0 ≤ 12 := hW.1 1 0 (by decide) rfl
    have w0 : VS (up S 22 0 0) := vs_uf hW (by decide)
    have w1 : VS (up (up S 22 0 0) 5 (3 * n + b9) (u3 + 1)) := vs_u5 w0 (by rw [up_f S 0 0 0 (by decide)]; omega)
    exact vs_up (vs_up w1 (by decide) (fun _ _ => by show 1 ≤ u4 ∧ u4 ≤ (9 : Int); omega)) (by decide) (fun _ _ => by decide)
  · exact absurd ca.1.2 (by omega)
  · exact absurd ca.1.2 (by omega)
  · exact absurd cb.1.2 (by omega)
  · exact cs_e h 1 _ _ (by decide)
  · exact absurd cb.1.1.2 (by omega)
  · exact absurd cb.1.2 (by omega)
  · exact absurd ca.1.1.2 (by omega)
  · exact cs_e h 2 _ _ (by decide)
theorem cs_press (h : IV X S) (a : co_press X u v2 z r Y) (b : ro_press S u v2 q T) : CS z r q Y T := by
  have hR := h.1
  rcases a with ⟨n, b9, k, ca, rfl, rfl, rfl⟩ | ⟨ca, rfl, rfl⟩ | ⟨⟨n, b9, ca⟩, rfl, rfl⟩ <;> rcases b with ⟨n2, b2, k2, cb, rfl, rfl⟩ | ⟨cb, rfl⟩ | ⟨⟨n2, b2, cb⟩, rfl⟩
  · obtain rfl : n = n2 := by omega
    obtain rfl : b9 = b2 := by omega
    have e5 := (hR.2.2.1 (3 * n + b9)).1
    obtain rfl : k = k2 := by omega
    have g := rel_press h (n := n) (b := b9) (k := k) (by omega) (by omega) (by omega)
    refine ⟨?_, fun _ => g.1.symm, g.2⟩
    unfold pmS
    (repeat' split) <;> simp [up, brM, beS]
  · exact absurd ca.1.2 (by omega)
  · obtain rfl : n = n2 := by omega
    obtain rfl : b9 = b2 := by omega
    have e5 := (hR.2.2.1 (3 * n + b9)).1
    exact absurd ca.1.2 (by omega)
  · exact absurd cb.1.2 (by omega)
  · exact cs_e h 1 _ _ (by decide)
  · exact absurd cb.1.2 (by omega)
  · obtain rfl : n = n2 := by omega
    obtain rfl : b9 = b2 := by omega
    have e5 := (hR.2.2.1 (3 * n + b9)).1
    exact absurd ca.1.2 (by omega)
  · exact absurd ca.1.2 (by omega)
  · exact cs_e2 h 2 _ _ (by decide)
theorem cs_fault (h : IV X S) (a : co_fault X u z r Y) (b : ro_fault S u q T) : CS z r q Y T := by
  have hR := h.1
  have e5 := hR.1.2.2
  have b5 : 0 ≤ X 5 0 ∧ X 5 0 ≤ 100 := h.2.1.1 5 0 rfl
  rcases a with ⟨n, ca, rfl, rfl, rfl⟩ | ⟨ca, rfl, rfl⟩ | ⟨⟨n, ca⟩, rfl, rfl⟩ <;> rcases b with ⟨n2, cb, rfl, rfl⟩ | ⟨cb, rfl⟩ | ⟨⟨n2, cb⟩, rfl⟩
  · obtain rfl : n = n2 := by omega
    have g := rel_fault (inv22 h 0) (n := n) (u := u) (by omega) (by omega) (by omega)
    refine ⟨?_, fun _ => g.2, g.1⟩
    unfold fmR fmW brM
    rw [up_f _ _ _ _ (by decide), up_f _ _ _ _ (by decide), up_f _ _ _ _ (by decide), up_f _ _ _ _ (by decide), up_f _ _ _ _ (by decide), up_f _ _ _ _ (by decide), up_f _ _ _ _ (by decide), fl_20 _ n (by decide), up_s]
  · exact absurd ca.1.2 (by omega)
  · obtain rfl : n = n2 := by omega
    have e11 := (hR.2.2.2.2.1 n).2.2.1
    exact absurd ca.1.2 (by omega)
  · exact absurd cb.1.2 (by omega)
  · exact cs_e h 1 _ _ (by decide)
  · exact absurd cb.1.2 (by omega)
  · obtain rfl : n = n2 := by omega
    have e11 := (hR.2.2.2.2.1 n).2.2.1
    have b14 := (show (0 : Int) ≤ _ ∧ _ ≤ (1 : Int) from h.2.1.1 14 n rfl)
    exact absurd ca.1.2 (by omega)
  · exact absurd ca.1.2 (by omega)
  · exact cs_e h 2 _ _ (by decide)
theorem cs_repair (h : IV X S) (a : co_repair X u z r Y) (b : ro_repair S u q T) : CS z r q Y T := by
  obtain ⟨hR, hV, hT, hW⟩ := h
  have h : IV X S := ⟨hR, hV, hT, hW⟩
  have e0 := hR.1.1
  have b6 : 0 ≤ X 6 0 ∧ X 6 0 ≤ 1000000 := hV.1 6 0 rfl
  have key : ∀ n : Nat, S 11 n = 1 - X 14 n ∧ (0 ≤ X 14 n ∧ X 14 n ≤ 1) ∧ (S 18 (n / 4) ≤ 0 ↔ X 34 (n / 4) = -1) := fun n => by
    have e18 := (hR.2.2.2.2.2 (n / 4)).1
    have b34 : -1 ≤ X 34 (n / 4) ∧ X 34 (n / 4) ≤ 7 := hV.1 34 _ rfl
    have t := hT.2 (n / 4)
    refine ⟨(hR.2.2.2.2.1 n).2.2.1, hV.1 14 n rfl, ?_⟩
    rw [e18]
    split <;> omega
  rcases a with ⟨n, ca, rfl, rfl, rfl⟩ | ⟨ca, rfl, rfl⟩ | ⟨⟨n, ca⟩, rfl, rfl⟩ <;> rcases b with ⟨n2, cb, rfl, rfl⟩ | ⟨cb, rfl⟩ | ⟨⟨n2, cb⟩, rfl⟩
  · obtain rfl : n = n2 := by omega
    refine ⟨(up_f _ _ _ _ (by decide)).trans ((up_f _ _ _ _ (by decide)).trans (up_s _ _ _ _)), fun _ => by rw [e0], ?_, vx_up (vx_up hV (by decide) (fun _ => by show -1 ≤ _ ∧ _ ≤ (7 : Int); omega)) (by decide) (fun _ => by show 0 ≤ _ ∧ _ ≤ (1000050 : Int); omega), ?_, vs_up (vs_up (vs_uf hW (by decide)) (by decide) (fun _ _ => by show 0 ≤ _ ∧ _ ≤ (1000050 : Int); omega)) (by decide) (fun _ _ => by show 0 ≤ _ ∧ _ ≤ (7 : Int); omega)⟩
    · rw [e0]
      have g1 : RelA (up (up X 34 (n / 4) n) 35 (n / 4) (X 6 0 + 50)) (up (up S 18 (n / 4) (X 6 0 + 50)) 19 (n / 4) n) := by
        obtain ⟨⟨r0, r1, r20⟩, r2, r5, r8, r9, r18⟩ := hR
        refine ⟨⟨r0, r1, r20⟩, r2, r5, r8, r9, fun j => ?_⟩
        have r18j := r18 j
        by_cases hj : j = n / 4
        · subst hj
          simp [up]
          omega
        · simp [up, hj] at r18j ⊢
          exact r18j
      exact g1
    · refine ⟨fun j => ?_, fun j hj => ?_⟩
      · rw [up_f _ _ _ _ (by decide), up_f _ _ _ _ (by decide), up_f _ _ _ _ (by decide), up_f _ _ _ _ (by decide), up_f _ _ _ _ (by decide), up_f _ _ _ _ (by decide)]
        exact hT.1 j
      · rw [up_f _ _ _ _ (by decide), up_f _ _ _ _ (by decide)]
        by_cases hji : j = n / 4
        · rw [hji, up_s]
          omega
        · rw [up_i _ _ _ _ hji, up_f _ _ _ _ (by decide)]
          rw [up_f _ _ _ _ (by decide), up_i _ _ _ _ hji] at hj
          exact hT.2 j hj
  · exact absurd ca.1.2 (by omega)
  · obtain rfl : n = n2 := by omega
    have := key n
    exact absurd ca.1.2 (by omega)
  · exact absurd cb.1.2 (by omega)
  · exact cs_e h 1 _ _ (by decide)
  · exact absurd cb.1.2 (by omega)
  · obtain rfl : n = n2 := by omega
    have := key n
    exact absurd ca.1.2 (by omega)
  · exact absurd ca.1.2 (by omega)
  · exact cs_e2 h 2 _ _ (by decide)
theorem seN_22 (S : Nat → Nat → Int) : ∀ n : Nat, seN S n 22 0 = S 22 0 := by
  have sec : ∀ S : Nat → Nat → Int, secS S 22 0 = S 22 0 := by
    intro S
    have hB : secB S 22 0 = S 22 0 := by
      unfold secB secA
      rw [s3_f _ 0 (by decide) 2, s2_f _ 0 (by decide) 24, up_f _ _ _ _ (by decide), s1_f S 0 (by decide) 8]
    unfold secS
    split
    · rw [s4_f _ 0 (by decide) 8, hB]
    · exact hB
  intro n
  induction n with
  | zero => rfl
  | succ n ih => exact (sec _).trans ih
theorem cs_pass (h : IV X S) (a : co_pass X u z r Y) (b : ro_pass S u q T) : CS z r q Y T := by
  have hZ := inv22 h 0
  have e0 := h.1.1.1
  rcases a with ⟨j, ca, rfl, rfl, rfl⟩ | ⟨ca, rfl, rfl⟩ | ⟨ca, rfl, rfl⟩ <;> rcases b with ⟨w, cb, rfl, rfl⟩ | ⟨cb, rfl⟩ | ⟨cb, rfl⟩
  · have hw : u = (w : Nat) := cb.2.2
    subst hw
    have g := rel_pass hZ.1 hZ.2.1 hZ.2.2.1 (w := w) (by omega) (j := j) (by omega)
    refine ⟨(seN_22 _ w).trans (up_s _ _ _ _), fun _ => ?_, g.1, g.2.1, g.2.2.1, vs_seN hZ.2.2.2 w ?_⟩
    · rw [g.2.2.2, seN_0, up_f _ _ _ _ (by decide), e0]
    · rw [up_f _ _ _ _ (by decide)]
      omega
  · exact absurd ca.1.2 (by omega)
  · exact absurd ca.1.2 (by omega)
  · exact absurd cb.1.2 (by omega)
  · exact cs_e h 1 _ _ (by decide)
  · exact absurd cb.1.2 (by omega)
  · exact absurd cb.2.1 (by omega)
  · exact absurd ca.1.2 (by omega)
  · exact cs_e h 2 _ _ (by decide)
theorem p16_lt {t : Int} {c : Nat} (h0 : 0 ≤ t) (h : t / 16 ^ c = 0) : t < 16 ^ c := by
  have hp : (0 : Int) < 16 ^ c := Int.pow_pos (by decide)
  have h1 := Int.emod_lt_of_pos t hp
  have h2 := Int.mul_ediv_add_emod t (16 ^ c)
  rw [h, Int.mul_zero] at h2
  omega
theorem cs_addMelody (h : IV X S) (a : co_addMelody X u v2 t z r Y) (b : ro_addMelody S u v2 t q T) : CS z r q Y T := by
  obtain ⟨hR, hV, hT, hW⟩ := h
  have h : IV X S := ⟨hR, hV, hT, hW⟩
  have e4 := hR.1.2.1
  have b4 : 0 ≤ X 4 0 ∧ X 4 0 ≤ 12 := hV.1 4 0 rfl
  rcases a with ⟨k, cn, ca, rfl, rfl, rfl⟩ | ⟨ca, rfl, rfl⟩ | ⟨⟨ca1, ca2⟩, rfl, rfl⟩ | ⟨⟨ca1, ⟨cn, ca2⟩, ca3⟩, rfl, rfl⟩ <;> rcases b with ⟨n2, cn2, cb, rfl, rfl⟩ | ⟨cb, rfl⟩ | ⟨⟨cb1, cb2⟩, rfl⟩ | ⟨⟨n2, cn2, cb, cb3⟩, rfl⟩
  · have ht := p16_lt (t := t) (c := cn) (by omega) ca.2.1.2.2
    have ek : (S 1 0).toNat = k := by omega
    have ek1 : S 1 0 + 1 = ((k + 1 : Nat) : Int) := by omega
    rw [ek, ek1]
    have ecn : v2.toNat = cn := by omega
    refine ⟨?_, fun _ => by omega, ?_, ?_, ?_, ?_⟩
    · simp [up]
    · unfold nX
      obtain ⟨⟨r0, r1, r20⟩, r2, r5, r8, r9, r18⟩ := hR
      refine ⟨⟨r0, ?_, r20⟩, fun j hj => ?_, r5, r8, r9, r18⟩
      · simp [up]
      · rw [up_s] at hj
        by_cases hjk : j = k
        · subst hjk
          simp [up]
        · have r2j := r2 j (by omega)
          simp [up, hjk]
          exact r2j
    · unfold nX
      refine ⟨fun f i hf => ?_, fun i => ?_, fun i => ?_⟩
      · have b := hV.1 f i hf
        unfold up
        split
        · rename_i q
          rw [q.1]
          show 0 ≤ _ ∧ _ ≤ (12 : Int)
          omega
        · split
          · rename_i q
            rw [q.1] at hf
            cases hf
          · split
            · rename_i q
              rw [q.1]
              show 1 ≤ _ ∧ _ ≤ (12 : Int)
              omega
            · split
              · rename_i q
                rw [q.1]
                show 0 ≤ _ ∧ _ ≤ (7 : Int)
                omega
              · exact b
      · have b := hV.2.1 i
        rw [up_s, up_f _ _ _ _ (by decide), up_f _ _ _ _ (by decide), up_f _ _ _ _ (by decide), up_f _ _ _ _ (by decide)]
        omega
      · by_cases hik : i = k
        · subst hik
          simp [up, ecn]
          exact ⟨by omega, ht⟩
        · simp [up, hik]
          exact hV.2.2 i
    · exact ti_up (ti_up (ti_up (ti_up hT (by decide)) (by decide)) (by decide)) (by decide)
    · refine ⟨fun f i hf hf2 => ?_, fun i => ?_, fun i => ?_⟩
      · have b := hW.1 f i hf hf2
        have w0 := (vs_uf (f := 22) (i := 0) (v := 0) hW (by decide)).1 f i hf hf2
        unfold up at w0 ⊢
        split
        · rename_i q
          rw [q.1]
          show 0 ≤ _ ∧ _ ≤ (12 : Int)
          omega
        · split
          · rename_i q
            rw [q.1] at hf2
            cases hf2
          · split
            · rename_i q
              rw [q.1]
              show 0 ≤ _ ∧ _ ≤ (12 : Int)
              omega
            · split
              · rename_i q
                rw [q.1]
                show 0 ≤ _ ∧ _ ≤ (7 : Int)
                omega
              · exact w0
      · have b := hW.2.1 i
        rw [up_s]
        simp only [up_f _ _ _ _ (show (5 : Nat) ≠ 1 by decide), up_f _ _ _ _ (show (5 : Nat) ≠ 4 by decide), up_f _ _ _ _ (show (5 : Nat) ≠ 3 by decide), up_f _ _ _ _ (show (5 : Nat) ≠ 2 by decide), up_f _ _ _ _ (show (5 : Nat) ≠ 22 by decide)]
        omega
      · by_cases hik : i = k
        · subst hik
          simp [up, ecn]
          exact ⟨by omega, ht⟩
        · simp [up, hik]
          exact hW.2.2 i
  · exact absurd ca.1.2 (by omega)
  · exact absurd ⟨cn, ca.2.1⟩ cb2
  · exact absurd ca.2.2.2 (by omega)
  · exact absurd cb.1.2 (by omega)
  · exact cs_e h 1 _ _ (by decide)
  · exact absurd cb1.2 (by omega)
  · exact absurd cb.1.2 (by omega)
  · exact absurd ⟨cn2, cb.2.1, cb.2.2.1, cb.2.2.2.1⟩ ca2
  · exact absurd ca1.2 (by omega)
  · exact cs_e2 h 2 _ _ (by decide)
  · exact absurd ⟨cn2, cb.2⟩ ca2
  · exact absurd cb.2 (by omega)
  · exact absurd ca1.2 (by omega)
  · exact absurd ⟨cn, ca2⟩ cb2
  · exact cs_e2 h 3 _ _ (by decide)
end CSs
