/-! THE CLASS, module House (and Bell.ringUntil, Melody.lasts): contracts. -/
theorem shS_b (f t a b : Int) : 0 ≤ shS f t a b ∧ shS f t a b ≤ max 0 (b - a) := by
  unfold shS
  omega
theorem qS_b {X : Nat → Nat → Int} (hV : VX X) (h : Nat) (s e : Int) : 0 ≤ qS X h s e ∧ qS X h s e ≤ 2000 := by
  have b15 : 0 ≤ X 15 h ∧ X 15 h ≤ 999 := hV.1 15 _ rfl
  have b16 : 0 ≤ X 16 h ∧ X 16 h ≤ 999 := hV.1 16 _ rfl
  unfold qS
  split
  · have h1 := shS_b (s % 1000) (s % 1000 + e - s) (X 15 h) (X 16 h)
    omega
  · have h1 := shS_b (s % 1000) (s % 1000 + e - s) 0 (X 16 h)
    have h2 := shS_b (s % 1000) (s % 1000 + e - s) (X 15 h) 1000
    omega
theorem mrS_b (X : Nat → Nat → Int) (h k : Nat) : 0 ≤ mrS X h k ∧ mrS X h k ≤ 1 := by
  unfold mrS
  split <;> omega
theorem rsS_b (X : Nat → Nat → Int) (h : Nat) : 0 ≤ rsS X h ∧ rsS X h ≤ 7 := by
  unfold rsS
  (repeat' split) <;> omega
theorem rlS_b {X : Nat → Nat → Int} (hV : VX X) (h : Nat) : 0 ≤ rlS X h ∧ rlS X h ≤ 27 := by
  have b0 : 1 ≤ X 31 (3 * h + 0) ∧ X 31 (3 * h + 0) ≤ 9 := hV.1 31 _ rfl
  have b1 : 1 ≤ X 31 (3 * h + 1) ∧ X 31 (3 * h + 1) ≤ 9 := hV.1 31 _ rfl
  have b2 : 1 ≤ X 31 (3 * h + 2) ∧ X 31 (3 * h + 2) ≤ 9 := hV.1 31 _ rfl
  unfold rlS
  (repeat' split) <;> omega
set_option maxHeartbeats 4000000 in
set_option maxRecDepth 100000 in
theorem k_shared (l : Launch) (D : va_G) (ks : Nat → ClassId) (bx : Nat) (H : Heap) (f t a b : Int) (hr : (0 ≤ f ∧ f ≤ 1000000) ∧ (-2000000 ≤ t ∧ t ≤ 3000000) ∧ (0 ≤ a ∧ a ≤ 1000) ∧ 0 ≤ b ∧ b ≤ 1000) : KM l yX2_shared wsX2_shared ({ frames := 1, cells := 0, slots := 0, locals := 24 } : Room) D ks bx [.int (z2 f), .int (z2 t), .int (z2 a), .int (z2 b)] H (RX bx) (fun v H1 => v = some (.int (z2 (shS f t a b))) ∧ H1 = H) (fun _ _ => False) := by
  refine KM.of (cc := cX2_shared) (maxL := 4) (ret := (some .int)) (by decide) rfl (Nat.le_of_ble_eq_true rfl) ?_
  intro p e s m below meth c hx hb hml hr hlocks hown hname hts hext hH0 hG ls hl
  subst hH0
  have hown : s.vm.findClass RX2 = some m.cls := hown
  have hS : va_S (AR (RX bx) s.heap.size) s.heap s.heap [] := va_S.rf
  have hl : lv_has ls 4 [(0, .int (z2 (f))), (1, .int (z2 (t))), (2, .int (z2 (a))), (3, .int (z2 (b)))] := hl
  refine b_iconst hx hb dX2_shared_0 ?_
  refine lv_iload_n hx hb dX2_shared_1 rfl (lv_at hl 1 rfl) ?_
  refine lv_iload_n hx hb dX2_shared_2 rfl (lv_at hl 3 rfl) ?_
  refine b_min hx hb (hml.trans hl.1.symm) (own := RX2) (index := 65) hown (hts _ (by decide +kernel)) (hts _ (by decide +kernel)) (hts _ (by decide +kernel)) (hts _ (by decide +kernel)) ⟨Nat.le_of_ble_eq_true rfl, Nat.le_of_ble_eq_true rfl, Nat.le_of_ble_eq_true rfl, Nat.le_of_ble_eq_true rfl⟩ ⟨⟨by omega, by omega⟩, ⟨by omega, by omega⟩⟩ dX2_shared_3 ?_
  refine lv_iload_n hx hb dX2_shared_6 rfl (lv_at hl 0 rfl) ?_
  refine lv_iload_n hx hb dX2_shared_7 rfl (lv_at hl 2 rfl) ?_
  refine b_max hx hb (hml.trans hl.1.symm) (own := RX2) (index := 70) hown (hts _ (by decide +kernel)) (hts _ (by decide +kernel)) (hts _ (by decide +kernel)) (hts _ (by decide +kernel)) ⟨Nat.le_of_ble_eq_true rfl, Nat.le_of_ble_eq_true rfl, Nat.le_of_ble_eq_true rfl, Nat.le_of_ble_eq_true rfl⟩ ⟨⟨by omega, by omega⟩, ⟨by omega, by omega⟩⟩ dX2_shared_8 ?_
  refine b_isub hx hb dX2_shared_11 ?_
  refine b_max hx hb (hml.trans hl.1.symm) (own := RX2) (index := 70) hown (hts _ (by decide +kernel)) (hts _ (by decide +kernel)) (hts _ (by decide +kernel)) (hts _ (by decide +kernel)) ⟨Nat.le_of_ble_eq_true rfl, Nat.le_of_ble_eq_true rfl, Nat.le_of_ble_eq_true rfl, Nat.le_of_ble_eq_true rfl⟩ ⟨⟨by omega, by omega⟩, ⟨by omega, by omega⟩⟩ dX2_shared_12 ?_
  exact g_iret hx hb hr hlocks hS ⟨Nat.le_of_ble_eq_true rfl, Nat.le_of_ble_eq_true rfl⟩ (⟨rfl, rfl⟩) dX2_shared_15
set_option maxHeartbeats 4000000 in
set_option maxRecDepth 100000 in
theorem k_quietSeconds (l : Launch) (D : va_G) (ks : Nat → ClassId) (bx : Nat) (ml : Nat → Nat) (X : Nat → Nat → Int) (H : Heap) (hP : PX D ks bx ml X H) (hV : VX X) {n : Nat} (hn : n < 8) (u v2 : Int) (hr : (0 ≤ u ∧ u ≤ 1000000) ∧ 0 ≤ v2 ∧ v2 ≤ 1000001) : KM l yX2_quietSeconds wsX2_quietSeconds ({ frames := 2, cells := 0, slots := 0, locals := 47 } : Room) D ks bx [.ref (bx + 5 + 6 * n), .int (z2 u), .int (z2 v2)] H (RX bx) (fun v H1 => v = some (.int (z2 (qS X n u v2))) ∧ H1 = H) (fun _ _ => False) := by
  refine KM.of (cc := cX2_quietSeconds) (maxL := 5) (ret := (some .int)) (by decide) rfl (Nat.le_of_ble_eq_true rfl) ?_
  intro p e s m below meth c hx hb hml hr hlocks hown hname hts hext hH0 hG ls hl
  subst hH0
  have hown : s.vm.findClass RX2 = some m.cls := hown
  have hS : va_S (AR (RX bx) s.heap.size) s.heap s.heap [] := va_S.rf
  have hl : lv_has ls 5 [(0, .ref (bx + 5 + 6 * n)), (1, .int (z2 (u))), (2, .int (z2 (v2)))] := hl
  have inX2 : ∀ w ∈ wsX20, w ∈ wsX2_quietSeconds := by decide +kernel
  refine lv_iload_n hx hb dX2_quietSeconds_0 rfl (lv_at hl 1 rfl) ?_
  refine b_sipush hx hb dX2_quietSeconds_1 (by decide +kernel) ?_
  refine b_irem hx hb ⟨⟨by omega, by omega⟩, by decide, by decide⟩ dX2_quietSeconds_4 ?_
  refine lv_istore_n (lv' := [(3, .int (z2 (u % 1000))), (0, .ref (bx + 5 + 6 * n)), (1, .int (z2 (u))), (2, .int (z2 (v2)))]) hx hb dX2_quietSeconds_5 rfl hl (by decide) rfl (fun ls hl => ?_)
  refine lv_iload_n hx hb dX2_quietSeconds_6 rfl (lv_at hl 0 rfl) ?_
  refine lv_iload_n hx hb dX2_quietSeconds_7 rfl (lv_at hl 3 rfl) ?_
  refine b_iadd hx hb dX2_quietSeconds_8 ?_
  refine lv_iload_n hx hb dX2_quietSeconds_9 rfl (lv_at hl 2 rfl) ?_
  refine b_isub hx hb dX2_quietSeconds_10 ?_
  refine lv_istore (lv' := [(4, .int (z2 (((u % 1000) + v2) - u))), (3, .int (z2 (u % 1000))), (0, .ref (bx + 5 + 6 * n)), (1, .int (z2 (u))), (2, .int (z2 (v2)))]) hx hb dX2_quietSeconds_11 hl (by decide) rfl (fun ls hl => ?_)
  refine lv_aload_n hx hb dX2_quietSeconds_13 rfl (lv_at hl 2 rfl) ?_
  have b_14 : 0 ≤ X 15 n ∧ X 15 n ≤ 999 := hV.1 15 _ rfl
  refine g_get (C := RX2) (T := TX2) (N := 13) hx hb hts inX2 hown hG (hP.hs hn) rfl 5 (by decide) (by decide +kernel) rfl (v := .int (z2 (X 15 n))) rfl dX2_quietSeconds_14 ?_
  refine lv_aload_n hx hb dX2_quietSeconds_17 rfl (lv_at hl 2 rfl) ?_
  have b_18 : 0 ≤ X 16 n ∧ X 16 n ≤ 999 := hV.1 16 _ rfl
  refine g_get (C := RX2) (T := TX2) (N := 13) hx hb hts inX2 hown hG (hP.hs hn) rfl 6 (by decide) (by decide +kernel) rfl (v := .int (z2 (X 16 n))) rfl dX2_quietSeconds_18 ?_
  refine b_icmp_gt (tgt := 39) hx hb dX2_quietSeconds_21 (by decide) ⟨⟨by omega, by omega⟩, ⟨by omega, by omega⟩⟩ (fun c_21 => ?_) (fun c_21 => ?_)
  · skip
    refine lv_iload_n hx hb dX2_quietSeconds_39 rfl (lv_at hl 1 rfl) ?_
    refine lv_iload hx hb dX2_quietSeconds_40 (lv_at hl 0 rfl) ?_
    refine b_iconst hx hb dX2_quietSeconds_42 ?_
    refine lv_aload_n hx hb dX2_quietSeconds_43 rfl (lv_at hl 2 rfl) ?_
    have b_44 : 0 ≤ X 16 n ∧ X 16 n ≤ 999 := hV.1 16 _ rfl
    refine g_get (C := RX2) (T := TX2) (N := 13) hx hb hts inX2 hown hG (hP.hs hn) rfl 6 (by decide) (by decide +kernel) rfl (v := .int (z2 (X 16 n))) rfl dX2_quietSeconds_44 ?_
    refine g_run (vx_runS (As := [.int (z2 (u % 1000)), .int (z2 (((u % 1000) + v2) - u)), .int (z2 (0)), .int (z2 (X 16 n))]) (rest := []) ⟨hx, hb, hml, hown, hts⟩ (k_shared l D ks bx _ (u % 1000) (((u % 1000) + v2) - u) (0) (X 16 n) ⟨⟨by omega, by omega⟩, ⟨by omega, by omega⟩, ⟨by omega, by omega⟩, by omega, by omega⟩) (cwS 4 hts gX2_quietSeconds_X2_shared rfl rfl rfl (by decide +kernel) ⟨Nat.le_of_ble_eq_true rfl, Nat.le_of_ble_eq_true rfl⟩) (g_preS hG hS rx_ge) rfl rfl hl.1 rfl (lv_room (Nat.le_of_ble_eq_true rfl)) dX2_quietSeconds_47 ⟨Nat.le_of_ble_eq_true rfl, Nat.le_of_ble_eq_true rfl⟩) hS (fun _ h => h) (fun _ _ _ _ _ h => h.elim) (fun v H1 locs hp hz9 hk9 hS => ?_)
    obtain ⟨rfl, hH9⟩ := hp
    obtain rfl := hH9.symm
    have sb_47 := shS_b (u % 1000) (((u % 1000) + v2) - u) (0) (X 16 n)
    refine W.eq (g2 := F0 m 50 ls [.int (z2 (shS (u % 1000) (((u % 1000) + v2) - u) (0) (X 16 n)))]) rfl ?_
    refine lv_iload_n hx hb dX2_quietSeconds_50 rfl (lv_at hl 1 rfl) ?_
    refine lv_iload hx hb dX2_quietSeconds_51 (lv_at hl 0 rfl) ?_
    refine lv_aload_n hx hb dX2_quietSeconds_53 rfl (lv_at hl 2 rfl) ?_
    have b_54 : 0 ≤ X 15 n ∧ X 15 n ≤ 999 := hV.1 15 _ rfl
    refine g_get (C := RX2) (T := TX2) (N := 13) hx hb hts inX2 hown hG (hP.hs hn) rfl 5 (by decide) (by decide +kernel) rfl (v := .int (z2 (X 15 n))) rfl dX2_quietSeconds_54 ?_
    refine b_sipush hx hb dX2_quietSeconds_57 (by decide +kernel) ?_
    refine g_run (vx_runS (As := [.int (z2 (u % 1000)), .int (z2 (((u % 1000) + v2) - u)), .int (z2 (X 15 n)), .int (z2 (1000))]) (rest := [.int (z2 (shS (u % 1000) (((u % 1000) + v2) - u) (0) (X 16 n)))]) ⟨hx, hb, hml, hown, hts⟩ (k_shared l D ks bx _ (u % 1000) (((u % 1000) + v2) - u) (X 15 n) (1000) ⟨⟨by omega, by omega⟩, ⟨by omega, by omega⟩, ⟨by omega, by omega⟩, by omega, by omega⟩) (cwS 4 hts gX2_quietSeconds_X2_shared rfl rfl rfl (by decide +kernel) ⟨Nat.le_of_ble_eq_true rfl, Nat.le_of_ble_eq_true rfl⟩) (g_preS hG hS rx_ge) rfl rfl hl.1 rfl (lv_room (Nat.le_of_ble_eq_true rfl)) dX2_quietSeconds_60 ⟨Nat.le_of_ble_eq_true rfl, Nat.le_of_ble_eq_true rfl⟩) hS (fun _ h => h) (fun _ _ _ _ _ h => h.elim) (fun v H1 locs hp hz9 hk9 hS => ?_)
    obtain ⟨rfl, hH9⟩ := hp
    obtain rfl := hH9.symm
    have sb_60 := shS_b (u % 1000) (((u % 1000) + v2) - u) (X 15 n) (1000)
    refine W.eq (g2 := F0 m 63 ls [.int (z2 (shS (u % 1000) (((u % 1000) + v2) - u) (X 15 n) (1000))), .int (z2 (shS (u % 1000) (((u % 1000) + v2) - u) (0) (X 16 n)))]) rfl ?_
    refine b_iadd hx hb dX2_quietSeconds_63 ?_
    exact g_iret hx hb hr hlocks hS ⟨Nat.le_of_ble_eq_true rfl, Nat.le_of_ble_eq_true rfl⟩ (⟨congrArg (fun z => some (Value.int (z2 z))) (by unfold qS; first | rw [if_pos (by omega)] | rw [if_neg (by omega)]), rfl⟩) dX2_quietSeconds_64
  · skip
    refine lv_iload_n hx hb dX2_quietSeconds_24 rfl (lv_at hl 1 rfl) ?_
    refine lv_iload hx hb dX2_quietSeconds_25 (lv_at hl 0 rfl) ?_
    refine lv_aload_n hx hb dX2_quietSeconds_27 rfl (lv_at hl 2 rfl) ?_
    have b_28 : 0 ≤ X 15 n ∧ X 15 n ≤ 999 := hV.1 15 _ rfl
    refine g_get (C := RX2) (T := TX2) (N := 13) hx hb hts inX2 hown hG (hP.hs hn) rfl 5 (by decide) (by decide +kernel) rfl (v := .int (z2 (X 15 n))) rfl dX2_quietSeconds_28 ?_
    refine lv_aload_n hx hb dX2_quietSeconds_31 rfl (lv_at hl 2 rfl) ?_
    have b_32 : 0 ≤ X 16 n ∧ X 16 n ≤ 999 := hV.1 16 _ rfl
    refine g_get (C := RX2) (T := TX2) (N := 13) hx hb hts inX2 hown hG (hP.hs hn) rfl 6 (by decide) (by decide +kernel) rfl (v := .int (z2 (X 16 n))) rfl dX2_quietSeconds_32 ?_
    refine g_run (vx_runS (As := [.int (z2 (u % 1000)), .int (z2 (((u % 1000) + v2) - u)), .int (z2 (X 15 n)), .int (z2 (X 16 n))]) (rest := []) ⟨hx, hb, hml, hown, hts⟩ (k_shared l D ks bx _ (u % 1000) (((u % 1000) + v2) - u) (X 15 n) (X 16 n) ⟨⟨by omega, by omega⟩, ⟨by omega, by omega⟩, ⟨by omega, by omega⟩, by omega, by omega⟩) (cwS 4 hts gX2_quietSeconds_X2_shared rfl rfl rfl (by decide +kernel) ⟨Nat.le_of_ble_eq_true rfl, Nat.le_of_ble_eq_true rfl⟩) (g_preS hG hS rx_ge) rfl rfl hl.1 rfl (lv_room (Nat.le_of_ble_eq_true rfl)) dX2_quietSeconds_35 ⟨Nat.le_of_ble_eq_true rfl, Nat.le_of_ble_eq_true rfl⟩) hS (fun _ h => h) (fun _ _ _ _ _ h => h.elim) (fun v H1 locs hp hz9 hk9 hS => ?_)
    obtain ⟨rfl, hH9⟩ := hp
    obtain rfl := hH9.symm
    have sb_35 := shS_b (u % 1000) (((u % 1000) + v2) - u) (X 15 n) (X 16 n)
    refine W.eq (g2 := F0 m 38 ls [.int (z2 (shS (u % 1000) (((u % 1000) + v2) - u) (X 15 n) (X 16 n)))]) rfl ?_
    exact g_iret hx hb hr hlocks hS ⟨Nat.le_of_ble_eq_true rfl, Nat.le_of_ble_eq_true rfl⟩ (⟨congrArg (fun z => some (Value.int (z2 z))) (by unfold qS; first | rw [if_pos (by omega)] | rw [if_neg (by omega)]), rfl⟩) dX2_quietSeconds_38
set_option maxHeartbeats 4000000 in
set_option maxRecDepth 100000 in
theorem k_isQuietAt (l : Launch) (D : va_G) (ks : Nat → ClassId) (bx : Nat) (ml : Nat → Nat) (X : Nat → Nat → Int) (H : Heap) (hP : PX D ks bx ml X H) (hV : VX X) {n : Nat} (hn : n < 8) (u : Int) (hr : 0 ≤ u ∧ u ≤ 1000000) : KM l yX2_isQuietAt wsX2_isQuietAt ({ frames := 3, cells := 0, slots := 0, locals := 71 } : Room) D ks bx [.ref (bx + 5 + 6 * n), .int (z2 u)] H (RX bx) (fun v H1 => v = some (.int (z2 (if 0 < qS X n u (u + 1) then 1 else 0))) ∧ H1 = H) (fun _ _ => False) := by
  refine KM.of (cc := cX2_isQuietAt) (maxL := 2) (ret := (some .boolean)) (by decide) rfl (Nat.le_of_ble_eq_true rfl) ?_
  intro p e s m below meth c hx hb hml hr hlocks hown hname hts hext hH0 hG ls hl
  subst hH0
  have hown : s.vm.findClass RX2 = some m.cls := hown
  have hS : va_S (AR (RX bx) s.heap.size) s.heap s.heap [] := va_S.rf
  have hl : lv_has ls 2 [(0, .ref (bx + 5 + 6 * n)), (1, .int (z2 (u)))] := hl
  refine lv_aload_n hx hb dX2_isQuietAt_0 rfl (lv_at hl 0 rfl) ?_
  refine lv_iload_n hx hb dX2_isQuietAt_1 rfl (lv_at hl 1 rfl) ?_
  refine lv_iload_n hx hb dX2_isQuietAt_2 rfl (lv_at hl 1 rfl) ?_
  refine b_iconst hx hb dX2_isQuietAt_3 ?_
  refine b_iadd hx hb dX2_isQuietAt_4 ?_
  refine g_run (vx_runV (As := [.int (z2 (u)), .int (z2 (u + 1))]) (rest := []) ⟨hx, hb, hml, hown, hts⟩ (k_quietSeconds l D ks bx ml X _ hP hV hn (u) (u + 1) ⟨⟨by omega, by omega⟩, by omega, by omega⟩) (cwV 2 hts gX2_isQuietAt_X2_quietSeconds rfl rfl rfl (by decide +kernel) ⟨Nat.le_of_ble_eq_true rfl, Nat.le_of_ble_eq_true rfl⟩) (g_preV (r := (RX2, TX2, 13)) hG hS rx_ge (hP.hs hn) rfl) rfl rfl hl.1 rfl (lv_room (Nat.le_of_ble_eq_true rfl)) dX2_isQuietAt_5 ⟨Nat.le_of_ble_eq_true rfl, Nat.le_of_ble_eq_true rfl⟩) hS (fun _ h => h) (fun _ _ _ _ _ h => h.elim) (fun v H1 locs hp hz9 hk9 hS => ?_)
  obtain ⟨rfl, hH9⟩ := hp
  obtain rfl := hH9.symm
  have qb_5 := qS_b (X := X) hV n (u) (u + 1)
  refine W.eq (g2 := F0 m 8 ls [.int (z2 (qS X n (u) (u + 1)))]) rfl ?_
  refine b_if_le (tgt := 15) hx hb dX2_isQuietAt_8 (by decide) ⟨by omega, by omega⟩ (fun c_8 => ?_) (fun c_8 => ?_)
  · skip
    refine b_iconst hx hb dX2_isQuietAt_15 ?_
    exact g_zret hx hb hr hlocks hS (by decide +kernel) ⟨Nat.le_of_ble_eq_true rfl, Nat.le_of_ble_eq_true rfl⟩ (⟨congrArg (fun z => some (Value.int (z2 z))) (by first | rw [if_pos (by omega)] | rw [if_neg (by omega)]), rfl⟩) dX2_isQuietAt_16
  · skip
    refine b_iconst hx hb dX2_isQuietAt_11 ?_
    refine lv_goto (tgt := 16) hx hb dX2_isQuietAt_12 (by decide) ?_
    exact g_zret hx hb hr hlocks hS (by decide +kernel) ⟨Nat.le_of_ble_eq_true rfl, Nat.le_of_ble_eq_true rfl⟩ (⟨congrArg (fun z => some (Value.int (z2 z))) (by first | rw [if_pos (by omega)] | rw [if_neg (by omega)]), rfl⟩) dX2_isQuietAt_16
set_option maxHeartbeats 4000000 in
set_option maxRecDepth 100000 in
theorem k_mayRing (l : Launch) (D : va_G) (ks : Nat → ClassId) (bx : Nat) (ml : Nat → Nat) (X : Nat → Nat → Int) (H : Heap) (hP : PX D ks bx ml X H) (hV : VX X) {n k : Nat} (hn : n < 8) (hk : (k : Int) < X 4 0) : KM l yX2_mayRing wsX2_mayRing ({ frames := 0, cells := 0, slots := 0, locals := 0 } : Room) D ks bx [.ref (bx + 5 + 6 * n), .ref (ml k)] H (RX bx) (fun v H1 => v = some (.int (z2 (mrS X n k))) ∧ H1 = H) (fun _ _ => False) := by
  refine KM.of (cc := cX2_mayRing) (maxL := 2) (ret := (some .boolean)) (by decide) rfl (Nat.le_of_ble_eq_true rfl) ?_
  intro p e s m below meth c hx hb hml hr hlocks hown hname hts hext hH0 hG ls hl
  subst hH0
  have hown : s.vm.findClass RX2 = some m.cls := hown
  have hS : va_S (AR (RX bx) s.heap.size) s.heap s.heap [] := va_S.rf
  have hl : lv_has ls 2 [(0, .ref (bx + 5 + 6 * n)), (1, .ref (ml k))] := hl
  have inX2 : ∀ w ∈ wsX20, w ∈ wsX2_mayRing := by decide +kernel
  have inX3 : ∀ w ∈ wsX30, w ∈ wsX2_mayRing := by decide +kernel
  have b4 : 0 ≤ X 4 0 ∧ X 4 0 ≤ 12 := hV.1 4 0 rfl
  refine lv_aload_n hx hb dX2_mayRing_0 rfl (lv_at hl 1 rfl) ?_
  have b_1 : 0 ≤ X 36 k ∧ X 36 k ≤ 7 := hV.1 36 _ rfl
  refine g_getN (C := RX3) (T := TX3) (N := 4) hx hb hts inX3 hown hG (hP.me hk) rfl 1 (by decide) (List.mem_of_getElem? (i := 20) rfl) rfl (v := .int (z2 (X 36 k))) rfl dX2_mayRing_1 ?_
  refine lv_aload_n hx hb dX2_mayRing_4 rfl (lv_at hl 0 rfl) ?_
  refine g_get (C := RX2) (T := TX2) (N := 13) hx hb hts inX2 hown hG (hP.hs hn) rfl 0 (by decide) (by decide +kernel) rfl (v := .int (z2 (((n : Nat) : Int)))) rfl dX2_mayRing_5 ?_
  refine b_icmp_eq (tgt := 23) hx hb dX2_mayRing_8 (by decide) ⟨⟨by omega, by omega⟩, ⟨by omega, by omega⟩⟩ (fun c_8 => ?_) (fun c_8 => ?_)
  · skip
    refine b_iconst hx hb dX2_mayRing_23 ?_
    refine lv_goto (tgt := 28) hx hb dX2_mayRing_24 (by decide) ?_
    exact g_zret hx hb hr hlocks hS (by decide +kernel) ⟨Nat.le_of_ble_eq_true rfl, Nat.le_of_ble_eq_true rfl⟩ (⟨congrArg (fun z => some (Value.int (z2 z))) (by unfold mrS; first | rw [if_pos (by omega)] | rw [if_neg (by omega)]), rfl⟩) dX2_mayRing_28
  · skip
    refine lv_aload_n hx hb dX2_mayRing_11 rfl (lv_at hl 0 rfl) ?_
    refine g_get (C := RX2) (T := TX2) (N := 13) hx hb hts inX2 hown hG (hP.hs hn) rfl 3 (by decide) (by decide +kernel) rfl (v := .ref (bx + 5 + 6 * n + 2)) rfl dX2_mayRing_12 ?_
    refine lv_aload_n hx hb dX2_mayRing_15 rfl (lv_at hl 1 rfl) ?_
    refine g_getN (C := RX3) (T := TX3) (N := 4) hx hb hts inX3 hown hG (hP.me hk) rfl 0 (by decide) (List.mem_of_getElem? (i := 21) rfl) rfl (v := .int (z2 (((k : Nat) : Int)))) rfl dX2_mayRing_16 ?_
    have b_19 : 0 ≤ X 23 (12 * n + k) ∧ X 23 (12 * n + k) ≤ 1000 := hV.1 23 _ rfl
    refine g_iald (n := 12) hx hb hG (hP.ra hn) k ⟨by omega, by omega, by decide⟩ dX2_mayRing_19 ?_
    refine W.eq (g2 := F0 m 20 ls (.int (z2 (X 23 (12 * n + k))) :: [])) rfl ?_
    refine b_if_le (tgt := 27) hx hb dX2_mayRing_20 (by decide) ⟨by omega, by omega⟩ (fun c_20 => ?_) (fun c_20 => ?_)
    · skip
      refine b_iconst hx hb dX2_mayRing_27 ?_
      exact g_zret hx hb hr hlocks hS (by decide +kernel) ⟨Nat.le_of_ble_eq_true rfl, Nat.le_of_ble_eq_true rfl⟩ (⟨congrArg (fun z => some (Value.int (z2 z))) (by unfold mrS; first | rw [if_pos (by omega)] | rw [if_neg (by omega)]), rfl⟩) dX2_mayRing_28
    · skip
      refine b_iconst hx hb dX2_mayRing_23 ?_
      refine lv_goto (tgt := 28) hx hb dX2_mayRing_24 (by decide) ?_
      exact g_zret hx hb hr hlocks hS (by decide +kernel) ⟨Nat.le_of_ble_eq_true rfl, Nat.le_of_ble_eq_true rfl⟩ (⟨congrArg (fun z => some (Value.int (z2 z))) (by unfold mrS; first | rw [if_pos (by omega)] | rw [if_neg (by omega)]), rfl⟩) dX2_mayRing_28
set_option maxHeartbeats 4000000 in
set_option maxRecDepth 100000 in
theorem k_useRight (l : Launch) (D : va_G) (ks : Nat → ClassId) (bx : Nat) (ml : Nat → Nat) (X : Nat → Nat → Int) (H : Heap) (hP : PX D ks bx ml X H) (hV : VX X) {n k : Nat} (hn : n < 8) (hk : (k : Int) < X 4 0) : KM l yX2_useRight wsX2_useRight ({ frames := 0, cells := 0, slots := 0, locals := 0 } : Room) D ks bx [.ref (bx + 5 + 6 * n), .ref (ml k)] H (RX bx) (fun v H1 => v = none ∧ PX D ks bx ml (urS X n k) H1) (fun _ _ => False) := by
  refine KM.of (cc := cX2_useRight) (maxL := 2) (ret := none) (by decide) rfl (Nat.le_of_ble_eq_true rfl) ?_
  intro p e s m below meth c hx hb hml hr hlocks hown hname hts hext hH0 hG ls hl
  subst hH0
  have hown : s.vm.findClass RX2 = some m.cls := hown
  have hS : va_S (AR (RX bx) s.heap.size) s.heap s.heap [] := va_S.rf
  have hl : lv_has ls 2 [(0, .ref (bx + 5 + 6 * n)), (1, .ref (ml k))] := hl
  have inX2 : ∀ w ∈ wsX20, w ∈ wsX2_useRight := by decide +kernel
  have inX3 : ∀ w ∈ wsX30, w ∈ wsX2_useRight := by decide +kernel
  have b4 : 0 ≤ X 4 0 ∧ X 4 0 ≤ 12 := hV.1 4 0 rfl
  refine lv_aload_n hx hb dX2_useRight_0 rfl (lv_at hl 1 rfl) ?_
  have b_1 : 0 ≤ X 36 k ∧ X 36 k ≤ 7 := hV.1 36 _ rfl
  refine g_getN (C := RX3) (T := TX3) (N := 4) hx hb hts inX3 hown hG (hP.me hk) rfl 1 (by decide) (List.mem_of_getElem? (i := 20) rfl) rfl (v := .int (z2 (X 36 k))) rfl dX2_useRight_1 ?_
  refine lv_aload_n hx hb dX2_useRight_4 rfl (lv_at hl 0 rfl) ?_
  refine g_get (C := RX2) (T := TX2) (N := 13) hx hb hts inX2 hown hG (hP.hs hn) rfl 0 (by decide) (by decide +kernel) rfl (v := .int (z2 (((n : Nat) : Int)))) rfl dX2_useRight_5 ?_
  refine b_icmp_eq (tgt := 24) hx hb dX2_useRight_8 (by decide) ⟨⟨by omega, by omega⟩, ⟨by omega, by omega⟩⟩ (fun c_8 => ?_) (fun c_8 => ?_)
  · skip
    exact g_vret hx hb hr hlocks hS ⟨Nat.le_of_ble_eq_true rfl, Nat.le_of_ble_eq_true rfl⟩ (⟨rfl, by unfold urS; first | (rw [if_pos (by omega)]; exact hP) | (rw [if_neg (by omega)]; exact hP)⟩) dX2_useRight_24
  · skip
    refine lv_aload_n hx hb dX2_useRight_11 rfl (lv_at hl 0 rfl) ?_
    refine g_get (C := RX2) (T := TX2) (N := 13) hx hb hts inX2 hown hG (hP.hs hn) rfl 3 (by decide) (by decide +kernel) rfl (v := .ref (bx + 5 + 6 * n + 2)) rfl dX2_useRight_12 ?_
    refine lv_aload_n hx hb dX2_useRight_15 rfl (lv_at hl 1 rfl) ?_
    refine g_getN (C := RX3) (T := TX3) (N := 4) hx hb hts inX3 hown hG (hP.me hk) rfl 0 (by decide) (List.mem_of_getElem? (i := 21) rfl) rfl (v := .int (z2 (((k : Nat) : Int)))) rfl dX2_useRight_16 ?_
    refine lv_dup2_11 hx hb dX2_useRight_19 rfl rfl ?_
    have b_20 : 0 ≤ X 23 (12 * n + k) ∧ X 23 (12 * n + k) ≤ 1000 := hV.1 23 _ rfl
    refine g_iald (n := 12) hx hb hG (hP.ra hn) k ⟨by omega, by omega, by decide⟩ dX2_useRight_20 ?_
    refine W.eq (g2 := F0 m 21 ls (.int (z2 (X 23 (12 * n + k))) :: [.int (z2 (((k : Nat) : Int))), .ref (bx + 5 + 6 * n + 2)])) rfl ?_
    refine b_iconst hx hb dX2_useRight_21 ?_
    refine b_isub hx hb dX2_useRight_22 ?_
    refine g_iast (n := 12) hx hb hG hS (hP.ra hn) (Or.inl ⟨by omega, by omega⟩) k ⟨by omega, by omega, by decide⟩ dX2_useRight_23 (fun H locs he hz oq hS => ?_)
    have hP : PX D ks bx ml (up X 23 (12 * n + k) ((X 23 (12 * n + k)) - 1)) H := hP.right hn (by omega) he oq
    exact g_vret hx hb hr hlocks hS ⟨Nat.le_of_ble_eq_true rfl, Nat.le_of_ble_eq_true rfl⟩ (⟨rfl, by unfold urS; first | (rw [if_pos (by omega)]; exact hP) | (rw [if_neg (by omega)]; exact hP)⟩) dX2_useRight_24
set_option maxHeartbeats 4000000 in
set_option maxRecDepth 100000 in
theorem k_ringingSet (l : Launch) (D : va_G) (ks : Nat → ClassId) (bx : Nat) (ml : Nat → Nat) (X : Nat → Nat → Int) (H : Heap) (hP : PX D ks bx ml X H) (hV : VX X) {n : Nat} (hn : n < 8) : KM l yX2_ringingSet wsX2_ringingSet ({ frames := 0, cells := 0, slots := 0, locals := 0 } : Room) D ks bx [.ref (bx + 5 + 6 * n)] H (RX bx) (fun v H1 => v = some (.int (z2 (rsS X n))) ∧ H1 = H) (fun _ _ => False) := by
  refine KM.of (cc := cX2_ringingSet) (maxL := 3) (ret := (some .int)) (by decide) rfl (Nat.le_of_ble_eq_true rfl) ?_
  intro p e s m below meth c hx hb hml hr hlocks hown hname hts hext hH0 hG ls hl
  subst hH0
  have hown : s.vm.findClass RX2 = some m.cls := hown
  have hS : va_S (AR (RX bx) s.heap.size) s.heap s.heap [] := va_S.rf
  have hl : lv_has ls 3 [(0, .ref (bx + 5 + 6 * n))] := hl
  have inX0 : ∀ w ∈ wsX00, w ∈ wsX2_ringingSet := by decide +kernel
  have inX2 : ∀ w ∈ wsX20, w ∈ wsX2_ringingSet := by decide +kernel
  refine b_iconst hx hb dX2_ringingSet_0 ?_
  refine lv_istore_n (lv' := [(1, .int (z2 (0))), (0, .ref (bx + 5 + 6 * n))]) hx hb dX2_ringingSet_1 rfl hl (by decide) rfl (fun ls hl => ?_)
  refine b_iconst hx hb dX2_ringingSet_2 ?_
  refine lv_istore_n (lv' := [(2, .int (z2 (0))), (1, .int (z2 (0))), (0, .ref (bx + 5 + 6 * n))]) hx hb dX2_ringingSet_3 rfl hl (by decide) rfl (fun ls hl => ?_)
  refine lv_iload_n hx hb dX2_ringingSet_4 rfl (lv_at hl 0 rfl) ?_
  refine b_iconst hx hb dX2_ringingSet_5 ?_
  refine b_icmp_ge (tgt := 33) hx hb dX2_ringingSet_6 (by decide) ⟨⟨by omega, by omega⟩, ⟨by omega, by omega⟩⟩ (fun c => absurd c (by omega)) (fun _ => ?_)
  refine lv_aload_n hx hb dX2_ringingSet_9 rfl (lv_at hl 2 rfl) ?_
  refine g_get (C := RX2) (T := TX2) (N := 13) hx hb hts inX2 hown hG (hP.hs hn) rfl 2 (by decide) (by decide +kernel) rfl (v := .ref (bx + 5 + 6 * n + 1)) rfl dX2_ringingSet_10 ?_
  refine lv_iload_n hx hb dX2_ringingSet_13 rfl (lv_at hl 0 rfl) ?_
  refine g_aald (n := 3) hx hb hG 2 rfl (hP.ba hn) 0 ⟨by omega, by omega, by decide⟩ dX2_ringingSet_14 (v := .ref (bx + 5 + 6 * n + 3 + 0)) rfl ?_
  have b_15 : 0 ≤ X 32 (3 * n + 0) ∧ X 32 (3 * n + 0) ≤ 1 := hV.1 32 _ rfl
  refine g_getN (C := RX0) (T := TX0) (N := 4) hx hb hts inX0 hown hG (hP.be hn (by decide)) rfl 2 (by decide) (List.mem_of_getElem? (i := 22) rfl) rfl (v := .int (z2 (X 32 (3 * n + 0)))) rfl dX2_ringingSet_15 ?_
  refine b_if_eq (tgt := 27) hx hb dX2_ringingSet_18 (by decide) ⟨by omega, by omega⟩ (fun c_18 => ?_) (fun c_18 => ?_)
  · skip
    refine b_iinc (lv' := [(2, .int (z2 (1))), (1, .int (z2 (0))), (0, .ref (bx + 5 + 6 * n))]) hx hb dX2_ringingSet_27 hl (k := 0) rfl (by decide) rfl (fun ls hl => ?_)
    refine lv_goto (tgt := 4) hx hb dX2_ringingSet_30 (by decide) ?_
    refine lv_iload_n hx hb dX2_ringingSet_4 rfl (lv_at hl 0 rfl) ?_
    refine b_iconst hx hb dX2_ringingSet_5 ?_
    refine b_icmp_ge (tgt := 33) hx hb dX2_ringingSet_6 (by decide) ⟨⟨by omega, by omega⟩, ⟨by omega, by omega⟩⟩ (fun c => absurd c (by omega)) (fun _ => ?_)
    refine lv_aload_n hx hb dX2_ringingSet_9 rfl (lv_at hl 2 rfl) ?_
    refine g_get (C := RX2) (T := TX2) (N := 13) hx hb hts inX2 hown hG (hP.hs hn) rfl 2 (by decide) (by decide +kernel) rfl (v := .ref (bx + 5 + 6 * n + 1)) rfl dX2_ringingSet_10 ?_
    refine lv_iload_n hx hb dX2_ringingSet_13 rfl (lv_at hl 0 rfl) ?_
    refine g_aald (n := 3) hx hb hG 2 rfl (hP.ba hn) 1 ⟨by omega, by omega, by decide⟩ dX2_ringingSet_14 (v := .ref (bx + 5 + 6 * n + 3 + 1)) rfl ?_
    have b_15 : 0 ≤ X 32 (3 * n + 1) ∧ X 32 (3 * n + 1) ≤ 1 := hV.1 32 _ rfl
    refine g_getN (C := RX0) (T := TX0) (N := 4) hx hb hts inX0 hown hG (hP.be hn (by decide)) rfl 2 (by decide) (List.mem_of_getElem? (i := 22) rfl) rfl (v := .int (z2 (X 32 (3 * n + 1)))) rfl dX2_ringingSet_15 ?_
    refine b_if_eq (tgt := 27) hx hb dX2_ringingSet_18 (by decide) ⟨by omega, by omega⟩ (fun c_18 => ?_) (fun c_18 => ?_)
    · skip
      refine b_iinc (lv' := [(2, .int (z2 (2))), (1, .int (z2 (0))), (0, .ref (bx + 5 + 6 * n))]) hx hb dX2_ringingSet_27 hl (k := 0) rfl (by decide) rfl (fun ls hl => ?_)
      refine lv_goto (tgt := 4) hx hb dX2_ringingSet_30 (by decide) ?_
      refine lv_iload_n hx hb dX2_ringingSet_4 rfl (lv_at hl 0 rfl) ?_
      refine b_iconst hx hb dX2_ringingSet_5 ?_
      refine b_icmp_ge (tgt := 33) hx hb dX2_ringingSet_6 (by decide) ⟨⟨by omega, by omega⟩, ⟨by omega, by omega⟩⟩ (fun c => absurd c (by omega)) (fun _ => ?_)
      refine lv_aload_n hx hb dX2_ringingSet_9 rfl (lv_at hl 2 rfl) ?_
      refine g_get (C := RX2) (T := TX2) (N := 13) hx hb hts inX2 hown hG (hP.hs hn) rfl 2 (by decide) (by decide +kernel) rfl (v := .ref (bx + 5 + 6 * n + 1)) rfl dX2_ringingSet_10 ?_
      refine lv_iload_n hx hb dX2_ringingSet_13 rfl (lv_at hl 0 rfl) ?_
      refine g_aald (n := 3) hx hb hG 2 rfl (hP.ba hn) 2 ⟨by omega, by omega, by decide⟩ dX2_ringingSet_14 (v := .ref (bx + 5 + 6 * n + 3 + 2)) rfl ?_
      have b_15 : 0 ≤ X 32 (3 * n + 2) ∧ X 32 (3 * n + 2) ≤ 1 := hV.1 32 _ rfl
      refine g_getN (C := RX0) (T := TX0) (N := 4) hx hb hts inX0 hown hG (hP.be hn (by decide)) rfl 2 (by decide) (List.mem_of_getElem? (i := 22) rfl) rfl (v := .int (z2 (X 32 (3 * n + 2)))) rfl dX2_ringingSet_15 ?_
      refine b_if_eq (tgt := 27) hx hb dX2_ringingSet_18 (by decide) ⟨by omega, by omega⟩ (fun c_18 => ?_) (fun c_18 => ?_)
      · skip
        refine b_iinc (lv' := [(2, .int (z2 (3))), (1, .int (z2 (0))), (0, .ref (bx + 5 + 6 * n))]) hx hb dX2_ringingSet_27 hl (k := 0) rfl (by decide) rfl (fun ls hl => ?_)
        refine lv_goto (tgt := 4) hx hb dX2_ringingSet_30 (by decide) ?_
        refine lv_iload_n hx hb dX2_ringingSet_4 rfl (lv_at hl 0 rfl) ?_
        refine b_iconst hx hb dX2_ringingSet_5 ?_
        refine b_icmp_ge (tgt := 33) hx hb dX2_ringingSet_6 (by decide) ⟨⟨by omega, by omega⟩, ⟨by omega, by omega⟩⟩ (fun _ => ?_) (fun c => absurd c (by omega))
        refine lv_iload_n hx hb dX2_ringingSet_33 rfl (lv_at hl 1 rfl) ?_
        exact g_iret hx hb hr hlocks hS ⟨Nat.le_of_ble_eq_true rfl, Nat.le_of_ble_eq_true rfl⟩ (⟨congrArg (fun z => some (Value.int (z2 z))) (by unfold rsS; (repeat' split) <;> omega), rfl⟩) dX2_ringingSet_34
      · skip
        refine lv_iload_n hx hb dX2_ringingSet_21 rfl (lv_at hl 1 rfl) ?_
        refine b_iconst hx hb dX2_ringingSet_22 ?_
        refine lv_iload_n hx hb dX2_ringingSet_23 rfl (lv_at hl 0 rfl) ?_
        refine lv_ishl hx hb dX2_ringingSet_24 ?_
        refine b_top (v := 4) (by decide +kernel) ?_
        refine lv_ior hx hb dX2_ringingSet_25 ?_
        refine b_top (v := 4) (by decide +kernel) ?_
        refine lv_istore_n (lv' := [(1, .int (z2 (4))), (2, .int (z2 (2))), (0, .ref (bx + 5 + 6 * n))]) hx hb dX2_ringingSet_26 rfl hl (by decide) rfl (fun ls hl => ?_)
        refine b_iinc (lv' := [(2, .int (z2 (3))), (1, .int (z2 (4))), (0, .ref (bx + 5 + 6 * n))]) hx hb dX2_ringingSet_27 hl (k := 1) rfl (by decide) rfl (fun ls hl => ?_)
        refine lv_goto (tgt := 4) hx hb dX2_ringingSet_30 (by decide) ?_
        refine lv_iload_n hx hb dX2_ringingSet_4 rfl (lv_at hl 0 rfl) ?_
        refine b_iconst hx hb dX2_ringingSet_5 ?_
        refine b_icmp_ge (tgt := 33) hx hb dX2_ringingSet_6 (by decide) ⟨⟨by omega, by omega⟩, ⟨by omega, by omega⟩⟩ (fun _ => ?_) (fun c => absurd c (by omega))
        refine lv_iload_n hx hb dX2_ringingSet_33 rfl (lv_at hl 1 rfl) ?_
        exact g_iret hx hb hr hlocks hS ⟨Nat.le_of_ble_eq_true rfl, Nat.le_of_ble_eq_true rfl⟩ (⟨congrArg (fun z => some (Value.int (z2 z))) (by unfold rsS; (repeat' split) <;> omega), rfl⟩) dX2_ringingSet_34
    · skip
      refine lv_iload_n hx hb dX2_ringingSet_21 rfl (lv_at hl 1 rfl) ?_
      refine b_iconst hx hb dX2_ringingSet_22 ?_
      refine lv_iload_n hx hb dX2_ringingSet_23 rfl (lv_at hl 0 rfl) ?_
      refine lv_ishl hx hb dX2_ringingSet_24 ?_
      refine b_top (v := 2) (by decide +kernel) ?_
      refine lv_ior hx hb dX2_ringingSet_25 ?_
      refine b_top (v := 2) (by decide +kernel) ?_
      refine lv_istore_n (lv' := [(1, .int (z2 (2))), (2, .int (z2 (1))), (0, .ref (bx + 5 + 6 * n))]) hx hb dX2_ringingSet_26 rfl hl (by decide) rfl (fun ls hl => ?_)
      refine b_iinc (lv' := [(2, .int (z2 (2))), (1, .int (z2 (2))), (0, .ref (bx + 5 + 6 * n))]) hx hb dX2_ringingSet_27 hl (k := 1) rfl (by decide) rfl (fun ls hl => ?_)
      refine lv_goto (tgt := 4) hx hb dX2_ringingSet_30 (by decide) ?_
      refine lv_iload_n hx hb dX2_ringingSet_4 rfl (lv_at hl 0 rfl) ?_
      refine b_iconst hx hb dX2_ringingSet_5 ?_
      refine b_icmp_ge (tgt := 33) hx hb dX2_ringingSet_6 (by decide) ⟨⟨by omega, by omega⟩, ⟨by omega, by omega⟩⟩ (fun c => absurd c (by omega)) (fun _ => ?_)
      refine lv_aload_n hx hb dX2_ringingSet_9 rfl (lv_at hl 2 rfl) ?_
      refine g_get (C := RX2) (T := TX2) (N := 13) hx hb hts inX2 hown hG (hP.hs hn) rfl 2 (by decide) (by decide +kernel) rfl (v := .ref (bx + 5 + 6 * n + 1)) rfl dX2_ringingSet_10 ?_
      refine lv_iload_n hx hb dX2_ringingSet_13 rfl (lv_at hl 0 rfl) ?_
      refine g_aald (n := 3) hx hb hG 2 rfl (hP.ba hn) 2 ⟨by omega, by omega, by decide⟩ dX2_ringingSet_14 (v := .ref (bx + 5 + 6 * n + 3 + 2)) rfl ?_
      have b_15 : 0 ≤ X 32 (3 * n + 2) ∧ X 32 (3 * n + 2) ≤ 1 := hV.1 32 _ rfl
      refine g_getN (C := RX0) (T := TX0) (N := 4) hx hb hts inX0 hown hG (hP.be hn (by decide)) rfl 2 (by decide) (List.mem_of_getElem? (i := 22) rfl) rfl (v := .int (z2 (X 32 (3 * n + 2)))) rfl dX2_ringingSet_15 ?_
      refine b_if_eq (tgt := 27) hx hb dX2_ringingSet_18 (by decide) ⟨by omega, by omega⟩ (fun c_18 => ?_) (fun c_18 => ?_)
      · skip
        refine b_iinc (lv' := [(2, .int (z2 (3))), (1, .int (z2 (2))), (0, .ref (bx + 5 + 6 * n))]) hx hb dX2_ringingSet_27 hl (k := 0) rfl (by decide) rfl (fun ls hl => ?_)
        refine lv_goto (tgt := 4) hx hb dX2_ringingSet_30 (by decide) ?_
        refine lv_iload_n hx hb dX2_ringingSet_4 rfl (lv_at hl 0 rfl) ?_
        refine b_iconst hx hb dX2_ringingSet_5 ?_
        refine b_icmp_ge (tgt := 33) hx hb dX2_ringingSet_6 (by decide) ⟨⟨by omega, by omega⟩, ⟨by omega, by omega⟩⟩ (fun _ => ?_) (fun c => absurd c (by omega))
        refine lv_iload_n hx hb dX2_ringingSet_33 rfl (lv_at hl 1 rfl) ?_
        exact g_iret hx hb hr hlocks hS ⟨Nat.le_of_ble_eq_true rfl, Nat.le_of_ble_eq_true rfl⟩ (⟨congrArg (fun z => some (Value.int (z2 z))) (by unfold rsS; (repeat' split) <;> omega), rfl⟩) dX2_ringingSet_34
      · skip
        refine lv_iload_n hx hb dX2_ringingSet_21 rfl (lv_at hl 1 rfl) ?_
        refine b_iconst hx hb dX2_ringingSet_22 ?_
        refine lv_iload_n hx hb dX2_ringingSet_23 rfl (lv_at hl 0 rfl) ?_
        refine lv_ishl hx hb dX2_ringingSet_24 ?_
        refine b_top (v := 4) (by decide +kernel) ?_
        refine lv_ior hx hb dX2_ringingSet_25 ?_
        refine b_top (v := 6) (by decide +kernel) ?_
        refine lv_istore_n (lv' := [(1, .int (z2 (6))), (2, .int (z2 (2))), (0, .ref (bx + 5 + 6 * n))]) hx hb dX2_ringingSet_26 rfl hl (by decide) rfl (fun ls hl => ?_)
        refine b_iinc (lv' := [(2, .int (z2 (3))), (1, .int (z2 (6))), (0, .ref (bx + 5 + 6 * n))]) hx hb dX2_ringingSet_27 hl (k := 1) rfl (by decide) rfl (fun ls hl => ?_)
        refine lv_goto (tgt := 4) hx hb dX2_ringingSet_30 (by decide) ?_
        refine lv_iload_n hx hb dX2_ringingSet_4 rfl (lv_at hl 0 rfl) ?_
        refine b_iconst hx hb dX2_ringingSet_5 ?_
        refine b_icmp_ge (tgt := 33) hx hb dX2_ringingSet_6 (by decide) ⟨⟨by omega, by omega⟩, ⟨by omega, by omega⟩⟩ (fun _ => ?_) (fun c => absurd c (by omega))
        refine lv_iload_n hx hb dX2_ringingSet_33 rfl (lv_at hl 1 rfl) ?_
        exact g_iret hx hb hr hlocks hS ⟨Nat.le_of_ble_eq_true rfl, Nat.le_of_ble_eq_true rfl⟩ (⟨congrArg (fun z => some (Value.int (z2 z))) (by unfold rsS; (repeat' split) <;> omega), rfl⟩) dX2_ringingSet_34
  · skip
    refine lv_iload_n hx hb dX2_ringingSet_21 rfl (lv_at hl 1 rfl) ?_
    refine b_iconst hx hb dX2_ringingSet_22 ?_
    refine lv_iload_n hx hb dX2_ringingSet_23 rfl (lv_at hl 0 rfl) ?_
    refine lv_ishl hx hb dX2_ringingSet_24 ?_
    refine b_top (v := 1) (by decide +kernel) ?_
    refine lv_ior hx hb dX2_ringingSet_25 ?_
    refine b_top (v := 1) (by decide +kernel) ?_
    refine lv_istore_n (lv' := [(1, .int (z2 (1))), (2, .int (z2 (0))), (0, .ref (bx + 5 + 6 * n))]) hx hb dX2_ringingSet_26 rfl hl (by decide) rfl (fun ls hl => ?_)
    refine b_iinc (lv' := [(2, .int (z2 (1))), (1, .int (z2 (1))), (0, .ref (bx + 5 + 6 * n))]) hx hb dX2_ringingSet_27 hl (k := 1) rfl (by decide) rfl (fun ls hl => ?_)
    refine lv_goto (tgt := 4) hx hb dX2_ringingSet_30 (by decide) ?_
    refine lv_iload_n hx hb dX2_ringingSet_4 rfl (lv_at hl 0 rfl) ?_
    refine b_iconst hx hb dX2_ringingSet_5 ?_
    refine b_icmp_ge (tgt := 33) hx hb dX2_ringingSet_6 (by decide) ⟨⟨by omega, by omega⟩, ⟨by omega, by omega⟩⟩ (fun c => absurd c (by omega)) (fun _ => ?_)
    refine lv_aload_n hx hb dX2_ringingSet_9 rfl (lv_at hl 2 rfl) ?_
    refine g_get (C := RX2) (T := TX2) (N := 13) hx hb hts inX2 hown hG (hP.hs hn) rfl 2 (by decide) (by decide +kernel) rfl (v := .ref (bx + 5 + 6 * n + 1)) rfl dX2_ringingSet_10 ?_
    refine lv_iload_n hx hb dX2_ringingSet_13 rfl (lv_at hl 0 rfl) ?_
    refine g_aald (n := 3) hx hb hG 2 rfl (hP.ba hn) 1 ⟨by omega, by omega, by decide⟩ dX2_ringingSet_14 (v := .ref (bx + 5 + 6 * n + 3 + 1)) rfl ?_
    have b_15 : 0 ≤ X 32 (3 * n + 1) ∧ X 32 (3 * n + 1) ≤ 1 := hV.1 32 _ rfl
    refine g_getN (C := RX0) (T := TX0) (N := 4) hx hb hts inX0 hown hG (hP.be hn (by decide)) rfl 2 (by decide) (List.mem_of_getElem? (i := 22) rfl) rfl (v := .int (z2 (X 32 (3 * n + 1)))) rfl dX2_ringingSet_15 ?_
    refine b_if_eq (tgt := 27) hx hb dX2_ringingSet_18 (by decide) ⟨by omega, by omega⟩ (fun c_18 => ?_) (fun c_18 => ?_)
    · skip
      refine b_iinc (lv' := [(2, .int (z2 (2))), (1, .int (z2 (1))), (0, .ref (bx + 5 + 6 * n))]) hx hb dX2_ringingSet_27 hl (k := 0) rfl (by decide) rfl (fun ls hl => ?_)
      refine lv_goto (tgt := 4) hx hb dX2_ringingSet_30 (by decide) ?_
      refine lv_iload_n hx hb dX2_ringingSet_4 rfl (lv_at hl 0 rfl) ?_
      refine b_iconst hx hb dX2_ringingSet_5 ?_
      refine b_icmp_ge (tgt := 33) hx hb dX2_ringingSet_6 (by decide) ⟨⟨by omega, by omega⟩, ⟨by omega, by omega⟩⟩ (fun c => absurd c (by omega)) (fun _ => ?_)
      refine lv_aload_n hx hb dX2_ringingSet_9 rfl (lv_at hl 2 rfl) ?_
      refine g_get (C := RX2) (T := TX2) (N := 13) hx hb hts inX2 hown hG (hP.hs hn) rfl 2 (by decide) (by decide +kernel) rfl (v := .ref (bx + 5 + 6 * n + 1)) rfl dX2_ringingSet_10 ?_
      refine lv_iload_n hx hb dX2_ringingSet_13 rfl (lv_at hl 0 rfl) ?_
      refine g_aald (n := 3) hx hb hG 2 rfl (hP.ba hn) 2 ⟨by omega, by omega, by decide⟩ dX2_ringingSet_14 (v := .ref (bx + 5 + 6 * n + 3 + 2)) rfl ?_
      have b_15 : 0 ≤ X 32 (3 * n + 2) ∧ X 32 (3 * n + 2) ≤ 1 := hV.1 32 _ rfl
      refine g_getN (C := RX0) (T := TX0) (N := 4) hx hb hts inX0 hown hG (hP.be hn (by decide)) rfl 2 (by decide) (List.mem_of_getElem? (i := 22) rfl) rfl (v := .int (z2 (X 32 (3 * n + 2)))) rfl dX2_ringingSet_15 ?_
      refine b_if_eq (tgt := 27) hx hb dX2_ringingSet_18 (by decide) ⟨by omega, by omega⟩ (fun c_18 => ?_) (fun c_18 => ?_)
      · skip
        refine b_iinc (lv' := [(2, .int (z2 (3))), (1, .int (z2 (1))), (0, .ref (bx + 5 + 6 * n))]) hx hb dX2_ringingSet_27 hl (k := 0) rfl (by decide) rfl (fun ls hl => ?_)
        refine lv_goto (tgt := 4) hx hb dX2_ringingSet_30 (by decide) ?_
        refine lv_iload_n hx hb dX2_ringingSet_4 rfl (lv_at hl 0 rfl) ?_
        refine b_iconst hx hb dX2_ringingSet_5 ?_
        refine b_icmp_ge (tgt := 33) hx hb dX2_ringingSet_6 (by decide) ⟨⟨by omega, by omega⟩, ⟨by omega, by omega⟩⟩ (fun _ => ?_) (fun c => absurd c (by omega))
        refine lv_iload_n hx hb dX2_ringingSet_33 rfl (lv_at hl 1 rfl) ?_
        exact g_iret hx hb hr hlocks hS ⟨Nat.le_of_ble_eq_true rfl, Nat.le_of_ble_eq_true rfl⟩ (⟨congrArg (fun z => some (Value.int (z2 z))) (by unfold rsS; (repeat' split) <;> omega), rfl⟩) dX2_ringingSet_34
      · skip
        refine lv_iload_n hx hb dX2_ringingSet_21 rfl (lv_at hl 1 rfl) ?_
        refine b_iconst hx hb dX2_ringingSet_22 ?_
        refine lv_iload_n hx hb dX2_ringingSet_23 rfl (lv_at hl 0 rfl) ?_
        refine lv_ishl hx hb dX2_ringingSet_24 ?_
        refine b_top (v := 4) (by decide +kernel) ?_
        refine lv_ior hx hb dX2_ringingSet_25 ?_
        refine b_top (v := 5) (by decide +kernel) ?_
        refine lv_istore_n (lv' := [(1, .int (z2 (5))), (2, .int (z2 (2))), (0, .ref (bx + 5 + 6 * n))]) hx hb dX2_ringingSet_26 rfl hl (by decide) rfl (fun ls hl => ?_)
        refine b_iinc (lv' := [(2, .int (z2 (3))), (1, .int (z2 (5))), (0, .ref (bx + 5 + 6 * n))]) hx hb dX2_ringingSet_27 hl (k := 1) rfl (by decide) rfl (fun ls hl => ?_)
        refine lv_goto (tgt := 4) hx hb dX2_ringingSet_30 (by decide) ?_
        refine lv_iload_n hx hb dX2_ringingSet_4 rfl (lv_at hl 0 rfl) ?_
        refine b_iconst hx hb dX2_ringingSet_5 ?_
        refine b_icmp_ge (tgt := 33) hx hb dX2_ringingSet_6 (by decide) ⟨⟨by omega, by omega⟩, ⟨by omega, by omega⟩⟩ (fun _ => ?_) (fun c => absurd c (by omega))
        refine lv_iload_n hx hb dX2_ringingSet_33 rfl (lv_at hl 1 rfl) ?_
        exact g_iret hx hb hr hlocks hS ⟨Nat.le_of_ble_eq_true rfl, Nat.le_of_ble_eq_true rfl⟩ (⟨congrArg (fun z => some (Value.int (z2 z))) (by unfold rsS; (repeat' split) <;> omega), rfl⟩) dX2_ringingSet_34
    · skip
      refine lv_iload_n hx hb dX2_ringingSet_21 rfl (lv_at hl 1 rfl) ?_
      refine b_iconst hx hb dX2_ringingSet_22 ?_
      refine lv_iload_n hx hb dX2_ringingSet_23 rfl (lv_at hl 0 rfl) ?_
      refine lv_ishl hx hb dX2_ringingSet_24 ?_
      refine b_top (v := 2) (by decide +kernel) ?_
      refine lv_ior hx hb dX2_ringingSet_25 ?_
      refine b_top (v := 3) (by decide +kernel) ?_
      refine lv_istore_n (lv' := [(1, .int (z2 (3))), (2, .int (z2 (1))), (0, .ref (bx + 5 + 6 * n))]) hx hb dX2_ringingSet_26 rfl hl (by decide) rfl (fun ls hl => ?_)
      refine b_iinc (lv' := [(2, .int (z2 (2))), (1, .int (z2 (3))), (0, .ref (bx + 5 + 6 * n))]) hx hb dX2_ringingSet_27 hl (k := 1) rfl (by decide) rfl (fun ls hl => ?_)
      refine lv_goto (tgt := 4) hx hb dX2_ringingSet_30 (by decide) ?_
      refine lv_iload_n hx hb dX2_ringingSet_4 rfl (lv_at hl 0 rfl) ?_
      refine b_iconst hx hb dX2_ringingSet_5 ?_
      refine b_icmp_ge (tgt := 33) hx hb dX2_ringingSet_6 (by decide) ⟨⟨by omega, by omega⟩, ⟨by omega, by omega⟩⟩ (fun c => absurd c (by omega)) (fun _ => ?_)
      refine lv_aload_n hx hb dX2_ringingSet_9 rfl (lv_at hl 2 rfl) ?_
      refine g_get (C := RX2) (T := TX2) (N := 13) hx hb hts inX2 hown hG (hP.hs hn) rfl 2 (by decide) (by decide +kernel) rfl (v := .ref (bx + 5 + 6 * n + 1)) rfl dX2_ringingSet_10 ?_
      refine lv_iload_n hx hb dX2_ringingSet_13 rfl (lv_at hl 0 rfl) ?_
      refine g_aald (n := 3) hx hb hG 2 rfl (hP.ba hn) 2 ⟨by omega, by omega, by decide⟩ dX2_ringingSet_14 (v := .ref (bx + 5 + 6 * n + 3 + 2)) rfl ?_
      have b_15 : 0 ≤ X 32 (3 * n + 2) ∧ X 32 (3 * n + 2) ≤ 1 := hV.1 32 _ rfl
      refine g_getN (C := RX0) (T := TX0) (N := 4) hx hb hts inX0 hown hG (hP.be hn (by decide)) rfl 2 (by decide) (List.mem_of_getElem? (i := 22) rfl) rfl (v := .int (z2 (X 32 (3 * n + 2)))) rfl dX2_ringingSet_15 ?_
      refine b_if_eq (tgt := 27) hx hb dX2_ringingSet_18 (by decide) ⟨by omega, by omega⟩ (fun c_18 => ?_) (fun c_18 => ?_)
      · skip
        refine b_iinc (lv' := [(2, .int (z2 (3))), (1, .int (z2 (3))), (0, .ref (bx + 5 + 6 * n))]) hx hb dX2_ringingSet_27 hl (k := 0) rfl (by decide) rfl (fun ls hl => ?_)
        refine lv_goto (tgt := 4) hx hb dX2_ringingSet_30 (by decide) ?_
        refine lv_iload_n hx hb dX2_ringingSet_4 rfl (lv_at hl 0 rfl) ?_
        refine b_iconst hx hb dX2_ringingSet_5 ?_
        refine b_icmp_ge (tgt := 33) hx hb dX2_ringingSet_6 (by decide) ⟨⟨by omega, by omega⟩, ⟨by omega, by omega⟩⟩ (fun _ => ?_) (fun c => absurd c (by omega))
        refine lv_iload_n hx hb dX2_ringingSet_33 rfl (lv_at hl 1 rfl) ?_
        exact g_iret hx hb hr hlocks hS ⟨Nat.le_of_ble_eq_true rfl, Nat.le_of_ble_eq_true rfl⟩ (⟨congrArg (fun z => some (Value.int (z2 z))) (by unfold rsS; (repeat' split) <;> omega), rfl⟩) dX2_ringingSet_34
      · skip
        refine lv_iload_n hx hb dX2_ringingSet_21 rfl (lv_at hl 1 rfl) ?_
        refine b_iconst hx hb dX2_ringingSet_22 ?_
        refine lv_iload_n hx hb dX2_ringingSet_23 rfl (lv_at hl 0 rfl) ?_
        refine lv_ishl hx hb dX2_ringingSet_24 ?_
        refine b_top (v := 4) (by decide +kernel) ?_
        refine lv_ior hx hb dX2_ringingSet_25 ?_
        refine b_top (v := 7) (by decide +kernel) ?_
        refine lv_istore_n (lv' := [(1, .int (z2 (7))), (2, .int (z2 (2))), (0, .ref (bx + 5 + 6 * n))]) hx hb dX2_ringingSet_26 rfl hl (by decide) rfl (fun ls hl => ?_)
        refine b_iinc (lv' := [(2, .int (z2 (3))), (1, .int (z2 (7))), (0, .ref (bx + 5 + 6 * n))]) hx hb dX2_ringingSet_27 hl (k := 1) rfl (by decide) rfl (fun ls hl => ?_)
        refine lv_goto (tgt := 4) hx hb dX2_ringingSet_30 (by decide) ?_
        refine lv_iload_n hx hb dX2_ringingSet_4 rfl (lv_at hl 0 rfl) ?_
        refine b_iconst hx hb dX2_ringingSet_5 ?_
        refine b_icmp_ge (tgt := 33) hx hb dX2_ringingSet_6 (by decide) ⟨⟨by omega, by omega⟩, ⟨by omega, by omega⟩⟩ (fun _ => ?_) (fun c => absurd c (by omega))
        refine lv_iload_n hx hb dX2_ringingSet_33 rfl (lv_at hl 1 rfl) ?_
        exact g_iret hx hb hr hlocks hS ⟨Nat.le_of_ble_eq_true rfl, Nat.le_of_ble_eq_true rfl⟩ (⟨congrArg (fun z => some (Value.int (z2 z))) (by unfold rsS; (repeat' split) <;> omega), rfl⟩) dX2_ringingSet_34
set_option maxHeartbeats 4000000 in
set_option maxRecDepth 100000 in
theorem k_ringingLoad (l : Launch) (D : va_G) (ks : Nat → ClassId) (bx : Nat) (ml : Nat → Nat) (X : Nat → Nat → Int) (H : Heap) (hP : PX D ks bx ml X H) (hV : VX X) {n : Nat} (hn : n < 8) : KM l yX2_ringingLoad wsX2_ringingLoad ({ frames := 0, cells := 0, slots := 0, locals := 0 } : Room) D ks bx [.ref (bx + 5 + 6 * n)] H (RX bx) (fun v H1 => v = some (.int (z2 (rlS X n))) ∧ H1 = H) (fun _ _ => False) := by
  refine KM.of (cc := cX2_ringingLoad) (maxL := 6) (ret := (some .int)) (by decide) rfl (Nat.le_of_ble_eq_true rfl) ?_
  intro p e s m below meth c hx hb hml hr hlocks hown hname hts hext hH0 hG ls hl
  subst hH0
  have hown : s.vm.findClass RX2 = some m.cls := hown
  have hS : va_S (AR (RX bx) s.heap.size) s.heap s.heap [] := va_S.rf
  have hl : lv_has ls 6 [(0, .ref (bx + 5 + 6 * n))] := hl
  have inX0 : ∀ w ∈ wsX00, w ∈ wsX2_ringingLoad := by decide +kernel
  have inX2 : ∀ w ∈ wsX20, w ∈ wsX2_ringingLoad := by decide +kernel
  refine b_iconst hx hb dX2_ringingLoad_0 ?_
  refine lv_istore_n (lv' := [(1, .int (z2 (0))), (0, .ref (bx + 5 + 6 * n))]) hx hb dX2_ringingLoad_1 rfl hl (by decide) rfl (fun ls hl => ?_)
  refine lv_aload_n hx hb dX2_ringingLoad_2 rfl (lv_at hl 1 rfl) ?_
  refine g_get (C := RX2) (T := TX2) (N := 13) hx hb hts inX2 hown hG (hP.hs hn) rfl 2 (by decide) (by decide +kernel) rfl (v := .ref (bx + 5 + 6 * n + 1)) rfl dX2_ringingLoad_3 ?_
  refine lv_astore_n (lv' := [(2, .ref (bx + 5 + 6 * n + 1)), (1, .int (z2 (0))), (0, .ref (bx + 5 + 6 * n))]) hx hb dX2_ringingLoad_6 rfl hl (by decide) rfl (fun ls hl => ?_)
  refine lv_aload_n hx hb dX2_ringingLoad_7 rfl (lv_at hl 0 rfl) ?_
  refine g_alen (n := 3) hx hb hG 2 rfl (hP.ba hn) rfl dX2_ringingLoad_8 ?_
  refine lv_istore_n (lv' := [(3, .int (z2 (3))), (2, .ref (bx + 5 + 6 * n + 1)), (1, .int (z2 (0))), (0, .ref (bx + 5 + 6 * n))]) hx hb dX2_ringingLoad_9 rfl hl (by decide) rfl (fun ls hl => ?_)
  refine b_iconst hx hb dX2_ringingLoad_10 ?_
  refine lv_istore (lv' := [(4, .int (z2 (0))), (3, .int (z2 (3))), (2, .ref (bx + 5 + 6 * n + 1)), (1, .int (z2 (0))), (0, .ref (bx + 5 + 6 * n))]) hx hb dX2_ringingLoad_11 hl (by decide) rfl (fun ls hl => ?_)
  refine lv_iload hx hb dX2_ringingLoad_13 (lv_at hl 0 rfl) ?_
  refine lv_iload_n hx hb dX2_ringingLoad_15 rfl (lv_at hl 1 rfl) ?_
  refine b_icmp_ge (tgt := 47) hx hb dX2_ringingLoad_16 (by decide) ⟨⟨by omega, by omega⟩, ⟨by omega, by omega⟩⟩ (fun c => absurd c (by omega)) (fun _ => ?_)
  refine lv_aload_n hx hb dX2_ringingLoad_19 rfl (lv_at hl 2 rfl) ?_
  refine lv_iload hx hb dX2_ringingLoad_20 (lv_at hl 0 rfl) ?_
  refine g_aald (n := 3) hx hb hG 2 rfl (hP.ba hn) 0 ⟨by omega, by omega, by decide⟩ dX2_ringingLoad_22 (v := .ref (bx + 5 + 6 * n + 3 + 0)) rfl ?_
  refine lv_astore (lv' := [(5, .ref (bx + 5 + 6 * n + 3 + 0)), (4, .int (z2 (0))), (3, .int (z2 (3))), (2, .ref (bx + 5 + 6 * n + 1)), (1, .int (z2 (0))), (0, .ref (bx + 5 + 6 * n))]) hx hb dX2_ringingLoad_23 hl (by decide) rfl (fun ls hl => ?_)
  refine lv_aload hx hb dX2_ringingLoad_25 (lv_at hl 0 rfl) ?_
  have b_27 : 0 ≤ X 32 (3 * n + 0) ∧ X 32 (3 * n + 0) ≤ 1 := hV.1 32 _ rfl
  refine g_getN (C := RX0) (T := TX0) (N := 4) hx hb hts inX0 hown hG (hP.be hn (by decide)) rfl 2 (by decide) (List.mem_of_getElem? (i := 22) rfl) rfl (v := .int (z2 (X 32 (3 * n + 0)))) rfl dX2_ringingLoad_27 ?_
  refine b_if_eq (tgt := 41) hx hb dX2_ringingLoad_30 (by decide) ⟨by omega, by omega⟩ (fun c_30 => ?_) (fun c_30 => ?_)
  · skip
    refine b_iinc (lv' := [(4, .int (z2 (1))), (5, .ref (bx + 5 + 6 * n + 3 + 0)), (3, .int (z2 (3))), (2, .ref (bx + 5 + 6 * n + 1)), (1, .int (z2 (0))), (0, .ref (bx + 5 + 6 * n))]) hx hb dX2_ringingLoad_41 hl (k := 1) rfl (by decide) rfl (fun ls hl => ?_)
    refine lv_goto (tgt := 13) hx hb dX2_ringingLoad_44 (by decide) ?_
    refine lv_iload hx hb dX2_ringingLoad_13 (lv_at hl 0 rfl) ?_
    refine lv_iload_n hx hb dX2_ringingLoad_15 rfl (lv_at hl 2 rfl) ?_
    refine b_icmp_ge (tgt := 47) hx hb dX2_ringingLoad_16 (by decide) ⟨⟨by omega, by omega⟩, ⟨by omega, by omega⟩⟩ (fun c => absurd c (by omega)) (fun _ => ?_)
    refine lv_aload_n hx hb dX2_ringingLoad_19 rfl (lv_at hl 3 rfl) ?_
    refine lv_iload hx hb dX2_ringingLoad_20 (lv_at hl 0 rfl) ?_
    refine g_aald (n := 3) hx hb hG 2 rfl (hP.ba hn) 1 ⟨by omega, by omega, by decide⟩ dX2_ringingLoad_22 (v := .ref (bx + 5 + 6 * n + 3 + 1)) rfl ?_
    refine lv_astore (lv' := [(5, .ref (bx + 5 + 6 * n + 3 + 1)), (4, .int (z2 (1))), (3, .int (z2 (3))), (2, .ref (bx + 5 + 6 * n + 1)), (1, .int (z2 (0))), (0, .ref (bx + 5 + 6 * n))]) hx hb dX2_ringingLoad_23 hl (by decide) rfl (fun ls hl => ?_)
    refine lv_aload hx hb dX2_ringingLoad_25 (lv_at hl 0 rfl) ?_
    have b_27 : 0 ≤ X 32 (3 * n + 1) ∧ X 32 (3 * n + 1) ≤ 1 := hV.1 32 _ rfl
    refine g_getN (C := RX0) (T := TX0) (N := 4) hx hb hts inX0 hown hG (hP.be hn (by decide)) rfl 2 (by decide) (List.mem_of_getElem? (i := 22) rfl) rfl (v := .int (z2 (X 32 (3 * n + 1)))) rfl dX2_ringingLoad_27 ?_
    refine b_if_eq (tgt := 41) hx hb dX2_ringingLoad_30 (by decide) ⟨by omega, by omega⟩ (fun c_30 => ?_) (fun c_30 => ?_)
    · skip
      refine b_iinc (lv' := [(4, .int (z2 (2))), (5, .ref (bx + 5 + 6 * n + 3 + 1)), (3, .int (z2 (3))), (2, .ref (bx + 5 + 6 * n + 1)), (1, .int (z2 (0))), (0, .ref (bx + 5 + 6 * n))]) hx hb dX2_ringingLoad_41 hl (k := 1) rfl (by decide) rfl (fun ls hl => ?_)
      refine lv_goto (tgt := 13) hx hb dX2_ringingLoad_44 (by decide) ?_
      refine lv_iload hx hb dX2_ringingLoad_13 (lv_at hl 0 rfl) ?_
      refine lv_iload_n hx hb dX2_ringingLoad_15 rfl (lv_at hl 2 rfl) ?_
      refine b_icmp_ge (tgt := 47) hx hb dX2_ringingLoad_16 (by decide) ⟨⟨by omega, by omega⟩, ⟨by omega, by omega⟩⟩ (fun c => absurd c (by omega)) (fun _ => ?_)
      refine lv_aload_n hx hb dX2_ringingLoad_19 rfl (lv_at hl 3 rfl) ?_
      refine lv_iload hx hb dX2_ringingLoad_20 (lv_at hl 0 rfl) ?_
      refine g_aald (n := 3) hx hb hG 2 rfl (hP.ba hn) 2 ⟨by omega, by omega, by decide⟩ dX2_ringingLoad_22 (v := .ref (bx + 5 + 6 * n + 3 + 2)) rfl ?_
      refine lv_astore (lv' := [(5, .ref (bx + 5 + 6 * n + 3 + 2)), (4, .int (z2 (2))), (3, .int (z2 (3))), (2, .ref (bx + 5 + 6 * n + 1)), (1, .int (z2 (0))), (0, .ref (bx + 5 + 6 * n))]) hx hb dX2_ringingLoad_23 hl (by decide) rfl (fun ls hl => ?_)
      refine lv_aload hx hb dX2_ringingLoad_25 (lv_at hl 0 rfl) ?_
      have b_27 : 0 ≤ X 32 (3 * n + 2) ∧ X 32 (3 * n + 2) ≤ 1 := hV.1 32 _ rfl
      refine g_getN (C := RX0) (T := TX0) (N := 4) hx hb hts inX0 hown hG (hP.be hn (by decide)) rfl 2 (by decide) (List.mem_of_getElem? (i := 22) rfl) rfl (v := .int (z2 (X 32 (3 * n + 2)))) rfl dX2_ringingLoad_27 ?_
      refine b_if_eq (tgt := 41) hx hb dX2_ringingLoad_30 (by decide) ⟨by omega, by omega⟩ (fun c_30 => ?_) (fun c_30 => ?_)
      · skip
        refine b_iinc (lv' := [(4, .int (z2 (3))), (5, .ref (bx + 5 + 6 * n + 3 + 2)), (3, .int (z2 (3))), (2, .ref (bx + 5 + 6 * n + 1)), (1, .int (z2 (0))), (0, .ref (bx + 5 + 6 * n))]) hx hb dX2_ringingLoad_41 hl (k := 1) rfl (by decide) rfl (fun ls hl => ?_)
        refine lv_goto (tgt := 13) hx hb dX2_ringingLoad_44 (by decide) ?_
        refine lv_iload hx hb dX2_ringingLoad_13 (lv_at hl 0 rfl) ?_
        refine lv_iload_n hx hb dX2_ringingLoad_15 rfl (lv_at hl 2 rfl) ?_
        refine b_icmp_ge (tgt := 47) hx hb dX2_ringingLoad_16 (by decide) ⟨⟨by omega, by omega⟩, ⟨by omega, by omega⟩⟩ (fun _ => ?_) (fun c => absurd c (by omega))
        refine lv_iload_n hx hb dX2_ringingLoad_47 rfl (lv_at hl 4 rfl) ?_
        exact g_iret hx hb hr hlocks hS ⟨Nat.le_of_ble_eq_true rfl, Nat.le_of_ble_eq_true rfl⟩ (⟨congrArg (fun z => some (Value.int (z2 z))) (by unfold rlS; (repeat' split) <;> omega), rfl⟩) dX2_ringingLoad_48
      · skip
        refine lv_iload_n hx hb dX2_ringingLoad_33 rfl (lv_at hl 4 rfl) ?_
        refine lv_aload hx hb dX2_ringingLoad_34 (lv_at hl 0 rfl) ?_
        have b_36 : 1 ≤ X 31 (3 * n + 2) ∧ X 31 (3 * n + 2) ≤ 9 := hV.1 31 _ rfl
        refine g_getN (C := RX0) (T := TX0) (N := 4) hx hb hts inX0 hown hG (hP.be hn (by decide)) rfl 1 (by decide) (List.mem_of_getElem? (i := 23) rfl) rfl (v := .int (z2 (X 31 (3 * n + 2)))) rfl dX2_ringingLoad_36 ?_
        refine b_iadd hx hb dX2_ringingLoad_39 ?_
        refine lv_istore_n (lv' := [(1, .int (z2 (0 + (X 31 (3 * n + 2))))), (5, .ref (bx + 5 + 6 * n + 3 + 2)), (4, .int (z2 (2))), (3, .int (z2 (3))), (2, .ref (bx + 5 + 6 * n + 1)), (0, .ref (bx + 5 + 6 * n))]) hx hb dX2_ringingLoad_40 rfl hl (by decide) rfl (fun ls hl => ?_)
        refine b_iinc (lv' := [(4, .int (z2 (3))), (1, .int (z2 (0 + (X 31 (3 * n + 2))))), (5, .ref (bx + 5 + 6 * n + 3 + 2)), (3, .int (z2 (3))), (2, .ref (bx + 5 + 6 * n + 1)), (0, .ref (bx + 5 + 6 * n))]) hx hb dX2_ringingLoad_41 hl (k := 2) rfl (by decide) rfl (fun ls hl => ?_)
        refine lv_goto (tgt := 13) hx hb dX2_ringingLoad_44 (by decide) ?_
        refine lv_iload hx hb dX2_ringingLoad_13 (lv_at hl 0 rfl) ?_
        refine lv_iload_n hx hb dX2_ringingLoad_15 rfl (lv_at hl 3 rfl) ?_
        refine b_icmp_ge (tgt := 47) hx hb dX2_ringingLoad_16 (by decide) ⟨⟨by omega, by omega⟩, ⟨by omega, by omega⟩⟩ (fun _ => ?_) (fun c => absurd c (by omega))
        refine lv_iload_n hx hb dX2_ringingLoad_47 rfl (lv_at hl 1 rfl) ?_
        exact g_iret hx hb hr hlocks hS ⟨Nat.le_of_ble_eq_true rfl, Nat.le_of_ble_eq_true rfl⟩ (⟨congrArg (fun z => some (Value.int (z2 z))) (by unfold rlS; (repeat' split) <;> omega), rfl⟩) dX2_ringingLoad_48
    · skip
      refine lv_iload_n hx hb dX2_ringingLoad_33 rfl (lv_at hl 4 rfl) ?_
      refine lv_aload hx hb dX2_ringingLoad_34 (lv_at hl 0 rfl) ?_
      have b_36 : 1 ≤ X 31 (3 * n + 1) ∧ X 31 (3 * n + 1) ≤ 9 := hV.1 31 _ rfl
      refine g_getN (C := RX0) (T := TX0) (N := 4) hx hb hts inX0 hown hG (hP.be hn (by decide)) rfl 1 (by decide) (List.mem_of_getElem? (i := 23) rfl) rfl (v := .int (z2 (X 31 (3 * n + 1)))) rfl dX2_ringingLoad_36 ?_
      refine b_iadd hx hb dX2_ringingLoad_39 ?_
      refine lv_istore_n (lv' := [(1, .int (z2 (0 + (X 31 (3 * n + 1))))), (5, .ref (bx + 5 + 6 * n + 3 + 1)), (4, .int (z2 (1))), (3, .int (z2 (3))), (2, .ref (bx + 5 + 6 * n + 1)), (0, .ref (bx + 5 + 6 * n))]) hx hb dX2_ringingLoad_40 rfl hl (by decide) rfl (fun ls hl => ?_)
      refine b_iinc (lv' := [(4, .int (z2 (2))), (1, .int (z2 (0 + (X 31 (3 * n + 1))))), (5, .ref (bx + 5 + 6 * n + 3 + 1)), (3, .int (z2 (3))), (2, .ref (bx + 5 + 6 * n + 1)), (0, .ref (bx + 5 + 6 * n))]) hx hb dX2_ringingLoad_41 hl (k := 2) rfl (by decide) rfl (fun ls hl => ?_)
      refine lv_goto (tgt := 13) hx hb dX2_ringingLoad_44 (by decide) ?_
      refine lv_iload hx hb dX2_ringingLoad_13 (lv_at hl 0 rfl) ?_
      refine lv_iload_n hx hb dX2_ringingLoad_15 rfl (lv_at hl 3 rfl) ?_
      refine b_icmp_ge (tgt := 47) hx hb dX2_ringingLoad_16 (by decide) ⟨⟨by omega, by omega⟩, ⟨by omega, by omega⟩⟩ (fun c => absurd c (by omega)) (fun _ => ?_)
      refine lv_aload_n hx hb dX2_ringingLoad_19 rfl (lv_at hl 4 rfl) ?_
      refine lv_iload hx hb dX2_ringingLoad_20 (lv_at hl 0 rfl) ?_
      refine g_aald (n := 3) hx hb hG 2 rfl (hP.ba hn) 2 ⟨by omega, by omega, by decide⟩ dX2_ringingLoad_22 (v := .ref (bx + 5 + 6 * n + 3 + 2)) rfl ?_
      refine lv_astore (lv' := [(5, .ref (bx + 5 + 6 * n + 3 + 2)), (4, .int (z2 (2))), (1, .int (z2 (0 + (X 31 (3 * n + 1))))), (3, .int (z2 (3))), (2, .ref (bx + 5 + 6 * n + 1)), (0, .ref (bx + 5 + 6 * n))]) hx hb dX2_ringingLoad_23 hl (by decide) rfl (fun ls hl => ?_)
      refine lv_aload hx hb dX2_ringingLoad_25 (lv_at hl 0 rfl) ?_
      have b_27 : 0 ≤ X 32 (3 * n + 2) ∧ X 32 (3 * n + 2) ≤ 1 := hV.1 32 _ rfl
      refine g_getN (C := RX0) (T := TX0) (N := 4) hx hb hts inX0 hown hG (hP.be hn (by decide)) rfl 2 (by decide) (List.mem_of_getElem? (i := 22) rfl) rfl (v := .int (z2 (X 32 (3 * n + 2)))) rfl dX2_ringingLoad_27 ?_
      refine b_if_eq (tgt := 41) hx hb dX2_ringingLoad_30 (by decide) ⟨by omega, by omega⟩ (fun c_30 => ?_) (fun c_30 => ?_)
      · skip
        refine b_iinc (lv' := [(4, .int (z2 (3))), (5, .ref (bx + 5 + 6 * n + 3 + 2)), (1, .int (z2 (0 + (X 31 (3 * n + 1))))), (3, .int (z2 (3))), (2, .ref (bx + 5 + 6 * n + 1)), (0, .ref (bx + 5 + 6 * n))]) hx hb dX2_ringingLoad_41 hl (k := 1) rfl (by decide) rfl (fun ls hl => ?_)
        refine lv_goto (tgt := 13) hx hb dX2_ringingLoad_44 (by decide) ?_
        refine lv_iload hx hb dX2_ringingLoad_13 (lv_at hl 0 rfl) ?_
        refine lv_iload_n hx hb dX2_ringingLoad_15 rfl (lv_at hl 3 rfl) ?_
        refine b_icmp_ge (tgt := 47) hx hb dX2_ringingLoad_16 (by decide) ⟨⟨by omega, by omega⟩, ⟨by omega, by omega⟩⟩ (fun _ => ?_) (fun c => absurd c (by omega))
        refine lv_iload_n hx hb dX2_ringingLoad_47 rfl (lv_at hl 2 rfl) ?_
        exact g_iret hx hb hr hlocks hS ⟨Nat.le_of_ble_eq_true rfl, Nat.le_of_ble_eq_true rfl⟩ (⟨congrArg (fun z => some (Value.int (z2 z))) (by unfold rlS; (repeat' split) <;> omega), rfl⟩) dX2_ringingLoad_48
      · skip
        refine lv_iload_n hx hb dX2_ringingLoad_33 rfl (lv_at hl 2 rfl) ?_
        refine lv_aload hx hb dX2_ringingLoad_34 (lv_at hl 0 rfl) ?_
        have b_36 : 1 ≤ X 31 (3 * n + 2) ∧ X 31 (3 * n + 2) ≤ 9 := hV.1 31 _ rfl
        refine g_getN (C := RX0) (T := TX0) (N := 4) hx hb hts inX0 hown hG (hP.be hn (by decide)) rfl 1 (by decide) (List.mem_of_getElem? (i := 23) rfl) rfl (v := .int (z2 (X 31 (3 * n + 2)))) rfl dX2_ringingLoad_36 ?_
        refine b_iadd hx hb dX2_ringingLoad_39 ?_
        refine lv_istore_n (lv' := [(1, .int (z2 ((0 + (X 31 (3 * n + 1))) + (X 31 (3 * n + 2))))), (5, .ref (bx + 5 + 6 * n + 3 + 2)), (4, .int (z2 (2))), (3, .int (z2 (3))), (2, .ref (bx + 5 + 6 * n + 1)), (0, .ref (bx + 5 + 6 * n))]) hx hb dX2_ringingLoad_40 rfl hl (by decide) rfl (fun ls hl => ?_)
        refine b_iinc (lv' := [(4, .int (z2 (3))), (1, .int (z2 ((0 + (X 31 (3 * n + 1))) + (X 31 (3 * n + 2))))), (5, .ref (bx + 5 + 6 * n + 3 + 2)), (3, .int (z2 (3))), (2, .ref (bx + 5 + 6 * n + 1)), (0, .ref (bx + 5 + 6 * n))]) hx hb dX2_ringingLoad_41 hl (k := 2) rfl (by decide) rfl (fun ls hl => ?_)
        refine lv_goto (tgt := 13) hx hb dX2_ringingLoad_44 (by decide) ?_
        refine lv_iload hx hb dX2_ringingLoad_13 (lv_at hl 0 rfl) ?_
        refine lv_iload_n hx hb dX2_ringingLoad_15 rfl (lv_at hl 3 rfl) ?_
        refine b_icmp_ge (tgt := 47) hx hb dX2_ringingLoad_16 (by decide) ⟨⟨by omega, by omega⟩, ⟨by omega, by omega⟩⟩ (fun _ => ?_) (fun c => absurd c (by omega))
        refine lv_iload_n hx hb dX2_ringingLoad_47 rfl (lv_at hl 1 rfl) ?_
        exact g_iret hx hb hr hlocks hS ⟨Nat.le_of_ble_eq_true rfl, Nat.le_of_ble_eq_true rfl⟩ (⟨congrArg (fun z => some (Value.int (z2 z))) (by unfold rlS; (repeat' split) <;> omega), rfl⟩) dX2_ringingLoad_48
  · skip
    refine lv_iload_n hx hb dX2_ringingLoad_33 rfl (lv_at hl 4 rfl) ?_
    refine lv_aload hx hb dX2_ringingLoad_34 (lv_at hl 0 rfl) ?_
    have b_36 : 1 ≤ X 31 (3 * n + 0) ∧ X 31 (3 * n + 0) ≤ 9 := hV.1 31 _ rfl
    refine g_getN (C := RX0) (T := TX0) (N := 4) hx hb hts inX0 hown hG (hP.be hn (by decide)) rfl 1 (by decide) (List.mem_of_getElem? (i := 23) rfl) rfl (v := .int (z2 (X 31 (3 * n + 0)))) rfl dX2_ringingLoad_36 ?_
    refine b_iadd hx hb dX2_ringingLoad_39 ?_
    refine lv_istore_n (lv' := [(1, .int (z2 (0 + (X 31 (3 * n + 0))))), (5, .ref (bx + 5 + 6 * n + 3 + 0)), (4, .int (z2 (0))), (3, .int (z2 (3))), (2, .ref (bx + 5 + 6 * n + 1)), (0, .ref (bx + 5 + 6 * n))]) hx hb dX2_ringingLoad_40 rfl hl (by decide) rfl (fun ls hl => ?_)
    refine b_iinc (lv' := [(4, .int (z2 (1))), (1, .int (z2 (0 + (X 31 (3 * n + 0))))), (5, .ref (bx + 5 + 6 * n + 3 + 0)), (3, .int (z2 (3))), (2, .ref (bx + 5 + 6 * n + 1)), (0, .ref (bx + 5 + 6 * n))]) hx hb dX2_ringingLoad_41 hl (k := 2) rfl (by decide) rfl (fun ls hl => ?_)
    refine lv_goto (tgt := 13) hx hb dX2_ringingLoad_44 (by decide) ?_
    refine lv_iload hx hb dX2_ringingLoad_13 (lv_at hl 0 rfl) ?_
    refine lv_iload_n hx hb dX2_ringingLoad_15 rfl (lv_at hl 3 rfl) ?_
    refine b_icmp_ge (tgt := 47) hx hb dX2_ringingLoad_16 (by decide) ⟨⟨by omega, by omega⟩, ⟨by omega, by omega⟩⟩ (fun c => absurd c (by omega)) (fun _ => ?_)
    refine lv_aload_n hx hb dX2_ringingLoad_19 rfl (lv_at hl 4 rfl) ?_
    refine lv_iload hx hb dX2_ringingLoad_20 (lv_at hl 0 rfl) ?_
    refine g_aald (n := 3) hx hb hG 2 rfl (hP.ba hn) 1 ⟨by omega, by omega, by decide⟩ dX2_ringingLoad_22 (v := .ref (bx + 5 + 6 * n + 3 + 1)) rfl ?_
    refine lv_astore (lv' := [(5, .ref (bx + 5 + 6 * n + 3 + 1)), (4, .int (z2 (1))), (1, .int (z2 (0 + (X 31 (3 * n + 0))))), (3, .int (z2 (3))), (2, .ref (bx + 5 + 6 * n + 1)), (0, .ref (bx + 5 + 6 * n))]) hx hb dX2_ringingLoad_23 hl (by decide) rfl (fun ls hl => ?_)
    refine lv_aload hx hb dX2_ringingLoad_25 (lv_at hl 0 rfl) ?_
    have b_27 : 0 ≤ X 32 (3 * n + 1) ∧ X 32 (3 * n + 1) ≤ 1 := hV.1 32 _ rfl
    refine g_getN (C := RX0) (T := TX0) (N := 4) hx hb hts inX0 hown hG (hP.be hn (by decide)) rfl 2 (by decide) (List.mem_of_getElem? (i := 22) rfl) rfl (v := .int (z2 (X 32 (3 * n + 1)))) rfl dX2_ringingLoad_27 ?_
    refine b_if_eq (tgt := 41) hx hb dX2_ringingLoad_30 (by decide) ⟨by omega, by omega⟩ (fun c_30 => ?_) (fun c_30 => ?_)
    · skip
      refine b_iinc (lv' := [(4, .int (z2 (2))), (5, .ref (bx + 5 + 6 * n + 3 + 1)), (1, .int (z2 (0 + (X 31 (3 * n + 0))))), (3, .int (z2 (3))), (2, .ref (bx + 5 + 6 * n + 1)), (0, .ref (bx + 5 + 6 * n))]) hx hb dX2_ringingLoad_41 hl (k := 1) rfl (by decide) rfl (fun ls hl => ?_)
      refine lv_goto (tgt := 13) hx hb dX2_ringingLoad_44 (by decide) ?_
      refine lv_iload hx hb dX2_ringingLoad_13 (lv_at hl 0 rfl) ?_
      refine lv_iload_n hx hb dX2_ringingLoad_15 rfl (lv_at hl 3 rfl) ?_
      refine b_icmp_ge (tgt := 47) hx hb dX2_ringingLoad_16 (by decide) ⟨⟨by omega, by omega⟩, ⟨by omega, by omega⟩⟩ (fun c => absurd c (by omega)) (fun _ => ?_)
      refine lv_aload_n hx hb dX2_ringingLoad_19 rfl (lv_at hl 4 rfl) ?_
      refine lv_iload hx hb dX2_ringingLoad_20 (lv_at hl 0 rfl) ?_
      refine g_aald (n := 3) hx hb hG 2 rfl (hP.ba hn) 2 ⟨by omega, by omega, by decide⟩ dX2_ringingLoad_22 (v := .ref (bx + 5 + 6 * n + 3 + 2)) rfl ?_
      refine lv_astore (lv' := [(5, .ref (bx + 5 + 6 * n + 3 + 2)), (4, .int (z2 (2))), (1, .int (z2 (0 + (X 31 (3 * n + 0))))), (3, .int (z2 (3))), (2, .ref (bx + 5 + 6 * n + 1)), (0, .ref (bx + 5 + 6 * n))]) hx hb dX2_ringingLoad_23 hl (by decide) rfl (fun ls hl => ?_)
      refine lv_aload hx hb dX2_ringingLoad_25 (lv_at hl 0 rfl) ?_
      have b_27 : 0 ≤ X 32 (3 * n + 2) ∧ X 32 (3 * n + 2) ≤ 1 := hV.1 32 _ rfl
      refine g_getN (C := RX0) (T := TX0) (N := 4) hx hb hts inX0 hown hG (hP.be hn (by decide)) rfl 2 (by decide) (List.mem_of_getElem? (i := 22) rfl) rfl (v := .int (z2 (X 32 (3 * n + 2)))) rfl dX2_ringingLoad_27 ?_
      refine b_if_eq (tgt := 41) hx hb dX2_ringingLoad_30 (by decide) ⟨by omega, by omega⟩ (fun c_30 => ?_) (fun c_30 => ?_)
      · skip
        refine b_iinc (lv' := [(4, .int (z2 (3))), (5, .ref (bx + 5 + 6 * n + 3 + 2)), (1, .int (z2 (0 + (X 31 (3 * n + 0))))), (3, .int (z2 (3))), (2, .ref (bx + 5 + 6 * n + 1)), (0, .ref (bx + 5 + 6 * n))]) hx hb dX2_ringingLoad_41 hl (k := 1) rfl (by decide) rfl (fun ls hl => ?_)
        refine lv_goto (tgt := 13) hx hb dX2_ringingLoad_44 (by decide) ?_
        refine lv_iload hx hb dX2_ringingLoad_13 (lv_at hl 0 rfl) ?_
        refine lv_iload_n hx hb dX2_ringingLoad_15 rfl (lv_at hl 3 rfl) ?_
        refine b_icmp_ge (tgt := 47) hx hb dX2_ringingLoad_16 (by decide) ⟨⟨by omega, by omega⟩, ⟨by omega, by omega⟩⟩ (fun _ => ?_) (fun c => absurd c (by omega))
        refine lv_iload_n hx hb dX2_ringingLoad_47 rfl (lv_at hl 2 rfl) ?_
        exact g_iret hx hb hr hlocks hS ⟨Nat.le_of_ble_eq_true rfl, Nat.le_of_ble_eq_true rfl⟩ (⟨congrArg (fun z => some (Value.int (z2 z))) (by unfold rlS; (repeat' split) <;> omega), rfl⟩) dX2_ringingLoad_48
      · skip
        refine lv_iload_n hx hb dX2_ringingLoad_33 rfl (lv_at hl 2 rfl) ?_
        refine lv_aload hx hb dX2_ringingLoad_34 (lv_at hl 0 rfl) ?_
        have b_36 : 1 ≤ X 31 (3 * n + 2) ∧ X 31 (3 * n + 2) ≤ 9 := hV.1 31 _ rfl
        refine g_getN (C := RX0) (T := TX0) (N := 4) hx hb hts inX0 hown hG (hP.be hn (by decide)) rfl 1 (by decide) (List.mem_of_getElem? (i := 23) rfl) rfl (v := .int (z2 (X 31 (3 * n + 2)))) rfl dX2_ringingLoad_36 ?_
        refine b_iadd hx hb dX2_ringingLoad_39 ?_
        refine lv_istore_n (lv' := [(1, .int (z2 ((0 + (X 31 (3 * n + 0))) + (X 31 (3 * n + 2))))), (5, .ref (bx + 5 + 6 * n + 3 + 2)), (4, .int (z2 (2))), (3, .int (z2 (3))), (2, .ref (bx + 5 + 6 * n + 1)), (0, .ref (bx + 5 + 6 * n))]) hx hb dX2_ringingLoad_40 rfl hl (by decide) rfl (fun ls hl => ?_)
        refine b_iinc (lv' := [(4, .int (z2 (3))), (1, .int (z2 ((0 + (X 31 (3 * n + 0))) + (X 31 (3 * n + 2))))), (5, .ref (bx + 5 + 6 * n + 3 + 2)), (3, .int (z2 (3))), (2, .ref (bx + 5 + 6 * n + 1)), (0, .ref (bx + 5 + 6 * n))]) hx hb dX2_ringingLoad_41 hl (k := 2) rfl (by decide) rfl (fun ls hl => ?_)
        refine lv_goto (tgt := 13) hx hb dX2_ringingLoad_44 (by decide) ?_
        refine lv_iload hx hb dX2_ringingLoad_13 (lv_at hl 0 rfl) ?_
        refine lv_iload_n hx hb dX2_ringingLoad_15 rfl (lv_at hl 3 rfl) ?_
        refine b_icmp_ge (tgt := 47) hx hb dX2_ringingLoad_16 (by decide) ⟨⟨by omega, by omega⟩, ⟨by omega, by omega⟩⟩ (fun _ => ?_) (fun c => absurd c (by omega))
        refine lv_iload_n hx hb dX2_ringingLoad_47 rfl (lv_at hl 1 rfl) ?_
        exact g_iret hx hb hr hlocks hS ⟨Nat.le_of_ble_eq_true rfl, Nat.le_of_ble_eq_true rfl⟩ (⟨congrArg (fun z => some (Value.int (z2 z))) (by unfold rlS; (repeat' split) <;> omega), rfl⟩) dX2_ringingLoad_48
    · skip
      refine lv_iload_n hx hb dX2_ringingLoad_33 rfl (lv_at hl 2 rfl) ?_
      refine lv_aload hx hb dX2_ringingLoad_34 (lv_at hl 0 rfl) ?_
      have b_36 : 1 ≤ X 31 (3 * n + 1) ∧ X 31 (3 * n + 1) ≤ 9 := hV.1 31 _ rfl
      refine g_getN (C := RX0) (T := TX0) (N := 4) hx hb hts inX0 hown hG (hP.be hn (by decide)) rfl 1 (by decide) (List.mem_of_getElem? (i := 23) rfl) rfl (v := .int (z2 (X 31 (3 * n + 1)))) rfl dX2_ringingLoad_36 ?_
      refine b_iadd hx hb dX2_ringingLoad_39 ?_
      refine lv_istore_n (lv' := [(1, .int (z2 ((0 + (X 31 (3 * n + 0))) + (X 31 (3 * n + 1))))), (5, .ref (bx + 5 + 6 * n + 3 + 1)), (4, .int (z2 (1))), (3, .int (z2 (3))), (2, .ref (bx + 5 + 6 * n + 1)), (0, .ref (bx + 5 + 6 * n))]) hx hb dX2_ringingLoad_40 rfl hl (by decide) rfl (fun ls hl => ?_)
      refine b_iinc (lv' := [(4, .int (z2 (2))), (1, .int (z2 ((0 + (X 31 (3 * n + 0))) + (X 31 (3 * n + 1))))), (5, .ref (bx + 5 + 6 * n + 3 + 1)), (3, .int (z2 (3))), (2, .ref (bx + 5 + 6 * n + 1)), (0, .ref (bx + 5 + 6 * n))]) hx hb dX2_ringingLoad_41 hl (k := 2) rfl (by decide) rfl (fun ls hl => ?_)
      refine lv_goto (tgt := 13) hx hb dX2_ringingLoad_44 (by decide) ?_
      refine lv_iload hx hb dX2_ringingLoad_13 (lv_at hl 0 rfl) ?_
      refine lv_iload_n hx hb dX2_ringingLoad_15 rfl (lv_at hl 3 rfl) ?_
      refine b_icmp_ge (tgt := 47) hx hb dX2_ringingLoad_16 (by decide) ⟨⟨by omega, by omega⟩, ⟨by omega, by omega⟩⟩ (fun c => absurd c (by omega)) (fun _ => ?_)
      refine lv_aload_n hx hb dX2_ringingLoad_19 rfl (lv_at hl 4 rfl) ?_
      refine lv_iload hx hb dX2_ringingLoad_20 (lv_at hl 0 rfl) ?_
      refine g_aald (n := 3) hx hb hG 2 rfl (hP.ba hn) 2 ⟨by omega, by omega, by decide⟩ dX2_ringingLoad_22 (v := .ref (bx + 5 + 6 * n + 3 + 2)) rfl ?_
      refine lv_astore (lv' := [(5, .ref (bx + 5 + 6 * n + 3 + 2)), (4, .int (z2 (2))), (1, .int (z2 ((0 + (X 31 (3 * n + 0))) + (X 31 (3 * n + 1))))), (3, .int (z2 (3))), (2, .ref (bx + 5 + 6 * n + 1)), (0, .ref (bx + 5 + 6 * n))]) hx hb dX2_ringingLoad_23 hl (by decide) rfl (fun ls hl => ?_)
      refine lv_aload hx hb dX2_ringingLoad_25 (lv_at hl 0 rfl) ?_
      have b_27 : 0 ≤ X 32 (3 * n + 2) ∧ X 32 (3 * n + 2) ≤ 1 := hV.1 32 _ rfl
      refine g_getN (C := RX0) (T := TX0) (N := 4) hx hb hts inX0 hown hG (hP.be hn (by decide)) rfl 2 (by decide) (List.mem_of_getElem? (i := 22) rfl) rfl (v := .int (z2 (X 32 (3 * n + 2)))) rfl dX2_ringingLoad_27 ?_
      refine b_if_eq (tgt := 41) hx hb dX2_ringingLoad_30 (by decide) ⟨by omega, by omega⟩ (fun c_30 => ?_) (fun c_30 => ?_)
      · skip
        refine b_iinc (lv' := [(4, .int (z2 (3))), (5, .ref (bx + 5 + 6 * n + 3 + 2)), (1, .int (z2 ((0 + (X 31 (3 * n + 0))) + (X 31 (3 * n + 1))))), (3, .int (z2 (3))), (2, .ref (bx + 5 + 6 * n + 1)), (0, .ref (bx + 5 + 6 * n))]) hx hb dX2_ringingLoad_41 hl (k := 1) rfl (by decide) rfl (fun ls hl => ?_)
        refine lv_goto (tgt := 13) hx hb dX2_ringingLoad_44 (by decide) ?_
        refine lv_iload hx hb dX2_ringingLoad_13 (lv_at hl 0 rfl) ?_
        refine lv_iload_n hx hb dX2_ringingLoad_15 rfl (lv_at hl 3 rfl) ?_
        refine b_icmp_ge (tgt := 47) hx hb dX2_ringingLoad_16 (by decide) ⟨⟨by omega, by omega⟩, ⟨by omega, by omega⟩⟩ (fun _ => ?_) (fun c => absurd c (by omega))
        refine lv_iload_n hx hb dX2_ringingLoad_47 rfl (lv_at hl 2 rfl) ?_
        exact g_iret hx hb hr hlocks hS ⟨Nat.le_of_ble_eq_true rfl, Nat.le_of_ble_eq_true rfl⟩ (⟨congrArg (fun z => some (Value.int (z2 z))) (by unfold rlS; (repeat' split) <;> omega), rfl⟩) dX2_ringingLoad_48
      · skip
        refine lv_iload_n hx hb dX2_ringingLoad_33 rfl (lv_at hl 2 rfl) ?_
        refine lv_aload hx hb dX2_ringingLoad_34 (lv_at hl 0 rfl) ?_
        have b_36 : 1 ≤ X 31 (3 * n + 2) ∧ X 31 (3 * n + 2) ≤ 9 := hV.1 31 _ rfl
        refine g_getN (C := RX0) (T := TX0) (N := 4) hx hb hts inX0 hown hG (hP.be hn (by decide)) rfl 1 (by decide) (List.mem_of_getElem? (i := 23) rfl) rfl (v := .int (z2 (X 31 (3 * n + 2)))) rfl dX2_ringingLoad_36 ?_
        refine b_iadd hx hb dX2_ringingLoad_39 ?_
        refine lv_istore_n (lv' := [(1, .int (z2 (((0 + (X 31 (3 * n + 0))) + (X 31 (3 * n + 1))) + (X 31 (3 * n + 2))))), (5, .ref (bx + 5 + 6 * n + 3 + 2)), (4, .int (z2 (2))), (3, .int (z2 (3))), (2, .ref (bx + 5 + 6 * n + 1)), (0, .ref (bx + 5 + 6 * n))]) hx hb dX2_ringingLoad_40 rfl hl (by decide) rfl (fun ls hl => ?_)
        refine b_iinc (lv' := [(4, .int (z2 (3))), (1, .int (z2 (((0 + (X 31 (3 * n + 0))) + (X 31 (3 * n + 1))) + (X 31 (3 * n + 2))))), (5, .ref (bx + 5 + 6 * n + 3 + 2)), (3, .int (z2 (3))), (2, .ref (bx + 5 + 6 * n + 1)), (0, .ref (bx + 5 + 6 * n))]) hx hb dX2_ringingLoad_41 hl (k := 2) rfl (by decide) rfl (fun ls hl => ?_)
        refine lv_goto (tgt := 13) hx hb dX2_ringingLoad_44 (by decide) ?_
        refine lv_iload hx hb dX2_ringingLoad_13 (lv_at hl 0 rfl) ?_
        refine lv_iload_n hx hb dX2_ringingLoad_15 rfl (lv_at hl 3 rfl) ?_
        refine b_icmp_ge (tgt := 47) hx hb dX2_ringingLoad_16 (by decide) ⟨⟨by omega, by omega⟩, ⟨by omega, by omega⟩⟩ (fun _ => ?_) (fun c => absurd c (by omega))
        refine lv_iload_n hx hb dX2_ringingLoad_47 rfl (lv_at hl 1 rfl) ?_
        exact g_iret hx hb hr hlocks hS ⟨Nat.le_of_ble_eq_true rfl, Nat.le_of_ble_eq_true rfl⟩ (⟨congrArg (fun z => some (Value.int (z2 z))) (by unfold rlS; (repeat' split) <;> omega), rfl⟩) dX2_ringingLoad_48
set_option maxHeartbeats 4000000 in
set_option maxRecDepth 100000 in
theorem k_ringUntil (l : Launch) (D : va_G) (ks : Nat → ClassId) (bx : Nat) (ml : Nat → Nat) (X : Nat → Nat → Int) (H : Heap) (hP : PX D ks bx ml X H) (hV : VX X) {n b : Nat} (hn : n < 8) (hb2 : b < 3) (u : Int) : KM l yX0_ringUntil wsX0_ringUntil ({ frames := 0, cells := 0, slots := 0, locals := 0 } : Room) D ks bx [.ref (bx + 5 + 6 * n + 3 + b), .int (z2 u)] H (RX bx) (fun v H1 => v = none ∧ PX D ks bx ml (ruS X (3 * n + b) u) H1) (fun _ _ => False) := by
  refine KM.of (cc := cX0_ringUntil) (maxL := 2) (ret := none) (by decide) rfl (Nat.le_of_ble_eq_true rfl) ?_
  intro p e s m below meth c hx hb hml hr hlocks hown hname hts hext hH0 hG ls hl
  subst hH0
  have hown : s.vm.findClass RX0 = some m.cls := hown
  have hS : va_S (AR (RX bx) s.heap.size) s.heap s.heap [] := va_S.rf
  have hl : lv_has ls 2 [(0, .ref (bx + 5 + 6 * n + 3 + b)), (1, .int (z2 (u)))] := hl
  have inX0 : ∀ w ∈ wsX00, w ∈ wsX0_ringUntil := by decide +kernel
  refine lv_aload_n hx hb dX0_ringUntil_0 rfl (lv_at hl 0 rfl) ?_
  refine b_iconst hx hb dX0_ringUntil_1 ?_
  refine g_put (C := RX0) (T := TX0) (N := 4) hx hb hts inX0 tyX0 tyX0_ok nmX0 hown hG hS (hP.be hn hb2) (Or.inl ⟨by omega, by omega⟩) rfl 2 (by decide) (by decide +kernel) rfl rfl (v := .int (z2 (1))) (by decide +kernel) (by decide +kernel) (Nat.le_of_ble_eq_true rfl) dX0_ringUntil_2 (fun H locs he hz oq hS => ?_)
  have hP : PX D ks bx ml (up X 32 (3 * n + b) (1)) H := hP.bell (k := 2) hn hb2 ⟨by decide, by decide⟩ he oq
  refine lv_aload_n hx hb dX0_ringUntil_5 rfl (lv_at hl 0 rfl) ?_
  refine lv_iload_n hx hb dX0_ringUntil_6 rfl (lv_at hl 1 rfl) ?_
  refine g_put (C := RX0) (T := TX0) (N := 4) hx hb hts inX0 tyX0 tyX0_ok nmX0 hown hG hS (hP.be hn hb2) (Or.inl ⟨by omega, by omega⟩) rfl 3 (by decide) (by decide +kernel) rfl rfl (v := .int (z2 (u))) rfl rfl (Nat.le_of_ble_eq_true rfl) dX0_ringUntil_7 (fun H locs he hz oq hS => ?_)
  have hP : PX D ks bx ml (up (up X 32 (3 * n + b) (1)) 33 (3 * n + b) (u)) H := hP.bell (k := 3) hn hb2 ⟨by decide, by decide⟩ he oq
  exact g_vret hx hb hr hlocks hS ⟨Nat.le_of_ble_eq_true rfl, Nat.le_of_ble_eq_true rfl⟩ (⟨rfl, hP⟩) dX0_ringUntil_10
set_option maxHeartbeats 4000000 in
set_option maxRecDepth 100000 in
theorem k_lasts (l : Launch) (D : va_G) (ks : Nat → ClassId) (bx : Nat) (ml : Nat → Nat) (X : Nat → Nat → Int) (H : Heap) (hP : PX D ks bx ml X H) (hV : VX X) {k : Nat} (hk : (k : Int) < X 4 0) : KM l yX3_lasts wsX3_lasts ({ frames := 0, cells := 0, slots := 0, locals := 0 } : Room) D ks bx [.ref (ml k)] H (RX bx) (fun v H1 => v = some (.int (z2 (2 * X 37 k))) ∧ H1 = H) (fun _ _ => False) := by
  refine KM.of (cc := cX3_lasts) (maxL := 1) (ret := (some .int)) (by decide) rfl (Nat.le_of_ble_eq_true rfl) ?_
  intro p e s m below meth c hx hb hml hr hlocks hown hname hts hext hH0 hG ls hl
  subst hH0
  have hown : s.vm.findClass RX3 = some m.cls := hown
  have hS : va_S (AR (RX bx) s.heap.size) s.heap s.heap [] := va_S.rf
  have hl : lv_has ls 1 [(0, .ref (ml k))] := hl
  have inX3 : ∀ w ∈ wsX30, w ∈ wsX3_lasts := by decide +kernel
  refine b_iconst hx hb dX3_lasts_0 ?_
  refine lv_aload_n hx hb dX3_lasts_1 rfl (lv_at hl 0 rfl) ?_
  have b_2 : 1 ≤ X 37 k ∧ X 37 k ≤ 12 := hV.1 37 _ rfl
  refine g_get (C := RX3) (T := TX3) (N := 4) hx hb hts inX3 hown hG (hP.me hk) rfl 2 (by decide) (by decide +kernel) rfl (v := .int (z2 (X 37 k))) rfl dX3_lasts_2 ?_
  refine b_imul hx hb dX3_lasts_5 ?_
  exact g_iret hx hb hr hlocks hS ⟨Nat.le_of_ble_eq_true rfl, Nat.le_of_ble_eq_true rfl⟩ (⟨rfl, rfl⟩) dX3_lasts_6
set_option maxHeartbeats 4000000 in
set_option maxRecDepth 100000 in
theorem k_breakDown (l : Launch) (D : va_G) (ks : Nat → ClassId) (bx : Nat) (ml : Nat → Nat) (X : Nat → Nat → Int) (H : Heap) (hP : PX D ks bx ml X H) (hV : VX X) {n : Nat} (hn : n < 8) : KM l yX2_breakDown wsX2_breakDown ({ frames := 0, cells := 0, slots := 0, locals := 0 } : Room) D ks bx [.ref (bx + 5 + 6 * n)] H (RX bx) (fun v H1 => v = none ∧ PX D ks bx ml (bdS X n) H1) (fun _ _ => False) := by
  refine KM.of (cc := cX2_breakDown) (maxL := 5) (ret := none) (by decide) rfl (Nat.le_of_ble_eq_true rfl) ?_
  intro p e s m below meth c hx hb hml hr hlocks hown hname hts hext hH0 hG ls hl
  subst hH0
  have hown : s.vm.findClass RX2 = some m.cls := hown
  have hS : va_S (AR (RX bx) s.heap.size) s.heap s.heap [] := va_S.rf
  have hl : lv_has ls 5 [(0, .ref (bx + 5 + 6 * n))] := hl
  have inX0 : ∀ w ∈ wsX00, w ∈ wsX2_breakDown := by decide +kernel
  have inX2 : ∀ w ∈ wsX20, w ∈ wsX2_breakDown := by decide +kernel
  refine lv_aload_n hx hb dX2_breakDown_0 rfl (lv_at hl 0 rfl) ?_
  refine b_iconst hx hb dX2_breakDown_1 ?_
  refine g_put (C := RX2) (T := TX2) (N := 13) hx hb hts inX2 tyX2 tyX2_ok nmX2 hown hG hS (hP.hs hn) (Or.inl ⟨by omega, by omega⟩) rfl 4 (by decide) (by decide +kernel) rfl rfl (v := .int (z2 (0))) (by decide +kernel) (by decide +kernel) (Nat.le_of_ble_eq_true rfl) dX2_breakDown_2 (fun H locs he hz oq hS => ?_)
  have hP : PX D ks bx ml (up X 14 n (0)) H := hP.house (k := 4) hn ⟨by decide, by decide⟩ he oq
  refine lv_aload_n hx hb dX2_breakDown_5 rfl (lv_at hl 0 rfl) ?_
  refine g_get (C := RX2) (T := TX2) (N := 13) hx hb hts inX2 hown hG (hP.hs hn) rfl 2 (by decide) (by decide +kernel) rfl (v := .ref (bx + 5 + 6 * n + 1)) rfl dX2_breakDown_6 ?_
  refine lv_astore_n (lv' := [(1, .ref (bx + 5 + 6 * n + 1)), (0, .ref (bx + 5 + 6 * n))]) hx hb dX2_breakDown_9 rfl hl (by decide) rfl (fun ls hl => ?_)
  refine lv_aload_n hx hb dX2_breakDown_10 rfl (lv_at hl 0 rfl) ?_
  refine g_alen (n := 3) hx hb hG 2 rfl (hP.ba hn) rfl dX2_breakDown_11 ?_
  refine lv_istore_n (lv' := [(2, .int (z2 (3))), (1, .ref (bx + 5 + 6 * n + 1)), (0, .ref (bx + 5 + 6 * n))]) hx hb dX2_breakDown_12 rfl hl (by decide) rfl (fun ls hl => ?_)
  refine b_iconst hx hb dX2_breakDown_13 ?_
  refine lv_istore_n (lv' := [(3, .int (z2 (0))), (2, .int (z2 (3))), (1, .ref (bx + 5 + 6 * n + 1)), (0, .ref (bx + 5 + 6 * n))]) hx hb dX2_breakDown_14 rfl hl (by decide) rfl (fun ls hl => ?_)
  refine lv_iload_n hx hb dX2_breakDown_15 rfl (lv_at hl 0 rfl) ?_
  refine lv_iload_n hx hb dX2_breakDown_16 rfl (lv_at hl 1 rfl) ?_
  refine b_icmp_ge (tgt := 37) hx hb dX2_breakDown_17 (by decide) ⟨⟨by omega, by omega⟩, ⟨by omega, by omega⟩⟩ (fun c => absurd c (by omega)) (fun _ => ?_)
  refine lv_aload_n hx hb dX2_breakDown_20 rfl (lv_at hl 2 rfl) ?_
  refine lv_iload_n hx hb dX2_breakDown_21 rfl (lv_at hl 0 rfl) ?_
  refine g_aald (n := 3) hx hb hG 2 rfl (hP.ba hn) 0 ⟨by omega, by omega, by decide⟩ dX2_breakDown_22 (v := .ref (bx + 5 + 6 * n + 3 + 0)) rfl ?_
  refine lv_astore (lv' := [(4, .ref (bx + 5 + 6 * n + 3 + 0)), (3, .int (z2 (0))), (2, .int (z2 (3))), (1, .ref (bx + 5 + 6 * n + 1)), (0, .ref (bx + 5 + 6 * n))]) hx hb dX2_breakDown_23 hl (by decide) rfl (fun ls hl => ?_)
  refine lv_aload hx hb dX2_breakDown_25 (lv_at hl 0 rfl) ?_
  refine b_iconst hx hb dX2_breakDown_27 ?_
  refine g_putN (C := RX0) (T := TX0) (N := 4) hx hb hts inX0 tyX0 tyX0_ok nmX0 hown hG hS (hP.be hn (by decide)) (Or.inl ⟨by omega, by omega⟩) rfl 2 (by decide) (List.mem_of_getElem? (i := 22) rfl) rfl rfl (v := .int (z2 (0))) (by decide +kernel) (by decide +kernel) (Nat.le_of_ble_eq_true rfl) dX2_breakDown_28 (fun H locs he hz oq hS => ?_)
  have hP : PX D ks bx ml (up (up X 14 n (0)) 32 (3 * n + 0) (0)) H := hP.bell (k := 2) hn (by decide) ⟨by decide, by decide⟩ he oq
  refine b_iinc (lv' := [(3, .int (z2 (1))), (4, .ref (bx + 5 + 6 * n + 3 + 0)), (2, .int (z2 (3))), (1, .ref (bx + 5 + 6 * n + 1)), (0, .ref (bx + 5 + 6 * n))]) hx hb dX2_breakDown_31 hl (k := 1) rfl (by decide) rfl (fun ls hl => ?_)
  refine lv_goto (tgt := 15) hx hb dX2_breakDown_34 (by decide) ?_
  refine lv_iload_n hx hb dX2_breakDown_15 rfl (lv_at hl 0 rfl) ?_
  refine lv_iload_n hx hb dX2_breakDown_16 rfl (lv_at hl 2 rfl) ?_
  refine b_icmp_ge (tgt := 37) hx hb dX2_breakDown_17 (by decide) ⟨⟨by omega, by omega⟩, ⟨by omega, by omega⟩⟩ (fun c => absurd c (by omega)) (fun _ => ?_)
  refine lv_aload_n hx hb dX2_breakDown_20 rfl (lv_at hl 3 rfl) ?_
  refine lv_iload_n hx hb dX2_breakDown_21 rfl (lv_at hl 0 rfl) ?_
  refine g_aald (n := 3) hx hb hG 2 rfl (hP.ba hn) 1 ⟨by omega, by omega, by decide⟩ dX2_breakDown_22 (v := .ref (bx + 5 + 6 * n + 3 + 1)) rfl ?_
  refine lv_astore (lv' := [(4, .ref (bx + 5 + 6 * n + 3 + 1)), (3, .int (z2 (1))), (2, .int (z2 (3))), (1, .ref (bx + 5 + 6 * n + 1)), (0, .ref (bx + 5 + 6 * n))]) hx hb dX2_breakDown_23 hl (by decide) rfl (fun ls hl => ?_)
  refine lv_aload hx hb dX2_breakDown_25 (lv_at hl 0 rfl) ?_
  refine b_iconst hx hb dX2_breakDown_27 ?_
  refine g_putN (C := RX0) (T := TX0) (N := 4) hx hb hts inX0 tyX0 tyX0_ok nmX0 hown hG hS (hP.be hn (by decide)) (Or.inl ⟨by omega, by omega⟩) rfl 2 (by decide) (List.mem_of_getElem? (i := 22) rfl) rfl rfl (v := .int (z2 (0))) (by decide +kernel) (by decide +kernel) (Nat.le_of_ble_eq_true rfl) dX2_breakDown_28 (fun H locs he hz oq hS => ?_)
  have hP : PX D ks bx ml (up (up (up X 14 n (0)) 32 (3 * n + 0) (0)) 32 (3 * n + 1) (0)) H := hP.bell (k := 2) hn (by decide) ⟨by decide, by decide⟩ he oq
  refine b_iinc (lv' := [(3, .int (z2 (2))), (4, .ref (bx + 5 + 6 * n + 3 + 1)), (2, .int (z2 (3))), (1, .ref (bx + 5 + 6 * n + 1)), (0, .ref (bx + 5 + 6 * n))]) hx hb dX2_breakDown_31 hl (k := 1) rfl (by decide) rfl (fun ls hl => ?_)
  refine lv_goto (tgt := 15) hx hb dX2_breakDown_34 (by decide) ?_
  refine lv_iload_n hx hb dX2_breakDown_15 rfl (lv_at hl 0 rfl) ?_
  refine lv_iload_n hx hb dX2_breakDown_16 rfl (lv_at hl 2 rfl) ?_
  refine b_icmp_ge (tgt := 37) hx hb dX2_breakDown_17 (by decide) ⟨⟨by omega, by omega⟩, ⟨by omega, by omega⟩⟩ (fun c => absurd c (by omega)) (fun _ => ?_)
  refine lv_aload_n hx hb dX2_breakDown_20 rfl (lv_at hl 3 rfl) ?_
  refine lv_iload_n hx hb dX2_breakDown_21 rfl (lv_at hl 0 rfl) ?_
  refine g_aald (n := 3) hx hb hG 2 rfl (hP.ba hn) 2 ⟨by omega, by omega, by decide⟩ dX2_breakDown_22 (v := .ref (bx + 5 + 6 * n + 3 + 2)) rfl ?_
  refine lv_astore (lv' := [(4, .ref (bx + 5 + 6 * n + 3 + 2)), (3, .int (z2 (2))), (2, .int (z2 (3))), (1, .ref (bx + 5 + 6 * n + 1)), (0, .ref (bx + 5 + 6 * n))]) hx hb dX2_breakDown_23 hl (by decide) rfl (fun ls hl => ?_)
  refine lv_aload hx hb dX2_breakDown_25 (lv_at hl 0 rfl) ?_
  refine b_iconst hx hb dX2_breakDown_27 ?_
  refine g_putN (C := RX0) (T := TX0) (N := 4) hx hb hts inX0 tyX0 tyX0_ok nmX0 hown hG hS (hP.be hn (by decide)) (Or.inl ⟨by omega, by omega⟩) rfl 2 (by decide) (List.mem_of_getElem? (i := 22) rfl) rfl rfl (v := .int (z2 (0))) (by decide +kernel) (by decide +kernel) (Nat.le_of_ble_eq_true rfl) dX2_breakDown_28 (fun H locs he hz oq hS => ?_)
  have hP : PX D ks bx ml (up (up (up (up X 14 n (0)) 32 (3 * n + 0) (0)) 32 (3 * n + 1) (0)) 32 (3 * n + 2) (0)) H := hP.bell (k := 2) hn (by decide) ⟨by decide, by decide⟩ he oq
  refine b_iinc (lv' := [(3, .int (z2 (3))), (4, .ref (bx + 5 + 6 * n + 3 + 2)), (2, .int (z2 (3))), (1, .ref (bx + 5 + 6 * n + 1)), (0, .ref (bx + 5 + 6 * n))]) hx hb dX2_breakDown_31 hl (k := 1) rfl (by decide) rfl (fun ls hl => ?_)
  refine lv_goto (tgt := 15) hx hb dX2_breakDown_34 (by decide) ?_
  refine lv_iload_n hx hb dX2_breakDown_15 rfl (lv_at hl 0 rfl) ?_
  refine lv_iload_n hx hb dX2_breakDown_16 rfl (lv_at hl 2 rfl) ?_
  refine b_icmp_ge (tgt := 37) hx hb dX2_breakDown_17 (by decide) ⟨⟨by omega, by omega⟩, ⟨by omega, by omega⟩⟩ (fun _ => ?_) (fun c => absurd c (by omega))
  exact g_vret hx hb hr hlocks hS ⟨Nat.le_of_ble_eq_true rfl, Nat.le_of_ble_eq_true rfl⟩ (⟨rfl, hP⟩) dX2_breakDown_37
