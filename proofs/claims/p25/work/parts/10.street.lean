/-! THE CLASS: the street's methods. -/
theorem isS_n (X : Nat → Nat → Int) (k o : Nat) : narrow .boolean (.int (z2 (isS X k o))) = .int (z2 (isS X k o)) := by
  unfold isS
  split <;> decide +kernel
theorem faX_5 (X : Nat → Nat → Int) (n : Nat) : bdS (faX X n 8) n 5 0 = X 5 0 := by
  have h : ∀ k : Nat, faX X n k 5 0 = X 5 0 := by
    intro k
    induction k with
    | zero => rfl
    | succ k ih =>
      unfold faX
      split
      · exact (sbX_f _ _ _ (by decide) _ _).trans ih
      · exact ih
  unfold bdS
  rw [up_f _ _ _ _ (by decide), up_f _ _ _ _ (by decide), up_f _ _ _ _ (by decide), up_f _ _ _ _ (by decide)]
  exact h 8
/-- fault: the state behind it -/
def faR (X : Nat → Nat → Int) (n : Nat) (u : Int) : Nat → Nat → Int :=
  up (up (up (bdS (faX X n 8) n) 21 n (bdS (faX X n 8) n 21 n + 1)) 7 (X 5 0).toNat (10 * bdS (faX X n 8) n 6 0 + u)) 5 0 (X 5 0 + 1)
set_option maxHeartbeats 4000000 in
set_option maxRecDepth 100000 in
theorem k_checkHouse (l : Launch) (D : va_G) (ks : Nat → ClassId) (bx : Nat) (ml : Nat → Nat) (X : Nat → Nat → Int) (H : Heap) (hP : PX D ks bx ml X H) (hV : VX X) (hst : l.stackTraces = false) (u : Int) (hu : -2147483648 ≤ u ∧ u < 2147483648) : KM l yX4_checkHouse wsX4_checkHouse ({ frames := 6, cells := 1, slots := 6, locals := 90 } : Room) D ks bx [.ref bx, .int (z2 u)] H (RX bx) (fun v H1 => (0 ≤ u ∧ u < 8) ∧ v = none ∧ H1 = H) (fun E H1 => TX H H1 ∧ ((E = "java/lang/IndexOutOfBoundsException" ∧ (¬ (0 ≤ u ∧ u < 8))))) := by
  refine KM.of (cc := cX4_checkHouse) (maxL := 2) (ret := none) (by decide) rfl (Nat.le_of_ble_eq_true rfl) ?_
  intro p e s m below meth c hx hb hml hr hlocks hown hname hts hext hH0 hG ls hl
  subst hH0
  have hown : s.vm.findClass RX4 = some m.cls := hown
  have hS : va_S (AR (RX bx) s.heap.size) s.heap s.heap [] := va_S.rf
  have hl : lv_has ls 2 [(0, .ref bx), (1, .int (z2 (u)))] := hl
  have hw0 : ∀ w ∈ (vx_atS RX4 76 "java/lang/IndexOutOfBoundsException" nm2).filter goodWord, w ∈ wsX4_checkHouse := by decide +kernel
  have hbx : bx ≤ s.heap.size := Nat.le_of_lt (ca.lt hP.1)
  refine lv_iload_n hx hb dX4_checkHouse_0 rfl (lv_at hl 1 rfl) ?_
  refine b_if_lt (tgt := 10) hx hb dX4_checkHouse_1 (by decide) ⟨by omega, by omega⟩ (fun c_1 => ?_) (fun c_1 => ?_)
  · skip
    exact g_throw hx hb hst hts hown hG (by decide +kernel) (List.mem_of_getElem? (i := 0) rfl) (by decide +kernel) (by decide +kernel) hw0 thr_ng0 (List.mem_of_getElem? (i := 28) rfl) thr_go0 hS rx_ge hbx (hl.1.trans hml.symm) dX4_checkHouse_10 dX4_checkHouse_13 dX4_checkHouse_14 dX4_checkHouse_16 dX4_checkHouse_19 hext ⟨Nat.le_of_ble_eq_true rfl, Nat.le_of_ble_eq_true rfl, Nat.le_of_ble_eq_true rfl, Nat.le_of_ble_eq_true rfl⟩ hlocks ⟨Nat.le_of_ble_eq_true rfl, Nat.le_of_ble_eq_true rfl⟩ (fun H1 hz9 hk9 => ⟨⟨hz9, hk9⟩, ⟨rfl, by omega⟩⟩)
  · skip
    refine lv_iload_n hx hb dX4_checkHouse_4 rfl (lv_at hl 1 rfl) ?_
    refine b_bipush hx hb dX4_checkHouse_5 (by decide +kernel) ?_
    refine b_icmp_lt (tgt := 20) hx hb dX4_checkHouse_7 (by decide) ⟨⟨by omega, by omega⟩, ⟨by omega, by omega⟩⟩ (fun c_7 => ?_) (fun c_7 => ?_)
    · skip
      exact g_vret hx hb hr hlocks hS ⟨Nat.le_of_ble_eq_true rfl, Nat.le_of_ble_eq_true rfl⟩ (⟨by omega, rfl, rfl⟩) dX4_checkHouse_20
    · skip
      exact g_throw hx hb hst hts hown hG (by decide +kernel) (List.mem_of_getElem? (i := 0) rfl) (by decide +kernel) (by decide +kernel) hw0 thr_ng0 (List.mem_of_getElem? (i := 28) rfl) thr_go0 hS rx_ge hbx (hl.1.trans hml.symm) dX4_checkHouse_10 dX4_checkHouse_13 dX4_checkHouse_14 dX4_checkHouse_16 dX4_checkHouse_19 hext ⟨Nat.le_of_ble_eq_true rfl, Nat.le_of_ble_eq_true rfl, Nat.le_of_ble_eq_true rfl, Nat.le_of_ble_eq_true rfl⟩ hlocks ⟨Nat.le_of_ble_eq_true rfl, Nat.le_of_ble_eq_true rfl⟩ (fun H1 hz9 hk9 => ⟨⟨hz9, hk9⟩, ⟨rfl, by omega⟩⟩)
set_option maxHeartbeats 4000000 in
set_option maxRecDepth 100000 in
theorem k_houseAt (l : Launch) (D : va_G) (ks : Nat → ClassId) (bx : Nat) (ml : Nat → Nat) (X : Nat → Nat → Int) (H : Heap) (hP : PX D ks bx ml X H) (hV : VX X) (hst : l.stackTraces = false) (u : Int) (hu : -2147483648 ≤ u ∧ u < 2147483648) : KM l yX4_houseAt wsX4_houseAt ({ frames := 7, cells := 1, slots := 6, locals := 111 } : Room) D ks bx [.ref bx, .int (z2 u)] H (RX bx) (fun v H1 => ∃ n : Nat, (u = n ∧ n < 8) ∧ v = some (.ref (bx + 5 + 6 * n)) ∧ H1 = H) (fun E H1 => TX H H1 ∧ ((E = "java/lang/IndexOutOfBoundsException" ∧ (¬ (0 ≤ u ∧ u < 8))))) := by
  refine KM.of (cc := cX4_houseAt) (maxL := 2) (ret := (some (.object "BellStreet$House"))) (by decide) rfl (Nat.le_of_ble_eq_true rfl) ?_
  intro p e s m below meth c hx hb hml hr hlocks hown hname hts hext hH0 hG ls hl
  subst hH0
  have hown : s.vm.findClass RX4 = some m.cls := hown
  have hS : va_S (AR (RX bx) s.heap.size) s.heap s.heap [] := va_S.rf
  have hl : lv_has ls 2 [(0, .ref bx), (1, .int (z2 (u)))] := hl
  have inX4 : ∀ w ∈ wsX40, w ∈ wsX4_houseAt := by decide +kernel
  have hbx : bx ≤ s.heap.size := Nat.le_of_lt (ca.lt hP.1)
  refine lv_aload_n hx hb dX4_houseAt_0 rfl (lv_at hl 0 rfl) ?_
  refine lv_iload_n hx hb dX4_houseAt_1 rfl (lv_at hl 1 rfl) ?_
  refine g_run (vx_runV (As := [.int (z2 (u))]) (rest := []) ⟨hx, hb, hml, hown, hts⟩ (k_checkHouse l D ks bx ml X _ hP hV hst (u) (by omega)) (cwV 1 hts gX4_houseAt_X4_checkHouse rfl rfl rfl (by decide +kernel) ⟨Nat.le_of_ble_eq_true rfl, Nat.le_of_ble_eq_true rfl⟩) (g_preV (r := (RX4, TX4, 7)) hG hS rx_ge hP.1 rfl) rfl rfl hl.1 rfl (lv_room (Nat.le_of_ble_eq_true rfl)) dX4_houseAt_2 ⟨Nat.le_of_ble_eq_true rfl, Nat.le_of_ble_eq_true rfl⟩) hS (fun _ h => h) (fun E ce q9 H1 locs1 hp hz9 hk9 hS hce hcv hcl => g_out hext hlocks hS hce hcv hcl ⟨Nat.le_of_ble_eq_true rfl, Nat.le_of_ble_eq_true rfl⟩ (by obtain ⟨t9, e9, c9⟩ := hp; exact ⟨t9, ⟨e9, by omega⟩⟩)) (fun v H1 locs hp hz9 hk9 hS => ?_)
  obtain ⟨hc9, rfl, hH9⟩ := hp
  obtain rfl := hH9.symm
  refine W.eq (g2 := F0 m 5 ls []) rfl ?_
  refine lv_aload_n hx hb dX4_houseAt_5 rfl (lv_at hl 0 rfl) ?_
  refine g_get (C := RX4) (T := TX4) (N := 7) hx hb hts inX4 hown hG hP.1 rfl 0 (by decide) (by decide +kernel) rfl (v := .ref (bx + 1)) rfl dX4_houseAt_6 ?_
  refine lv_iload_n hx hb dX4_houseAt_9 rfl (lv_at hl 1 rfl) ?_
  refine g_aald (n := 8) hx hb hG 4 rfl hP.2.1 ((u).toNat) ⟨by omega, by omega, by decide⟩ dX4_houseAt_10 (v := .ref (bx + 5 + 6 * ((u).toNat))) rfl ?_
  exact g_aret hx hb hr hlocks hS ⟨Nat.le_of_ble_eq_true rfl, Nat.le_of_ble_eq_true rfl⟩ (⟨(u).toNat, by omega, rfl, rfl⟩) dX4_houseAt_11
set_option maxHeartbeats 4000000 in
set_option maxRecDepth 100000 in
theorem k_bellAt (l : Launch) (D : va_G) (ks : Nat → ClassId) (bx : Nat) (ml : Nat → Nat) (X : Nat → Nat → Int) (H : Heap) (hP : PX D ks bx ml X H) (hV : VX X) (hst : l.stackTraces = false) (u v2 : Int) (hu : -2147483648 ≤ u ∧ u < 2147483648) (hv2 : -2147483648 ≤ v2 ∧ v2 < 2147483648) : KM l yX4_bellAt wsX4_bellAt ({ frames := 8, cells := 2, slots := 12, locals := 132 } : Room) D ks bx [.ref bx, .int (z2 u), .int (z2 v2)] H (RX bx) (fun v H1 => ∃ n b : Nat, ((u = n ∧ n < 8) ∧ v2 = b ∧ b < 3) ∧ v = some (.ref (bx + 5 + 6 * n + 3 + b)) ∧ H1 = H) (fun E H1 => TX H H1 ∧ ((E = "java/lang/IndexOutOfBoundsException" ∧ (¬ ((0 ≤ u ∧ u < 8) ∧ 0 ≤ v2 ∧ v2 < 3))))) := by
  refine KM.of (cc := cX4_bellAt) (maxL := 4) (ret := (some (.object "BellStreet$Bell"))) (by decide) rfl (Nat.le_of_ble_eq_true rfl) ?_
  intro p e s m below meth c hx hb hml hr hlocks hown hname hts hext hH0 hG ls hl
  subst hH0
  have hown : s.vm.findClass RX4 = some m.cls := hown
  have hS : va_S (AR (RX bx) s.heap.size) s.heap s.heap [] := va_S.rf
  have hl : lv_has ls 4 [(0, .ref bx), (1, .int (z2 (u))), (2, .int (z2 (v2)))] := hl
  have inX2 : ∀ w ∈ wsX20, w ∈ wsX4_bellAt := by decide +kernel
  have hw0 : ∀ w ∈ (vx_atS RX4 76 "java/lang/IndexOutOfBoundsException" nm2).filter goodWord, w ∈ wsX4_bellAt := by decide +kernel
  have hbx : bx ≤ s.heap.size := Nat.le_of_lt (ca.lt hP.1)
  refine lv_aload_n hx hb dX4_bellAt_0 rfl (lv_at hl 0 rfl) ?_
  refine lv_iload_n hx hb dX4_bellAt_1 rfl (lv_at hl 1 rfl) ?_
  refine g_run (vx_runV (As := [.int (z2 (u))]) (rest := []) ⟨hx, hb, hml, hown, hts⟩ (k_houseAt l D ks bx ml X _ hP hV hst (u) (by omega)) (cwV 1 hts gX4_bellAt_X4_houseAt rfl rfl rfl (by decide +kernel) ⟨Nat.le_of_ble_eq_true rfl, Nat.le_of_ble_eq_true rfl⟩) (g_preV (r := (RX4, TX4, 7)) hG hS rx_ge hP.1 rfl) rfl rfl hl.1 rfl (lv_room (Nat.le_of_ble_eq_true rfl)) dX4_bellAt_2 ⟨Nat.le_of_ble_eq_true rfl, Nat.le_of_ble_eq_true rfl⟩) hS (fun _ h => h) (fun E ce q9 H1 locs1 hp hz9 hk9 hS hce hcv hcl => g_out hext hlocks hS hce hcv hcl ⟨Nat.le_of_ble_eq_true rfl, Nat.le_of_ble_eq_true rfl⟩ (by obtain ⟨t9, e9, c9⟩ := hp; exact ⟨t9, ⟨e9, by omega⟩⟩)) (fun v H1 locs hp hz9 hk9 hS => ?_)
  obtain ⟨n, ⟨en_2, hn⟩, rfl, hH9⟩ := hp
  obtain rfl := hH9.symm
  refine W.eq (g2 := F0 m 5 ls [.ref (bx + 5 + 6 * n)]) rfl ?_
  refine lv_astore_n (lv' := [(3, .ref (bx + 5 + 6 * n)), (0, .ref bx), (1, .int (z2 (u))), (2, .int (z2 (v2)))]) hx hb dX4_bellAt_5 rfl hl (by decide) rfl (fun ls hl => ?_)
  refine lv_iload_n hx hb dX4_bellAt_6 rfl (lv_at hl 3 rfl) ?_
  refine b_if_lt (tgt := 15) hx hb dX4_bellAt_7 (by decide) ⟨by omega, by omega⟩ (fun c_7 => ?_) (fun c_7 => ?_)
  · skip
    exact g_throw hx hb hst hts hown hG (by decide +kernel) (List.mem_of_getElem? (i := 11) rfl) (by decide +kernel) (by decide +kernel) hw0 thr_ng0 (List.mem_of_getElem? (i := 28) rfl) thr_go0 hS rx_ge hbx (hl.1.trans hml.symm) dX4_bellAt_15 dX4_bellAt_18 dX4_bellAt_19 dX4_bellAt_21 dX4_bellAt_24 hext ⟨Nat.le_of_ble_eq_true rfl, Nat.le_of_ble_eq_true rfl, Nat.le_of_ble_eq_true rfl, Nat.le_of_ble_eq_true rfl⟩ hlocks ⟨Nat.le_of_ble_eq_true rfl, Nat.le_of_ble_eq_true rfl⟩ (fun H1 hz9 hk9 => ⟨⟨hz9, hk9⟩, ⟨rfl, by omega⟩⟩)
  · skip
    refine lv_iload_n hx hb dX4_bellAt_10 rfl (lv_at hl 3 rfl) ?_
    refine b_iconst hx hb dX4_bellAt_11 ?_
    refine b_icmp_lt (tgt := 25) hx hb dX4_bellAt_12 (by decide) ⟨⟨by omega, by omega⟩, ⟨by omega, by omega⟩⟩ (fun c_12 => ?_) (fun c_12 => ?_)
    · skip
      refine lv_aload_n hx hb dX4_bellAt_25 rfl (lv_at hl 0 rfl) ?_
      refine g_getN (C := RX2) (T := TX2) (N := 13) hx hb hts inX2 hown hG (hP.hs hn) rfl 2 (by decide) (List.mem_of_getElem? (i := 17) rfl) rfl (v := .ref (bx + 5 + 6 * n + 1)) rfl dX4_bellAt_26 ?_
      refine lv_iload_n hx hb dX4_bellAt_29 rfl (lv_at hl 3 rfl) ?_
      refine g_aald (n := 3) hx hb hG 2 rfl (hP.ba hn) ((v2).toNat) ⟨by omega, by omega, by decide⟩ dX4_bellAt_30 (v := .ref (bx + 5 + 6 * n + 3 + ((v2).toNat))) rfl ?_
      exact g_aret hx hb hr hlocks hS ⟨Nat.le_of_ble_eq_true rfl, Nat.le_of_ble_eq_true rfl⟩ (⟨n, (v2).toNat, by omega, rfl, rfl⟩) dX4_bellAt_31
    · skip
      exact g_throw hx hb hst hts hown hG (by decide +kernel) (List.mem_of_getElem? (i := 11) rfl) (by decide +kernel) (by decide +kernel) hw0 thr_ng0 (List.mem_of_getElem? (i := 28) rfl) thr_go0 hS rx_ge hbx (hl.1.trans hml.symm) dX4_bellAt_15 dX4_bellAt_18 dX4_bellAt_19 dX4_bellAt_21 dX4_bellAt_24 hext ⟨Nat.le_of_ble_eq_true rfl, Nat.le_of_ble_eq_true rfl, Nat.le_of_ble_eq_true rfl, Nat.le_of_ble_eq_true rfl⟩ hlocks ⟨Nat.le_of_ble_eq_true rfl, Nat.le_of_ble_eq_true rfl⟩ (fun H1 hz9 hk9 => ⟨⟨hz9, hk9⟩, ⟨rfl, by omega⟩⟩)
set_option maxHeartbeats 4000000 in
set_option maxRecDepth 100000 in
theorem k_melodyAt (l : Launch) (D : va_G) (ks : Nat → ClassId) (bx : Nat) (ml : Nat → Nat) (X : Nat → Nat → Int) (H : Heap) (hP : PX D ks bx ml X H) (hV : VX X) (hst : l.stackTraces = false) (u : Int) (hu : -2147483648 ≤ u ∧ u < 2147483648) : KM l yX4_melodyAt wsX4_melodyAt ({ frames := 6, cells := 1, slots := 6, locals := 90 } : Room) D ks bx [.ref bx, .int (z2 u)] H (RX bx) (fun v H1 => ∃ k : Nat, (u = k ∧ (k : Int) < X 4 0) ∧ v = some (.ref (ml k)) ∧ H1 = H) (fun E H1 => TX H H1 ∧ ((E = "java/lang/IndexOutOfBoundsException" ∧ (¬ (0 ≤ u ∧ u < X 4 0))))) := by
  refine KM.of (cc := cX4_melodyAt) (maxL := 3) (ret := (some (.object "BellStreet$Melody"))) (by decide) rfl (Nat.le_of_ble_eq_true rfl) ?_
  intro p e s m below meth c hx hb hml hr hlocks hown hname hts hext hH0 hG ls hl
  subst hH0
  have hown : s.vm.findClass RX4 = some m.cls := hown
  have hS : va_S (AR (RX bx) s.heap.size) s.heap s.heap [] := va_S.rf
  have hl : lv_has ls 3 [(0, .ref bx), (1, .int (z2 (u)))] := hl
  have inX4 : ∀ w ∈ wsX40, w ∈ wsX4_melodyAt := by decide +kernel
  have hw0 : ∀ w ∈ (vx_atS RX4 76 "java/lang/IndexOutOfBoundsException" nm2).filter goodWord, w ∈ wsX4_melodyAt := by decide +kernel
  have hbx : bx ≤ s.heap.size := Nat.le_of_lt (ca.lt hP.1)
  have b4 : 0 ≤ X 4 0 ∧ X 4 0 ≤ 12 := hV.1 4 0 rfl
  refine lv_iload_n hx hb dX4_melodyAt_0 rfl (lv_at hl 1 rfl) ?_
  refine b_if_lt (tgt := 10) hx hb dX4_melodyAt_1 (by decide) ⟨by omega, by omega⟩ (fun c_1 => ?_) (fun c_1 => ?_)
  · skip
    refine lv_null hx hb dX4_melodyAt_10 ?_
    refine lv_goto (tgt := 20) hx hb dX4_melodyAt_11 (by decide) ?_
    refine lv_astore_nN (lv' := [(2, .null), (0, .ref bx), (1, .int (z2 (u)))]) hx hb dX4_melodyAt_20 rfl hl (by decide) rfl (fun ls hl => ?_)
    refine lv_aload_nN hx hb dX4_melodyAt_21 rfl (lv_at hl 0 rfl) ?_
    refine lv_ifnonnullN hx hb dX4_melodyAt_22 ?_
    exact g_throw hx hb hst hts hown hG (by decide +kernel) (List.mem_of_getElem? (i := 4) rfl) (by decide +kernel) (by decide +kernel) hw0 thr_ng0 (List.mem_of_getElem? (i := 28) rfl) thr_go0 hS rx_ge hbx (hl.1.trans hml.symm) dX4_melodyAt_25 dX4_melodyAt_28 dX4_melodyAt_29 dX4_melodyAt_31 dX4_melodyAt_34 hext ⟨Nat.le_of_ble_eq_true rfl, Nat.le_of_ble_eq_true rfl, Nat.le_of_ble_eq_true rfl, Nat.le_of_ble_eq_true rfl⟩ hlocks ⟨Nat.le_of_ble_eq_true rfl, Nat.le_of_ble_eq_true rfl⟩ (fun H1 hz9 hk9 => ⟨⟨hz9, hk9⟩, ⟨rfl, by omega⟩⟩)
  · skip
    refine lv_iload_n hx hb dX4_melodyAt_4 rfl (lv_at hl 1 rfl) ?_
    refine b_bipush hx hb dX4_melodyAt_5 (by decide +kernel) ?_
    refine b_icmp_lt (tgt := 14) hx hb dX4_melodyAt_7 (by decide) ⟨⟨by omega, by omega⟩, ⟨by omega, by omega⟩⟩ (fun c_7 => ?_) (fun c_7 => ?_)
    · skip
      refine lv_aload_n hx hb dX4_melodyAt_14 rfl (lv_at hl 0 rfl) ?_
      refine g_get (C := RX4) (T := TX4) (N := 7) hx hb hts inX4 hown hG hP.1 rfl 2 (by decide) (by decide +kernel) rfl (v := .ref (bx + 3)) rfl dX4_melodyAt_15 ?_
      refine lv_iload_n hx hb dX4_melodyAt_18 rfl (lv_at hl 1 rfl) ?_
      refine g_aald (n := 12) hx hb hG 5 rfl hP.2.2.2.1 ((u).toNat) ⟨by omega, by omega, by decide⟩ dX4_melodyAt_19 (v := va_rf (if (((u).toNat : Nat) : Int) < X 4 0 then some (ml ((u).toNat)) else none)) rfl ?_
      refine g_ml (fun c_19 => ?_) (fun c_19 => ?_)
      · skip
        refine lv_astore_n (lv' := [(2, .ref (ml ((u).toNat))), (0, .ref bx), (1, .int (z2 (u)))]) hx hb dX4_melodyAt_20 rfl hl (by decide) rfl (fun ls hl => ?_)
        refine lv_aload_n hx hb dX4_melodyAt_21 rfl (lv_at hl 0 rfl) ?_
        refine lv_ifnonnull (tgt := 35) hx hb dX4_melodyAt_22 (by decide) ?_
        refine lv_aload_n hx hb dX4_melodyAt_35 rfl (lv_at hl 0 rfl) ?_
        exact g_aret hx hb hr hlocks hS ⟨Nat.le_of_ble_eq_true rfl, Nat.le_of_ble_eq_true rfl⟩ (⟨(u).toNat, by omega, rfl, rfl⟩) dX4_melodyAt_36
      · skip
        refine lv_astore_nN (lv' := [(2, .null), (0, .ref bx), (1, .int (z2 (u)))]) hx hb dX4_melodyAt_20 rfl hl (by decide) rfl (fun ls hl => ?_)
        refine lv_aload_nN hx hb dX4_melodyAt_21 rfl (lv_at hl 0 rfl) ?_
        refine lv_ifnonnullN hx hb dX4_melodyAt_22 ?_
        exact g_throw hx hb hst hts hown hG (by decide +kernel) (List.mem_of_getElem? (i := 4) rfl) (by decide +kernel) (by decide +kernel) hw0 thr_ng0 (List.mem_of_getElem? (i := 28) rfl) thr_go0 hS rx_ge hbx (hl.1.trans hml.symm) dX4_melodyAt_25 dX4_melodyAt_28 dX4_melodyAt_29 dX4_melodyAt_31 dX4_melodyAt_34 hext ⟨Nat.le_of_ble_eq_true rfl, Nat.le_of_ble_eq_true rfl, Nat.le_of_ble_eq_true rfl, Nat.le_of_ble_eq_true rfl⟩ hlocks ⟨Nat.le_of_ble_eq_true rfl, Nat.le_of_ble_eq_true rfl⟩ (fun H1 hz9 hk9 => ⟨⟨hz9, hk9⟩, ⟨rfl, by omega⟩⟩)
    · skip
      refine lv_null hx hb dX4_melodyAt_10 ?_
      refine lv_goto (tgt := 20) hx hb dX4_melodyAt_11 (by decide) ?_
      refine lv_astore_nN (lv' := [(2, .null), (0, .ref bx), (1, .int (z2 (u)))]) hx hb dX4_melodyAt_20 rfl hl (by decide) rfl (fun ls hl => ?_)
      refine lv_aload_nN hx hb dX4_melodyAt_21 rfl (lv_at hl 0 rfl) ?_
      refine lv_ifnonnullN hx hb dX4_melodyAt_22 ?_
      exact g_throw hx hb hst hts hown hG (by decide +kernel) (List.mem_of_getElem? (i := 4) rfl) (by decide +kernel) (by decide +kernel) hw0 thr_ng0 (List.mem_of_getElem? (i := 28) rfl) thr_go0 hS rx_ge hbx (hl.1.trans hml.symm) dX4_melodyAt_25 dX4_melodyAt_28 dX4_melodyAt_29 dX4_melodyAt_31 dX4_melodyAt_34 hext ⟨Nat.le_of_ble_eq_true rfl, Nat.le_of_ble_eq_true rfl, Nat.le_of_ble_eq_true rfl, Nat.le_of_ble_eq_true rfl⟩ hlocks ⟨Nat.le_of_ble_eq_true rfl, Nat.le_of_ble_eq_true rfl⟩ (fun H1 hz9 hk9 => ⟨⟨hz9, hk9⟩, ⟨rfl, by omega⟩⟩)
set_option maxHeartbeats 4000000 in
set_option maxRecDepth 100000 in
theorem k_toneAt (l : Launch) (D : va_G) (ks : Nat → ClassId) (bx : Nat) (ml : Nat → Nat) (X : Nat → Nat → Int) (H : Heap) (hP : PX D ks bx ml X H) (hV : VX X) (hst : l.stackTraces = false) (u v2 : Int) (hu : -2147483648 ≤ u ∧ u < 2147483648) (hv2 : -2147483648 ≤ v2 ∧ v2 < 2147483648) : KM l yX4_toneAt wsX4_toneAt ({ frames := 7, cells := 2, slots := 12, locals := 112 } : Room) D ks bx [.ref bx, .int (z2 u), .int (z2 v2)] H (RX bx) (fun v H1 => ∃ k q : Nat, ((u = k ∧ (k : Int) < X 4 0) ∧ v2 = q ∧ (q : Int) < X 37 k) ∧ v = some (.int (z2 (toS (X 38 k) q))) ∧ H1 = H) (fun E H1 => TX H H1 ∧ ((E = "java/lang/IndexOutOfBoundsException" ∧ (¬ (0 ≤ u ∧ u < X 4 0) ∨ ∃ k : Nat, u = k ∧ (k : Int) < X 4 0 ∧ ¬ (0 ≤ v2 ∧ v2 < X 37 k))))) := by
  refine KM.of (cc := cX4_toneAt) (maxL := 4) (ret := (some .int)) (by decide) rfl (Nat.le_of_ble_eq_true rfl) ?_
  intro p e s m below meth c hx hb hml hr hlocks hown hname hts hext hH0 hG ls hl
  subst hH0
  have hown : s.vm.findClass RX4 = some m.cls := hown
  have hS : va_S (AR (RX bx) s.heap.size) s.heap s.heap [] := va_S.rf
  have hl : lv_has ls 4 [(0, .ref bx), (1, .int (z2 (u))), (2, .int (z2 (v2)))] := hl
  have inX3 : ∀ w ∈ wsX30, w ∈ wsX4_toneAt := by decide +kernel
  have hw0 : ∀ w ∈ (vx_atS RX4 76 "java/lang/IndexOutOfBoundsException" nm2).filter goodWord, w ∈ wsX4_toneAt := by decide +kernel
  have hbx : bx ≤ s.heap.size := Nat.le_of_lt (ca.lt hP.1)
  have b4 : 0 ≤ X 4 0 ∧ X 4 0 ≤ 12 := hV.1 4 0 rfl
  have b37 : ∀ q : Nat, 1 ≤ X 37 q ∧ X 37 q ≤ 12 := fun q => hV.1 37 q rfl
  have b37u := b37 (u).toNat
  refine lv_aload_n hx hb dX4_toneAt_0 rfl (lv_at hl 0 rfl) ?_
  refine lv_iload_n hx hb dX4_toneAt_1 rfl (lv_at hl 1 rfl) ?_
  refine g_run (vx_runV (As := [.int (z2 (u))]) (rest := []) ⟨hx, hb, hml, hown, hts⟩ (k_melodyAt l D ks bx ml X _ hP hV hst (u) (by omega)) (cwV 1 hts gX4_toneAt_X4_melodyAt rfl rfl rfl (by decide +kernel) ⟨Nat.le_of_ble_eq_true rfl, Nat.le_of_ble_eq_true rfl⟩) (g_preV (r := (RX4, TX4, 7)) hG hS rx_ge hP.1 rfl) rfl rfl hl.1 rfl (lv_room (Nat.le_of_ble_eq_true rfl)) dX4_toneAt_2 ⟨Nat.le_of_ble_eq_true rfl, Nat.le_of_ble_eq_true rfl⟩) hS (fun _ h => h) (fun E ce q9 H1 locs1 hp hz9 hk9 hS hce hcv hcl => g_out hext hlocks hS hce hcv hcl ⟨Nat.le_of_ble_eq_true rfl, Nat.le_of_ble_eq_true rfl⟩ (by obtain ⟨t9, e9, c9⟩ := hp; exact ⟨t9, ⟨e9, Or.inl (by omega)⟩⟩)) (fun v H1 locs hp hz9 hk9 hS => ?_)
  obtain ⟨k, ⟨ek_2, hk⟩, rfl, hH9⟩ := hp
  obtain rfl := hH9.symm
  refine W.eq (g2 := F0 m 5 ls [.ref (ml k)]) rfl ?_
  refine lv_astore_n (lv' := [(3, .ref (ml k)), (0, .ref bx), (1, .int (z2 (u))), (2, .int (z2 (v2)))]) hx hb dX4_toneAt_5 rfl hl (by decide) rfl (fun ls hl => ?_)
  refine lv_iload_n hx hb dX4_toneAt_6 rfl (lv_at hl 3 rfl) ?_
  refine b_if_lt (tgt := 18) hx hb dX4_toneAt_7 (by decide) ⟨by omega, by omega⟩ (fun c_7 => ?_) (fun c_7 => ?_)
  · skip
    exact g_throw hx hb hst hts hown hG (by decide +kernel) (List.mem_of_getElem? (i := 5) rfl) (by decide +kernel) (by decide +kernel) hw0 thr_ng0 (List.mem_of_getElem? (i := 28) rfl) thr_go0 hS rx_ge hbx (hl.1.trans hml.symm) dX4_toneAt_18 dX4_toneAt_21 dX4_toneAt_22 dX4_toneAt_24 dX4_toneAt_27 hext ⟨Nat.le_of_ble_eq_true rfl, Nat.le_of_ble_eq_true rfl, Nat.le_of_ble_eq_true rfl, Nat.le_of_ble_eq_true rfl⟩ hlocks ⟨Nat.le_of_ble_eq_true rfl, Nat.le_of_ble_eq_true rfl⟩ (fun H1 hz9 hk9 => ⟨⟨hz9, hk9⟩, ⟨rfl, Or.inr ⟨k, by omega⟩⟩⟩)
  · skip
    refine lv_iload_n hx hb dX4_toneAt_10 rfl (lv_at hl 3 rfl) ?_
    refine lv_aload_n hx hb dX4_toneAt_11 rfl (lv_at hl 0 rfl) ?_
    have b_12 : 1 ≤ X 37 k ∧ X 37 k ≤ 12 := hV.1 37 _ rfl
    refine g_getN (C := RX3) (T := TX3) (N := 4) hx hb hts inX3 hown hG (hP.me hk) rfl 2 (by decide) (List.mem_of_getElem? (i := 18) rfl) rfl (v := .int (z2 (X 37 k))) rfl dX4_toneAt_12 ?_
    refine b_icmp_lt (tgt := 28) hx hb dX4_toneAt_15 (by decide) ⟨⟨by omega, by omega⟩, ⟨by omega, by omega⟩⟩ (fun c_15 => ?_) (fun c_15 => ?_)
    · skip
      refine lv_aload_n hx hb dX4_toneAt_28 rfl (lv_at hl 0 rfl) ?_
      refine lv_iload_n hx hb dX4_toneAt_29 rfl (lv_at hl 3 rfl) ?_
      refine g_run (vx_runV (As := [.int (z2 (v2))]) (rest := []) ⟨hx, hb, hml, hown, hts⟩ (k_tone l D ks bx ml X _ hP hV hk (q := (v2).toNat) (v2) (by omega)) (cwV 1 hts gX4_toneAt_X3_tone rfl rfl rfl (by decide +kernel) ⟨Nat.le_of_ble_eq_true rfl, Nat.le_of_ble_eq_true rfl⟩) (g_preV (r := (RX3, TX3, 4)) hG hS rx_ge (hP.me hk) rfl) rfl rfl hl.1 rfl (lv_room (Nat.le_of_ble_eq_true rfl)) dX4_toneAt_30 ⟨Nat.le_of_ble_eq_true rfl, Nat.le_of_ble_eq_true rfl⟩) hS (fun _ h => h) (fun _ _ _ _ _ h => h.elim) (fun v H1 locs hp hz9 hk9 hS => ?_)
      obtain ⟨rfl, hH9⟩ := hp
      obtain rfl := hH9.symm
      have tb_30 := toS_b (X 38 k) ((v2).toNat)
      refine W.eq (g2 := F0 m 33 ls [.int (z2 (toS (X 38 k) ((v2).toNat)))]) rfl ?_
      exact g_iret hx hb hr hlocks hS ⟨Nat.le_of_ble_eq_true rfl, Nat.le_of_ble_eq_true rfl⟩ (⟨k, (v2).toNat, by omega, rfl, rfl⟩) dX4_toneAt_33
    · skip
      exact g_throw hx hb hst hts hown hG (by decide +kernel) (List.mem_of_getElem? (i := 5) rfl) (by decide +kernel) (by decide +kernel) hw0 thr_ng0 (List.mem_of_getElem? (i := 28) rfl) thr_go0 hS rx_ge hbx (hl.1.trans hml.symm) dX4_toneAt_18 dX4_toneAt_21 dX4_toneAt_22 dX4_toneAt_24 dX4_toneAt_27 hext ⟨Nat.le_of_ble_eq_true rfl, Nat.le_of_ble_eq_true rfl, Nat.le_of_ble_eq_true rfl, Nat.le_of_ble_eq_true rfl⟩ hlocks ⟨Nat.le_of_ble_eq_true rfl, Nat.le_of_ble_eq_true rfl⟩ (fun H1 hz9 hk9 => ⟨⟨hz9, hk9⟩, ⟨rfl, Or.inr ⟨k, by omega⟩⟩⟩)
set_option maxHeartbeats 4000000 in
set_option maxRecDepth 100000 in
theorem k_shifted (l : Launch) (D : va_G) (ks : Nat → ClassId) (bx : Nat) (ml : Nat → Nat) (X : Nat → Nat → Int) (H : Heap) (hP : PX D ks bx ml X H) (hV : VX X) (hst : l.stackTraces = false) (u v2 : Int) (hu : -2147483648 ≤ u ∧ u < 2147483648) (hv2 : -2147483648 ≤ v2 ∧ v2 < 2147483648) : KM l yX4_shifted wsX4_shifted ({ frames := 7, cells := 2, slots := 12, locals := 112 } : Room) D ks bx [.ref bx, .int (z2 u), .int (z2 v2)] H (RX bx) (fun v H1 => ∃ k cn : Nat, ((u = k ∧ (k : Int) < X 4 0) ∧ X 37 k = cn ∧ 0 ≤ v2 ∧ v2 ≤ 15) ∧ v = some (.long (l2 (shR (X 38 k) v2 cn cn))) ∧ H1 = H) (fun E H1 => TX H H1 ∧ ((E = "java/lang/IndexOutOfBoundsException" ∧ (¬ (0 ≤ u ∧ u < X 4 0))) ∨ (E = "java/lang/IllegalArgumentException" ∧ ((0 ≤ u ∧ u < X 4 0) ∧ ¬ (0 ≤ v2 ∧ v2 ≤ 15))))) := by
  refine KM.of (cc := cX4_shifted) (maxL := 4) (ret := (some .long)) (by decide) rfl (Nat.le_of_ble_eq_true rfl) ?_
  intro p e s m below meth c hx hb hml hr hlocks hown hname hts hext hH0 hG ls hl
  subst hH0
  have hown : s.vm.findClass RX4 = some m.cls := hown
  have hS : va_S (AR (RX bx) s.heap.size) s.heap s.heap [] := va_S.rf
  have hl : lv_has ls 4 [(0, .ref bx), (1, .int (z2 (u))), (2, .int (z2 (v2)))] := hl
  have hw1 : ∀ w ∈ (vx_atS RX4 52 "java/lang/IllegalArgumentException" nm2).filter goodWord, w ∈ wsX4_shifted := by decide +kernel
  have hbx : bx ≤ s.heap.size := Nat.le_of_lt (ca.lt hP.1)
  have b4 : 0 ≤ X 4 0 ∧ X 4 0 ≤ 12 := hV.1 4 0 rfl
  have b37 : ∀ q : Nat, 1 ≤ X 37 q ∧ X 37 q ≤ 12 := fun q => hV.1 37 q rfl
  refine lv_aload_n hx hb dX4_shifted_0 rfl (lv_at hl 0 rfl) ?_
  refine lv_iload_n hx hb dX4_shifted_1 rfl (lv_at hl 1 rfl) ?_
  refine g_run (vx_runV (As := [.int (z2 (u))]) (rest := []) ⟨hx, hb, hml, hown, hts⟩ (k_melodyAt l D ks bx ml X _ hP hV hst (u) (by omega)) (cwV 1 hts gX4_shifted_X4_melodyAt rfl rfl rfl (by decide +kernel) ⟨Nat.le_of_ble_eq_true rfl, Nat.le_of_ble_eq_true rfl⟩) (g_preV (r := (RX4, TX4, 7)) hG hS rx_ge hP.1 rfl) rfl rfl hl.1 rfl (lv_room (Nat.le_of_ble_eq_true rfl)) dX4_shifted_2 ⟨Nat.le_of_ble_eq_true rfl, Nat.le_of_ble_eq_true rfl⟩) hS (fun _ h => h) (fun E ce q9 H1 locs1 hp hz9 hk9 hS hce hcv hcl => g_out hext hlocks hS hce hcv hcl ⟨Nat.le_of_ble_eq_true rfl, Nat.le_of_ble_eq_true rfl⟩ (by obtain ⟨t9, e9, c9⟩ := hp; exact ⟨t9, Or.inl (⟨e9, by omega⟩)⟩)) (fun v H1 locs hp hz9 hk9 hS => ?_)
  obtain ⟨k, ⟨ek_2, hk⟩, rfl, hH9⟩ := hp
  obtain rfl := hH9.symm
  refine W.eq (g2 := F0 m 5 ls [.ref (ml k)]) rfl ?_
  refine lv_astore_n (lv' := [(3, .ref (ml k)), (0, .ref bx), (1, .int (z2 (u))), (2, .int (z2 (v2)))]) hx hb dX4_shifted_5 rfl hl (by decide) rfl (fun ls hl => ?_)
  refine lv_iload_n hx hb dX4_shifted_6 rfl (lv_at hl 3 rfl) ?_
  refine b_if_lt (tgt := 16) hx hb dX4_shifted_7 (by decide) ⟨by omega, by omega⟩ (fun c_7 => ?_) (fun c_7 => ?_)
  · skip
    exact g_throw hx hb hst hts hown hG (by decide +kernel) (List.mem_of_getElem? (i := 6) rfl) (by decide +kernel) (by decide +kernel) hw1 thr_ng1 (List.mem_of_getElem? (i := 29) rfl) thr_go1 hS rx_ge hbx (hl.1.trans hml.symm) dX4_shifted_16 dX4_shifted_19 dX4_shifted_20 dX4_shifted_22 dX4_shifted_25 hext ⟨Nat.le_of_ble_eq_true rfl, Nat.le_of_ble_eq_true rfl, Nat.le_of_ble_eq_true rfl, Nat.le_of_ble_eq_true rfl⟩ hlocks ⟨Nat.le_of_ble_eq_true rfl, Nat.le_of_ble_eq_true rfl⟩ (fun H1 hz9 hk9 => ⟨⟨hz9, hk9⟩, Or.inr (⟨rfl, by omega⟩)⟩)
  · skip
    refine lv_iload_n hx hb dX4_shifted_10 rfl (lv_at hl 3 rfl) ?_
    refine b_bipush hx hb dX4_shifted_11 (by decide +kernel) ?_
    refine b_icmp_le (tgt := 26) hx hb dX4_shifted_13 (by decide) ⟨⟨by omega, by omega⟩, ⟨by omega, by omega⟩⟩ (fun c_13 => ?_) (fun c_13 => ?_)
    · skip
      refine lv_aload_n hx hb dX4_shifted_26 rfl (lv_at hl 0 rfl) ?_
      refine lv_iload_n hx hb dX4_shifted_27 rfl (lv_at hl 3 rfl) ?_
      obtain ⟨cn, hcn⟩ : ∃ cn : Nat, X 37 k = cn := ⟨(X 37 k).toNat, by have := b37 k; omega⟩
      refine g_run (vx_runV (As := [.int (z2 (v2))]) (rest := []) ⟨hx, hb, hml, hown, hts⟩ (k_tonesShifted l D ks bx ml X _ hP hV hk (v2) ⟨by omega, by omega⟩ (cn := cn) hcn) (cwV 1 hts gX4_shifted_X3_tonesShifted rfl rfl rfl (by decide +kernel) ⟨Nat.le_of_ble_eq_true rfl, Nat.le_of_ble_eq_true rfl⟩) (g_preV (r := (RX3, TX3, 4)) hG hS rx_ge (hP.me hk) rfl) rfl rfl hl.1 rfl (lv_room (Nat.le_of_ble_eq_true rfl)) dX4_shifted_28 ⟨Nat.le_of_ble_eq_true rfl, Nat.le_of_ble_eq_true rfl⟩) hS (fun _ h => h) (fun _ _ _ _ _ h => h.elim) (fun v H1 locs hp hz9 hk9 hS => ?_)
      obtain ⟨rfl, hH9⟩ := hp
      obtain rfl := hH9.symm
      refine W.eq (g2 := F0 m 31 ls [.long (l2 (shR (X 38 k) (v2) cn cn))]) rfl ?_
      exact g_lret hx hb hr hlocks hS ⟨Nat.le_of_ble_eq_true rfl, Nat.le_of_ble_eq_true rfl⟩ (⟨k, cn, by omega, rfl, rfl⟩) dX4_shifted_31
    · skip
      exact g_throw hx hb hst hts hown hG (by decide +kernel) (List.mem_of_getElem? (i := 6) rfl) (by decide +kernel) (by decide +kernel) hw1 thr_ng1 (List.mem_of_getElem? (i := 29) rfl) thr_go1 hS rx_ge hbx (hl.1.trans hml.symm) dX4_shifted_16 dX4_shifted_19 dX4_shifted_20 dX4_shifted_22 dX4_shifted_25 hext ⟨Nat.le_of_ble_eq_true rfl, Nat.le_of_ble_eq_true rfl, Nat.le_of_ble_eq_true rfl, Nat.le_of_ble_eq_true rfl⟩ hlocks ⟨Nat.le_of_ble_eq_true rfl, Nat.le_of_ble_eq_true rfl⟩ (fun H1 hz9 hk9 => ⟨⟨hz9, hk9⟩, Or.inr (⟨rfl, by omega⟩)⟩)
set_option maxHeartbeats 4000000 in
set_option maxRecDepth 100000 in
theorem k_turned (l : Launch) (D : va_G) (ks : Nat → ClassId) (bx : Nat) (ml : Nat → Nat) (X : Nat → Nat → Int) (H : Heap) (hP : PX D ks bx ml X H) (hV : VX X) (hst : l.stackTraces = false) (u : Int) (hu : -2147483648 ≤ u ∧ u < 2147483648) : KM l yX4_turned wsX4_turned ({ frames := 7, cells := 1, slots := 6, locals := 112 } : Room) D ks bx [.ref bx, .int (z2 u)] H (RX bx) (fun v H1 => ∃ k cn : Nat, ((u = k ∧ (k : Int) < X 4 0) ∧ X 37 k = cn) ∧ v = some (.long (l2 (tuR (X 38 k) cn))) ∧ H1 = H) (fun E H1 => TX H H1 ∧ ((E = "java/lang/IndexOutOfBoundsException" ∧ (¬ (0 ≤ u ∧ u < X 4 0))))) := by
  refine KM.of (cc := cX4_turned) (maxL := 2) (ret := (some .long)) (by decide) rfl (Nat.le_of_ble_eq_true rfl) ?_
  intro p e s m below meth c hx hb hml hr hlocks hown hname hts hext hH0 hG ls hl
  subst hH0
  have hown : s.vm.findClass RX4 = some m.cls := hown
  have hS : va_S (AR (RX bx) s.heap.size) s.heap s.heap [] := va_S.rf
  have hl : lv_has ls 2 [(0, .ref bx), (1, .int (z2 (u)))] := hl
  have hbx : bx ≤ s.heap.size := Nat.le_of_lt (ca.lt hP.1)
  have b4 : 0 ≤ X 4 0 ∧ X 4 0 ≤ 12 := hV.1 4 0 rfl
  have b37 : ∀ q : Nat, 1 ≤ X 37 q ∧ X 37 q ≤ 12 := fun q => hV.1 37 q rfl
  refine lv_aload_n hx hb dX4_turned_0 rfl (lv_at hl 0 rfl) ?_
  refine lv_iload_n hx hb dX4_turned_1 rfl (lv_at hl 1 rfl) ?_
  refine g_run (vx_runV (As := [.int (z2 (u))]) (rest := []) ⟨hx, hb, hml, hown, hts⟩ (k_melodyAt l D ks bx ml X _ hP hV hst (u) (by omega)) (cwV 1 hts gX4_turned_X4_melodyAt rfl rfl rfl (by decide +kernel) ⟨Nat.le_of_ble_eq_true rfl, Nat.le_of_ble_eq_true rfl⟩) (g_preV (r := (RX4, TX4, 7)) hG hS rx_ge hP.1 rfl) rfl rfl hl.1 rfl (lv_room (Nat.le_of_ble_eq_true rfl)) dX4_turned_2 ⟨Nat.le_of_ble_eq_true rfl, Nat.le_of_ble_eq_true rfl⟩) hS (fun _ h => h) (fun E ce q9 H1 locs1 hp hz9 hk9 hS hce hcv hcl => g_out hext hlocks hS hce hcv hcl ⟨Nat.le_of_ble_eq_true rfl, Nat.le_of_ble_eq_true rfl⟩ (by obtain ⟨t9, e9, c9⟩ := hp; exact ⟨t9, ⟨e9, by omega⟩⟩)) (fun v H1 locs hp hz9 hk9 hS => ?_)
  obtain ⟨k, ⟨ek_2, hk⟩, rfl, hH9⟩ := hp
  obtain rfl := hH9.symm
  refine W.eq (g2 := F0 m 5 ls [.ref (ml k)]) rfl ?_
  obtain ⟨cn, hcn⟩ : ∃ cn : Nat, X 37 k = cn := ⟨(X 37 k).toNat, by have := b37 k; omega⟩
  refine g_run (vx_runV (As := []) (rest := []) ⟨hx, hb, hml, hown, hts⟩ (k_tonesTurned l D ks bx ml X _ hP hV hk (cn := cn) hcn) (cwV 0 hts gX4_turned_X3_tonesTurned rfl rfl rfl (by decide +kernel) ⟨Nat.le_of_ble_eq_true rfl, Nat.le_of_ble_eq_true rfl⟩) (g_preV (r := (RX3, TX3, 4)) hG hS rx_ge (hP.me hk) rfl) rfl rfl hl.1 rfl (lv_room (Nat.le_of_ble_eq_true rfl)) dX4_turned_5 ⟨Nat.le_of_ble_eq_true rfl, Nat.le_of_ble_eq_true rfl⟩) hS (fun _ h => h) (fun _ _ _ _ _ h => h.elim) (fun v H1 locs hp hz9 hk9 hS => ?_)
  obtain ⟨rfl, hH9⟩ := hp
  obtain rfl := hH9.symm
  refine W.eq (g2 := F0 m 8 ls [.long (l2 (tuR (X 38 k) cn))]) rfl ?_
  exact g_lret hx hb hr hlocks hS ⟨Nat.le_of_ble_eq_true rfl, Nat.le_of_ble_eq_true rfl⟩ (⟨k, cn, by omega, rfl, rfl⟩) dX4_turned_8
set_option maxHeartbeats 4000000 in
set_option maxRecDepth 100000 in
theorem k_areAlike (l : Launch) (D : va_G) (ks : Nat → ClassId) (bx : Nat) (ml : Nat → Nat) (X : Nat → Nat → Int) (H : Heap) (hP : PX D ks bx ml X H) (hV : VX X) (hst : l.stackTraces = false) (u v2 : Int) (hu : -2147483648 ≤ u ∧ u < 2147483648) (hv2 : -2147483648 ≤ v2 ∧ v2 < 2147483648) : KM l yX4_areAlike wsX4_areAlike ({ frames := 7, cells := 2, slots := 12, locals := 112 } : Room) D ks bx [.ref bx, .int (z2 u), .int (z2 v2)] H (RX bx) (fun v H1 => ∃ k k2 : Nat, ((u = k ∧ (k : Int) < X 4 0) ∧ v2 = k2 ∧ (k2 : Int) < X 4 0) ∧ v = some (.int (z2 (isS X k k2))) ∧ H1 = H) (fun E H1 => TX H H1 ∧ ((E = "java/lang/IndexOutOfBoundsException" ∧ (¬ ((0 ≤ u ∧ u < X 4 0) ∧ 0 ≤ v2 ∧ v2 < X 4 0))))) := by
  refine KM.of (cc := cX4_areAlike) (maxL := 3) (ret := (some .boolean)) (by decide) rfl (Nat.le_of_ble_eq_true rfl) ?_
  intro p e s m below meth c hx hb hml hr hlocks hown hname hts hext hH0 hG ls hl
  subst hH0
  have hown : s.vm.findClass RX4 = some m.cls := hown
  have hS : va_S (AR (RX bx) s.heap.size) s.heap s.heap [] := va_S.rf
  have hl : lv_has ls 3 [(0, .ref bx), (1, .int (z2 (u))), (2, .int (z2 (v2)))] := hl
  have hbx : bx ≤ s.heap.size := Nat.le_of_lt (ca.lt hP.1)
  have b4 : 0 ≤ X 4 0 ∧ X 4 0 ≤ 12 := hV.1 4 0 rfl
  refine lv_aload_n hx hb dX4_areAlike_0 rfl (lv_at hl 0 rfl) ?_
  refine lv_iload_n hx hb dX4_areAlike_1 rfl (lv_at hl 1 rfl) ?_
  refine g_run (vx_runV (As := [.int (z2 (u))]) (rest := []) ⟨hx, hb, hml, hown, hts⟩ (k_melodyAt l D ks bx ml X _ hP hV hst (u) (by omega)) (cwV 1 hts gX4_areAlike_X4_melodyAt rfl rfl rfl (by decide +kernel) ⟨Nat.le_of_ble_eq_true rfl, Nat.le_of_ble_eq_true rfl⟩) (g_preV (r := (RX4, TX4, 7)) hG hS rx_ge hP.1 rfl) rfl rfl hl.1 rfl (lv_room (Nat.le_of_ble_eq_true rfl)) dX4_areAlike_2 ⟨Nat.le_of_ble_eq_true rfl, Nat.le_of_ble_eq_true rfl⟩) hS (fun _ h => h) (fun E ce q9 H1 locs1 hp hz9 hk9 hS hce hcv hcl => g_out hext hlocks hS hce hcv hcl ⟨Nat.le_of_ble_eq_true rfl, Nat.le_of_ble_eq_true rfl⟩ (by obtain ⟨t9, e9, c9⟩ := hp; exact ⟨t9, ⟨e9, by omega⟩⟩)) (fun v H1 locs hp hz9 hk9 hS => ?_)
  obtain ⟨k, ⟨ek_2, hk⟩, rfl, hH9⟩ := hp
  obtain rfl := hH9.symm
  refine W.eq (g2 := F0 m 5 ls [.ref (ml k)]) rfl ?_
  refine lv_aload_n hx hb dX4_areAlike_5 rfl (lv_at hl 0 rfl) ?_
  refine lv_iload_n hx hb dX4_areAlike_6 rfl (lv_at hl 2 rfl) ?_
  refine g_run (vx_runV (As := [.int (z2 (v2))]) (rest := [.ref (ml k)]) ⟨hx, hb, hml, hown, hts⟩ (k_melodyAt l D ks bx ml X _ hP hV hst (v2) (by omega)) (cwV 1 hts gX4_areAlike_X4_melodyAt rfl rfl rfl (by decide +kernel) ⟨Nat.le_of_ble_eq_true rfl, Nat.le_of_ble_eq_true rfl⟩) (g_preV (r := (RX4, TX4, 7)) hG hS rx_ge hP.1 rfl) rfl rfl hl.1 rfl (lv_room (Nat.le_of_ble_eq_true rfl)) dX4_areAlike_7 ⟨Nat.le_of_ble_eq_true rfl, Nat.le_of_ble_eq_true rfl⟩) hS (fun _ h => h) (fun E ce q9 H1 locs1 hp hz9 hk9 hS hce hcv hcl => g_out hext hlocks hS hce hcv hcl ⟨Nat.le_of_ble_eq_true rfl, Nat.le_of_ble_eq_true rfl⟩ (by obtain ⟨t9, e9, c9⟩ := hp; exact ⟨t9, ⟨e9, by omega⟩⟩)) (fun v H1 locs hp hz9 hk9 hS => ?_)
  obtain ⟨k2, ⟨ek_7, hk2⟩, rfl, hH9⟩ := hp
  obtain rfl := hH9.symm
  refine W.eq (g2 := F0 m 10 ls [.ref (ml k2), .ref (ml k)]) rfl ?_
  refine g_run (vx_runV (As := [.ref (ml k2)]) (rest := []) ⟨hx, hb, hml, hown, hts⟩ (k_isShiftOf l D ks bx ml X _ hP hV hk hk2) (cwV 1 hts gX4_areAlike_X3_isShiftOf rfl rfl rfl (by decide +kernel) ⟨Nat.le_of_ble_eq_true rfl, Nat.le_of_ble_eq_true rfl⟩) (g_preV (r := (RX3, TX3, 4)) hG hS rx_ge (hP.me hk) rfl) rfl rfl hl.1 rfl (lv_room (Nat.le_of_ble_eq_true rfl)) dX4_areAlike_10 ⟨Nat.le_of_ble_eq_true rfl, Nat.le_of_ble_eq_true rfl⟩) hS (fun _ h => h) (fun _ _ _ _ _ h => h.elim) (fun v H1 locs hp hz9 hk9 hS => ?_)
  obtain ⟨rfl, hH9⟩ := hp
  obtain rfl := hH9.symm
  have zn9 := isS_n X k k2
  refine W.eq (g2 := F0 m 13 ls [.int (z2 (isS X k k2))]) rfl ?_
  exact g_zret hx hb hr hlocks hS zn9 ⟨Nat.le_of_ble_eq_true rfl, Nat.le_of_ble_eq_true rfl⟩ (⟨k, k2, by omega, rfl, rfl⟩) dX4_areAlike_13
set_option maxHeartbeats 4000000 in
set_option maxRecDepth 100000 in
theorem k_license (l : Launch) (D : va_G) (ks : Nat → ClassId) (bx : Nat) (ml : Nat → Nat) (X : Nat → Nat → Int) (H : Heap) (hP : PX D ks bx ml X H) (hV : VX X) (hst : l.stackTraces = false) (u v2 u3 : Int) (hu : -2147483648 ≤ u ∧ u < 2147483648) (hv2 : -2147483648 ≤ v2 ∧ v2 < 2147483648) (hu3 : -2147483648 ≤ u3 ∧ u3 < 2147483648) : KM l yX4_license wsX4_license ({ frames := 8, cells := 3, slots := 18, locals := 132 } : Room) D ks bx [.ref bx, .int (z2 u), .int (z2 v2), .int (z2 u3)] H (RX bx) (fun v H1 => ∃ n k : Nat, ((u = n ∧ n < 8) ∧ (v2 = k ∧ (k : Int) < X 4 0) ∧ 1 ≤ u3 ∧ u3 ≤ 1000 ∧ X 36 k ≠ n ∧ X 23 (12 * n + k) + u3 ≤ 1000) ∧ v = some (.int (z2 (X 23 (12 * n + k) + u3))) ∧ PX D ks bx ml (up X 23 (12 * n + k) (X 23 (12 * n + k) + u3)) H1) (fun E H1 => TX H H1 ∧ ((E = "java/lang/IndexOutOfBoundsException" ∧ (¬ ((0 ≤ u ∧ u < 8) ∧ (0 ≤ v2 ∧ v2 < X 4 0)))) ∨ (E = "java/lang/IllegalArgumentException" ∧ ((0 ≤ u ∧ u < 8) ∧ (0 ≤ v2 ∧ v2 < X 4 0) ∧ ¬ (1 ≤ u3 ∧ u3 ≤ 1000))) ∨ (E = "java/lang/IllegalStateException" ∧ (∃ n k : Nat, ((u = n ∧ n < 8) ∧ (v2 = k ∧ (k : Int) < X 4 0) ∧ 1 ≤ u3 ∧ u3 ≤ 1000 ∧ (X 36 k = n ∨ 1000 < X 23 (12 * n + k) + u3)))))) := by
  refine KM.of (cc := cX4_license) (maxL := 6) (ret := (some .int)) (by decide) rfl (Nat.le_of_ble_eq_true rfl) ?_
  intro p e s m below meth c hx hb hml hr hlocks hown hname hts hext hH0 hG ls hl
  subst hH0
  have hown : s.vm.findClass RX4 = some m.cls := hown
  have hS : va_S (AR (RX bx) s.heap.size) s.heap s.heap [] := va_S.rf
  have hl : lv_has ls 6 [(0, .ref bx), (1, .int (z2 (u))), (2, .int (z2 (v2))), (3, .int (z2 (u3)))] := hl
  have inX2 : ∀ w ∈ wsX20, w ∈ wsX4_license := by decide +kernel
  have inX3 : ∀ w ∈ wsX30, w ∈ wsX4_license := by decide +kernel
  have hw1 : ∀ w ∈ (vx_atS RX4 52 "java/lang/IllegalArgumentException" nm2).filter goodWord, w ∈ wsX4_license := by decide +kernel
  have hw2 : ∀ w ∈ (vx_atS RX4 61 "java/lang/IllegalStateException" nm2).filter goodWord, w ∈ wsX4_license := by decide +kernel
  have hbx : bx ≤ s.heap.size := Nat.le_of_lt (ca.lt hP.1)
  have b4 : 0 ≤ X 4 0 ∧ X 4 0 ≤ 12 := hV.1 4 0 rfl
  refine lv_aload_n hx hb dX4_license_0 rfl (lv_at hl 0 rfl) ?_
  refine lv_iload_n hx hb dX4_license_1 rfl (lv_at hl 1 rfl) ?_
  refine g_run (vx_runV (As := [.int (z2 (u))]) (rest := []) ⟨hx, hb, hml, hown, hts⟩ (k_houseAt l D ks bx ml X _ hP hV hst (u) (by omega)) (cwV 1 hts gX4_license_X4_houseAt rfl rfl rfl (by decide +kernel) ⟨Nat.le_of_ble_eq_true rfl, Nat.le_of_ble_eq_true rfl⟩) (g_preV (r := (RX4, TX4, 7)) hG hS rx_ge hP.1 rfl) rfl rfl hl.1 rfl (lv_room (Nat.le_of_ble_eq_true rfl)) dX4_license_2 ⟨Nat.le_of_ble_eq_true rfl, Nat.le_of_ble_eq_true rfl⟩) hS (fun _ h => h) (fun E ce q9 H1 locs1 hp hz9 hk9 hS hce hcv hcl => g_out hext hlocks hS hce hcv hcl ⟨Nat.le_of_ble_eq_true rfl, Nat.le_of_ble_eq_true rfl⟩ (by obtain ⟨t9, e9, c9⟩ := hp; exact ⟨t9, Or.inl (⟨e9, by omega⟩)⟩)) (fun v H1 locs hp hz9 hk9 hS => ?_)
  obtain ⟨n, ⟨en_2, hn⟩, rfl, hH9⟩ := hp
  obtain rfl := hH9.symm
  refine W.eq (g2 := F0 m 5 ls [.ref (bx + 5 + 6 * n)]) rfl ?_
  refine lv_astore (lv' := [(4, .ref (bx + 5 + 6 * n)), (0, .ref bx), (1, .int (z2 (u))), (2, .int (z2 (v2))), (3, .int (z2 (u3)))]) hx hb dX4_license_5 hl (by decide) rfl (fun ls hl => ?_)
  refine lv_aload_n hx hb dX4_license_7 rfl (lv_at hl 1 rfl) ?_
  refine lv_iload_n hx hb dX4_license_8 rfl (lv_at hl 3 rfl) ?_
  refine g_run (vx_runV (As := [.int (z2 (v2))]) (rest := []) ⟨hx, hb, hml, hown, hts⟩ (k_melodyAt l D ks bx ml X _ hP hV hst (v2) (by omega)) (cwV 1 hts gX4_license_X4_melodyAt rfl rfl rfl (by decide +kernel) ⟨Nat.le_of_ble_eq_true rfl, Nat.le_of_ble_eq_true rfl⟩) (g_preV (r := (RX4, TX4, 7)) hG hS rx_ge hP.1 rfl) rfl rfl hl.1 rfl (lv_room (Nat.le_of_ble_eq_true rfl)) dX4_license_9 ⟨Nat.le_of_ble_eq_true rfl, Nat.le_of_ble_eq_true rfl⟩) hS (fun _ h => h) (fun E ce q9 H1 locs1 hp hz9 hk9 hS hce hcv hcl => g_out hext hlocks hS hce hcv hcl ⟨Nat.le_of_ble_eq_true rfl, Nat.le_of_ble_eq_true rfl⟩ (by obtain ⟨t9, e9, c9⟩ := hp; exact ⟨t9, Or.inl (⟨e9, by omega⟩)⟩)) (fun v H1 locs hp hz9 hk9 hS => ?_)
  obtain ⟨k, ⟨ek_9, hk⟩, rfl, hH9⟩ := hp
  obtain rfl := hH9.symm
  refine W.eq (g2 := F0 m 12 ls [.ref (ml k)]) rfl ?_
  refine lv_astore (lv' := [(5, .ref (ml k)), (4, .ref (bx + 5 + 6 * n)), (0, .ref bx), (1, .int (z2 (u))), (2, .int (z2 (v2))), (3, .int (z2 (u3)))]) hx hb dX4_license_12 hl (by decide) rfl (fun ls hl => ?_)
  refine lv_iload_n hx hb dX4_license_14 rfl (lv_at hl 5 rfl) ?_
  refine b_iconst hx hb dX4_license_15 ?_
  refine b_icmp_lt (tgt := 26) hx hb dX4_license_16 (by decide) ⟨⟨by omega, by omega⟩, ⟨by omega, by omega⟩⟩ (fun c_16 => ?_) (fun c_16 => ?_)
  · skip
    exact g_throw hx hb hst hts hown hG (by decide +kernel) (List.mem_of_getElem? (i := 7) rfl) (by decide +kernel) (by decide +kernel) hw1 thr_ng1 (List.mem_of_getElem? (i := 29) rfl) thr_go1 hS rx_ge hbx (hl.1.trans hml.symm) dX4_license_26 dX4_license_29 dX4_license_30 dX4_license_32 dX4_license_35 hext ⟨Nat.le_of_ble_eq_true rfl, Nat.le_of_ble_eq_true rfl, Nat.le_of_ble_eq_true rfl, Nat.le_of_ble_eq_true rfl⟩ hlocks ⟨Nat.le_of_ble_eq_true rfl, Nat.le_of_ble_eq_true rfl⟩ (fun H1 hz9 hk9 => ⟨⟨hz9, hk9⟩, Or.inr (Or.inl (⟨rfl, by omega⟩))⟩)
  · skip
    refine lv_iload_n hx hb dX4_license_19 rfl (lv_at hl 5 rfl) ?_
    refine b_sipush hx hb dX4_license_20 (by decide +kernel) ?_
    refine b_icmp_le (tgt := 36) hx hb dX4_license_23 (by decide) ⟨⟨by omega, by omega⟩, ⟨by omega, by omega⟩⟩ (fun c_23 => ?_) (fun c_23 => ?_)
    · skip
      refine lv_aload hx hb dX4_license_36 (lv_at hl 0 rfl) ?_
      have b_38 : 0 ≤ X 36 k ∧ X 36 k ≤ 7 := hV.1 36 _ rfl
      refine g_getN (C := RX3) (T := TX3) (N := 4) hx hb hts inX3 hown hG (hP.me hk) rfl 1 (by decide) (List.mem_of_getElem? (i := 0) rfl) rfl (v := .int (z2 (X 36 k))) rfl dX4_license_38 ?_
      refine lv_iload_n hx hb dX4_license_41 rfl (lv_at hl 3 rfl) ?_
      refine b_icmp_ne (tgt := 55) hx hb dX4_license_42 (by decide) ⟨⟨by omega, by omega⟩, ⟨by omega, by omega⟩⟩ (fun c_42 => ?_) (fun c_42 => ?_)
      · skip
        refine lv_aload hx hb dX4_license_55 (lv_at hl 1 rfl) ?_
        refine g_getN (C := RX2) (T := TX2) (N := 13) hx hb hts inX2 hown hG (hP.hs hn) rfl 3 (by decide) (List.mem_of_getElem? (i := 1) rfl) rfl (v := .ref (bx + 5 + 6 * n + 2)) rfl dX4_license_57 ?_
        refine lv_iload_n hx hb dX4_license_60 rfl (lv_at hl 4 rfl) ?_
        have b_61 : 0 ≤ X 23 (12 * n + k) ∧ X 23 (12 * n + k) ≤ 1000 := hV.1 23 _ rfl
        refine g_iald (n := 12) hx hb hG (hP.ra hn) k ⟨by omega, by omega, by decide⟩ dX4_license_61 ?_
        refine W.eq (g2 := F0 m 62 ls (.int (z2 (X 23 (12 * n + k))) :: [])) rfl ?_
        refine lv_iload_n hx hb dX4_license_62 rfl (lv_at hl 5 rfl) ?_
        refine b_iadd hx hb dX4_license_63 ?_
        refine b_sipush hx hb dX4_license_64 (by decide +kernel) ?_
        refine b_icmp_le (tgt := 80) hx hb dX4_license_67 (by decide) ⟨⟨by omega, by omega⟩, ⟨by omega, by omega⟩⟩ (fun c_67 => ?_) (fun c_67 => ?_)
        · skip
          refine lv_aload hx hb dX4_license_80 (lv_at hl 1 rfl) ?_
          refine g_getN (C := RX2) (T := TX2) (N := 13) hx hb hts inX2 hown hG (hP.hs hn) rfl 3 (by decide) (List.mem_of_getElem? (i := 1) rfl) rfl (v := .ref (bx + 5 + 6 * n + 2)) rfl dX4_license_82 ?_
          refine lv_iload_n hx hb dX4_license_85 rfl (lv_at hl 4 rfl) ?_
          refine lv_dup2_11 hx hb dX4_license_86 rfl rfl ?_
          have b_87 : 0 ≤ X 23 (12 * n + k) ∧ X 23 (12 * n + k) ≤ 1000 := hV.1 23 _ rfl
          refine g_iald (n := 12) hx hb hG (hP.ra hn) k ⟨by omega, by omega, by decide⟩ dX4_license_87 ?_
          refine W.eq (g2 := F0 m 88 ls (.int (z2 (X 23 (12 * n + k))) :: [.int (z2 (v2)), .ref (bx + 5 + 6 * n + 2)])) rfl ?_
          refine lv_iload_n hx hb dX4_license_88 rfl (lv_at hl 5 rfl) ?_
          refine b_iadd hx hb dX4_license_89 ?_
          refine g_iast (n := 12) hx hb hG hS (hP.ra hn) (Or.inl ⟨by omega, by omega⟩) k ⟨by omega, by omega, by decide⟩ dX4_license_90 (fun H locs he hz oq hS => ?_)
          have hP : PX D ks bx ml (up X 23 (12 * n + k) ((X 23 (12 * n + k)) + u3)) H := hP.right hn (by omega) he oq
          refine lv_aload hx hb dX4_license_91 (lv_at hl 1 rfl) ?_
          refine g_getN (C := RX2) (T := TX2) (N := 13) hx hb hts inX2 hown hG (hP.hs hn) rfl 3 (by decide) (List.mem_of_getElem? (i := 1) rfl) rfl (v := .ref (bx + 5 + 6 * n + 2)) rfl dX4_license_93 ?_
          refine lv_iload_n hx hb dX4_license_96 rfl (lv_at hl 4 rfl) ?_
          refine g_iald (n := 12) hx hb hG (hP.ra hn) k ⟨by omega, by omega, by decide⟩ dX4_license_97 ?_
          refine W.eq (g2 := F0 m 98 ls (.int (z2 ((X 23 (12 * n + k)) + u3)) :: [])) (congrArg (fun z => F0 m 98 ls (.int (z2 z) :: [])) (by simp [up] : (up X 23 (12 * n + k) ((X 23 (12 * n + k)) + u3)) 23 (12 * n + k) = (X 23 (12 * n + k)) + u3)) ?_
          exact g_iret hx hb hr hlocks hS ⟨Nat.le_of_ble_eq_true rfl, Nat.le_of_ble_eq_true rfl⟩ (⟨n, k, by omega, rfl, hP⟩) dX4_license_98
        · skip
          exact g_throw hx hb hst hts hown hG (by decide +kernel) (List.mem_of_getElem? (i := 9) rfl) (by decide +kernel) (by decide +kernel) hw2 thr_ng2 (List.mem_of_getElem? (i := 30) rfl) thr_go2 hS rx_ge hbx (hl.1.trans hml.symm) dX4_license_70 dX4_license_73 dX4_license_74 dX4_license_76 dX4_license_79 hext ⟨Nat.le_of_ble_eq_true rfl, Nat.le_of_ble_eq_true rfl, Nat.le_of_ble_eq_true rfl, Nat.le_of_ble_eq_true rfl⟩ hlocks ⟨Nat.le_of_ble_eq_true rfl, Nat.le_of_ble_eq_true rfl⟩ (fun H1 hz9 hk9 => ⟨⟨hz9, hk9⟩, Or.inr (Or.inr (⟨rfl, ⟨n, k, by omega⟩⟩))⟩)
      · skip
        exact g_throw hx hb hst hts hown hG (by decide +kernel) (List.mem_of_getElem? (i := 8) rfl) (by decide +kernel) (by decide +kernel) hw2 thr_ng2 (List.mem_of_getElem? (i := 30) rfl) thr_go2 hS rx_ge hbx (hl.1.trans hml.symm) dX4_license_45 dX4_license_48 dX4_license_49 dX4_license_51 dX4_license_54 hext ⟨Nat.le_of_ble_eq_true rfl, Nat.le_of_ble_eq_true rfl, Nat.le_of_ble_eq_true rfl, Nat.le_of_ble_eq_true rfl⟩ hlocks ⟨Nat.le_of_ble_eq_true rfl, Nat.le_of_ble_eq_true rfl⟩ (fun H1 hz9 hk9 => ⟨⟨hz9, hk9⟩, Or.inr (Or.inr (⟨rfl, ⟨n, k, by omega⟩⟩))⟩)
    · skip
      exact g_throw hx hb hst hts hown hG (by decide +kernel) (List.mem_of_getElem? (i := 7) rfl) (by decide +kernel) (by decide +kernel) hw1 thr_ng1 (List.mem_of_getElem? (i := 29) rfl) thr_go1 hS rx_ge hbx (hl.1.trans hml.symm) dX4_license_26 dX4_license_29 dX4_license_30 dX4_license_32 dX4_license_35 hext ⟨Nat.le_of_ble_eq_true rfl, Nat.le_of_ble_eq_true rfl, Nat.le_of_ble_eq_true rfl, Nat.le_of_ble_eq_true rfl⟩ hlocks ⟨Nat.le_of_ble_eq_true rfl, Nat.le_of_ble_eq_true rfl⟩ (fun H1 hz9 hk9 => ⟨⟨hz9, hk9⟩, Or.inr (Or.inl (⟨rfl, by omega⟩))⟩)
set_option maxHeartbeats 4000000 in
set_option maxRecDepth 100000 in
theorem k_setQuiet (l : Launch) (D : va_G) (ks : Nat → ClassId) (bx : Nat) (ml : Nat → Nat) (X : Nat → Nat → Int) (H : Heap) (hP : PX D ks bx ml X H) (hV : VX X) (hst : l.stackTraces = false) (u v2 u3 : Int) (hu : -2147483648 ≤ u ∧ u < 2147483648) (hv2 : -2147483648 ≤ v2 ∧ v2 < 2147483648) (hu3 : -2147483648 ≤ u3 ∧ u3 < 2147483648) : KM l yX4_setQuiet wsX4_setQuiet ({ frames := 8, cells := 2, slots := 12, locals := 132 } : Room) D ks bx [.ref bx, .int (z2 u), .int (z2 v2), .int (z2 u3)] H (RX bx) (fun v H1 => ∃ n : Nat, ((u = n ∧ n < 8) ∧ (0 ≤ v2 ∧ v2 < 1000 ∧ 0 ≤ u3 ∧ u3 < 1000)) ∧ v = some (.int (z2 (if 0 < qS (up (up X 15 n v2) 16 n u3) n ((up (up X 15 n v2) 16 n u3) 6 0) ((up (up X 15 n v2) 16 n u3) 6 0 + 1) then 1 else 0))) ∧ PX D ks bx ml (up (up X 15 n v2) 16 n u3) H1) (fun E H1 => TX H H1 ∧ ((E = "java/lang/IndexOutOfBoundsException" ∧ (¬ (0 ≤ u ∧ u < 8))) ∨ (E = "java/lang/IllegalArgumentException" ∧ ((0 ≤ u ∧ u < 8) ∧ ¬ (0 ≤ v2 ∧ v2 < 1000 ∧ 0 ≤ u3 ∧ u3 < 1000))))) := by
  refine KM.of (cc := cX4_setQuiet) (maxL := 5) (ret := (some .boolean)) (by decide) rfl (Nat.le_of_ble_eq_true rfl) ?_
  intro p e s m below meth c hx hb hml hr hlocks hown hname hts hext hH0 hG ls hl
  subst hH0
  have hown : s.vm.findClass RX4 = some m.cls := hown
  have hS : va_S (AR (RX bx) s.heap.size) s.heap s.heap [] := va_S.rf
  have hl : lv_has ls 5 [(0, .ref bx), (1, .int (z2 (u))), (2, .int (z2 (v2))), (3, .int (z2 (u3)))] := hl
  have inX2 : ∀ w ∈ wsX20, w ∈ wsX4_setQuiet := by decide +kernel
  have inX4 : ∀ w ∈ wsX40, w ∈ wsX4_setQuiet := by decide +kernel
  have hw1 : ∀ w ∈ (vx_atS RX4 52 "java/lang/IllegalArgumentException" nm2).filter goodWord, w ∈ wsX4_setQuiet := by decide +kernel
  have hbx : bx ≤ s.heap.size := Nat.le_of_lt (ca.lt hP.1)
  refine lv_aload_n hx hb dX4_setQuiet_0 rfl (lv_at hl 0 rfl) ?_
  refine lv_iload_n hx hb dX4_setQuiet_1 rfl (lv_at hl 1 rfl) ?_
  refine g_run (vx_runV (As := [.int (z2 (u))]) (rest := []) ⟨hx, hb, hml, hown, hts⟩ (k_houseAt l D ks bx ml X _ hP hV hst (u) (by omega)) (cwV 1 hts gX4_setQuiet_X4_houseAt rfl rfl rfl (by decide +kernel) ⟨Nat.le_of_ble_eq_true rfl, Nat.le_of_ble_eq_true rfl⟩) (g_preV (r := (RX4, TX4, 7)) hG hS rx_ge hP.1 rfl) rfl rfl hl.1 rfl (lv_room (Nat.le_of_ble_eq_true rfl)) dX4_setQuiet_2 ⟨Nat.le_of_ble_eq_true rfl, Nat.le_of_ble_eq_true rfl⟩) hS (fun _ h => h) (fun E ce q9 H1 locs1 hp hz9 hk9 hS hce hcv hcl => g_out hext hlocks hS hce hcv hcl ⟨Nat.le_of_ble_eq_true rfl, Nat.le_of_ble_eq_true rfl⟩ (by obtain ⟨t9, e9, c9⟩ := hp; exact ⟨t9, Or.inl (⟨e9, by omega⟩)⟩)) (fun v H1 locs hp hz9 hk9 hS => ?_)
  obtain ⟨n, ⟨en_2, hn⟩, rfl, hH9⟩ := hp
  obtain rfl := hH9.symm
  refine W.eq (g2 := F0 m 5 ls [.ref (bx + 5 + 6 * n)]) rfl ?_
  refine lv_astore (lv' := [(4, .ref (bx + 5 + 6 * n)), (0, .ref bx), (1, .int (z2 (u))), (2, .int (z2 (v2))), (3, .int (z2 (u3)))]) hx hb dX4_setQuiet_5 hl (by decide) rfl (fun ls hl => ?_)
  refine lv_iload_n hx hb dX4_setQuiet_7 rfl (lv_at hl 3 rfl) ?_
  refine b_if_lt (tgt := 29) hx hb dX4_setQuiet_8 (by decide) ⟨by omega, by omega⟩ (fun c_8 => ?_) (fun c_8 => ?_)
  · skip
    exact g_throw hx hb hst hts hown hG (by decide +kernel) (List.mem_of_getElem? (i := 10) rfl) (by decide +kernel) (by decide +kernel) hw1 thr_ng1 (List.mem_of_getElem? (i := 29) rfl) thr_go1 hS rx_ge hbx (hl.1.trans hml.symm) dX4_setQuiet_29 dX4_setQuiet_32 dX4_setQuiet_33 dX4_setQuiet_35 dX4_setQuiet_38 hext ⟨Nat.le_of_ble_eq_true rfl, Nat.le_of_ble_eq_true rfl, Nat.le_of_ble_eq_true rfl, Nat.le_of_ble_eq_true rfl⟩ hlocks ⟨Nat.le_of_ble_eq_true rfl, Nat.le_of_ble_eq_true rfl⟩ (fun H1 hz9 hk9 => ⟨⟨hz9, hk9⟩, Or.inr (⟨rfl, by omega⟩)⟩)
  · skip
    refine lv_iload_n hx hb dX4_setQuiet_11 rfl (lv_at hl 3 rfl) ?_
    refine b_sipush hx hb dX4_setQuiet_12 (by decide +kernel) ?_
    refine b_icmp_ge (tgt := 29) hx hb dX4_setQuiet_15 (by decide) ⟨⟨by omega, by omega⟩, ⟨by omega, by omega⟩⟩ (fun c_15 => ?_) (fun c_15 => ?_)
    · skip
      exact g_throw hx hb hst hts hown hG (by decide +kernel) (List.mem_of_getElem? (i := 10) rfl) (by decide +kernel) (by decide +kernel) hw1 thr_ng1 (List.mem_of_getElem? (i := 29) rfl) thr_go1 hS rx_ge hbx (hl.1.trans hml.symm) dX4_setQuiet_29 dX4_setQuiet_32 dX4_setQuiet_33 dX4_setQuiet_35 dX4_setQuiet_38 hext ⟨Nat.le_of_ble_eq_true rfl, Nat.le_of_ble_eq_true rfl, Nat.le_of_ble_eq_true rfl, Nat.le_of_ble_eq_true rfl⟩ hlocks ⟨Nat.le_of_ble_eq_true rfl, Nat.le_of_ble_eq_true rfl⟩ (fun H1 hz9 hk9 => ⟨⟨hz9, hk9⟩, Or.inr (⟨rfl, by omega⟩)⟩)
    · skip
      refine lv_iload_n hx hb dX4_setQuiet_18 rfl (lv_at hl 4 rfl) ?_
      refine b_if_lt (tgt := 29) hx hb dX4_setQuiet_19 (by decide) ⟨by omega, by omega⟩ (fun c_19 => ?_) (fun c_19 => ?_)
      · skip
        exact g_throw hx hb hst hts hown hG (by decide +kernel) (List.mem_of_getElem? (i := 10) rfl) (by decide +kernel) (by decide +kernel) hw1 thr_ng1 (List.mem_of_getElem? (i := 29) rfl) thr_go1 hS rx_ge hbx (hl.1.trans hml.symm) dX4_setQuiet_29 dX4_setQuiet_32 dX4_setQuiet_33 dX4_setQuiet_35 dX4_setQuiet_38 hext ⟨Nat.le_of_ble_eq_true rfl, Nat.le_of_ble_eq_true rfl, Nat.le_of_ble_eq_true rfl, Nat.le_of_ble_eq_true rfl⟩ hlocks ⟨Nat.le_of_ble_eq_true rfl, Nat.le_of_ble_eq_true rfl⟩ (fun H1 hz9 hk9 => ⟨⟨hz9, hk9⟩, Or.inr (⟨rfl, by omega⟩)⟩)
      · skip
        refine lv_iload_n hx hb dX4_setQuiet_22 rfl (lv_at hl 4 rfl) ?_
        refine b_sipush hx hb dX4_setQuiet_23 (by decide +kernel) ?_
        refine b_icmp_lt (tgt := 39) hx hb dX4_setQuiet_26 (by decide) ⟨⟨by omega, by omega⟩, ⟨by omega, by omega⟩⟩ (fun c_26 => ?_) (fun c_26 => ?_)
        · skip
          refine lv_aload hx hb dX4_setQuiet_39 (lv_at hl 0 rfl) ?_
          refine lv_iload_n hx hb dX4_setQuiet_41 rfl (lv_at hl 3 rfl) ?_
          refine g_putN (C := RX2) (T := TX2) (N := 13) hx hb hts inX2 tyX2 tyX2_ok nmX2 hown hG hS (hP.hs hn) (Or.inl ⟨by omega, by omega⟩) rfl 5 (by decide) (List.mem_of_getElem? (i := 2) rfl) rfl rfl (v := .int (z2 (v2))) rfl rfl (Nat.le_of_ble_eq_true rfl) dX4_setQuiet_42 (fun H locs he hz oq hS => ?_)
          have hP : PX D ks bx ml (up X 15 n (v2)) H := hP.house (k := 5) hn ⟨by decide, by decide⟩ he oq
          refine lv_aload hx hb dX4_setQuiet_45 (lv_at hl 0 rfl) ?_
          refine lv_iload_n hx hb dX4_setQuiet_47 rfl (lv_at hl 4 rfl) ?_
          refine g_putN (C := RX2) (T := TX2) (N := 13) hx hb hts inX2 tyX2 tyX2_ok nmX2 hown hG hS (hP.hs hn) (Or.inl ⟨by omega, by omega⟩) rfl 6 (by decide) (List.mem_of_getElem? (i := 3) rfl) rfl rfl (v := .int (z2 (u3))) rfl rfl (Nat.le_of_ble_eq_true rfl) dX4_setQuiet_48 (fun H locs he hz oq hS => ?_)
          have hP : PX D ks bx ml (up (up X 15 n (v2)) 16 n (u3)) H := hP.house (k := 6) hn ⟨by decide, by decide⟩ he oq
          have hV : VX (up (up X 15 n v2) 16 n u3) := vx_up (vx_up hV (by decide) (fun _ => by show 0 ≤ v2 ∧ v2 ≤ (999 : Int); omega)) (by decide) (fun _ => by show 0 ≤ u3 ∧ u3 ≤ (999 : Int); omega)
          refine lv_aload hx hb dX4_setQuiet_51 (lv_at hl 0 rfl) ?_
          refine lv_aload_n hx hb dX4_setQuiet_53 rfl (lv_at hl 1 rfl) ?_
          have b_54 : 0 ≤ (up (up X 15 n (v2)) 16 n (u3)) 6 0 ∧ (up (up X 15 n (v2)) 16 n (u3)) 6 0 ≤ 1000000 := hV.1 6 _ rfl
          refine g_get (C := RX4) (T := TX4) (N := 7) hx hb hts inX4 hown hG hP.1 rfl 6 (by decide) (by decide +kernel) rfl (v := .int (z2 ((up (up X 15 n (v2)) 16 n (u3)) 6 0))) rfl dX4_setQuiet_54 ?_
          refine g_run (vx_runV (As := [.int (z2 ((up (up X 15 n (v2)) 16 n (u3)) 6 0))]) (rest := []) ⟨hx, hb, hml, hown, hts⟩ (k_isQuietAt l D ks bx ml (up (up X 15 n (v2)) 16 n (u3)) _ hP hV hn ((up (up X 15 n (v2)) 16 n (u3)) 6 0) ⟨by omega, by omega⟩) (cwV 1 hts gX4_setQuiet_X2_isQuietAt rfl rfl rfl (by decide +kernel) ⟨Nat.le_of_ble_eq_true rfl, Nat.le_of_ble_eq_true rfl⟩) (g_preV (r := (RX2, TX2, 13)) hG hS rx_ge (hP.hs hn) rfl) rfl rfl hl.1 rfl (lv_room (Nat.le_of_ble_eq_true rfl)) dX4_setQuiet_57 ⟨Nat.le_of_ble_eq_true rfl, Nat.le_of_ble_eq_true rfl⟩) hS (fun _ h => h) (fun _ _ _ _ _ h => h.elim) (fun v H1 locs hp hz9 hk9 hS => ?_)
          obtain ⟨rfl, hH9⟩ := hp
          obtain rfl := hH9.symm
          obtain ⟨qv, eqv, qb_57⟩ : ∃ z : Int, z = (if 0 < qS (up (up X 15 n (v2)) 16 n (u3)) n ((up (up X 15 n (v2)) 16 n (u3)) 6 0) ((up (up X 15 n (v2)) 16 n (u3)) 6 0 + 1) then 1 else 0) ∧ ((0 < qS (up (up X 15 n (v2)) 16 n (u3)) n ((up (up X 15 n (v2)) 16 n (u3)) 6 0) ((up (up X 15 n (v2)) 16 n (u3)) 6 0 + 1) ∧ z = 1) ∨ (¬ 0 < qS (up (up X 15 n (v2)) 16 n (u3)) n ((up (up X 15 n (v2)) 16 n (u3)) 6 0) ((up (up X 15 n (v2)) 16 n (u3)) 6 0 + 1) ∧ z = 0)) := ⟨_, rfl, by split <;> omega⟩
          rw [← eqv]
          refine W.eq (g2 := F0 m 60 ls [.int (z2 (qv))]) rfl ?_
          have zn9 : narrow .boolean (.int (z2 qv)) = .int (z2 qv) := by rcases (show qv = 1 ∨ qv = 0 by omega) with q | q <;> (rw [q]; decide +kernel)
          exact g_zret hx hb hr hlocks hS zn9 ⟨Nat.le_of_ble_eq_true rfl, Nat.le_of_ble_eq_true rfl⟩ (⟨n, by omega, congrArg (fun z => some (Value.int (z2 z))) eqv, hP⟩) dX4_setQuiet_60
        · skip
          exact g_throw hx hb hst hts hown hG (by decide +kernel) (List.mem_of_getElem? (i := 10) rfl) (by decide +kernel) (by decide +kernel) hw1 thr_ng1 (List.mem_of_getElem? (i := 29) rfl) thr_go1 hS rx_ge hbx (hl.1.trans hml.symm) dX4_setQuiet_29 dX4_setQuiet_32 dX4_setQuiet_33 dX4_setQuiet_35 dX4_setQuiet_38 hext ⟨Nat.le_of_ble_eq_true rfl, Nat.le_of_ble_eq_true rfl, Nat.le_of_ble_eq_true rfl, Nat.le_of_ble_eq_true rfl⟩ hlocks ⟨Nat.le_of_ble_eq_true rfl, Nat.le_of_ble_eq_true rfl⟩ (fun H1 hz9 hk9 => ⟨⟨hz9, hk9⟩, Or.inr (⟨rfl, by omega⟩)⟩)
set_option maxHeartbeats 4000000 in
set_option maxRecDepth 100000 in
theorem k_lay (l : Launch) (D : va_G) (ks : Nat → ClassId) (bx : Nat) (ml : Nat → Nat) (X : Nat → Nat → Int) (H : Heap) (hP : PX D ks bx ml X H) (hV : VX X) (hst : l.stackTraces = false) (u v2 u3 u4 : Int) (hu : -2147483648 ≤ u ∧ u < 2147483648) (hv2 : -2147483648 ≤ v2 ∧ v2 < 2147483648) (hu3 : -2147483648 ≤ u3 ∧ u3 < 2147483648) (hu4 : -2147483648 ≤ u4 ∧ u4 < 2147483648) : KM l yX4_lay wsX4_lay ({ frames := 9, cells := 4, slots := 24, locals := 155 } : Room) D ks bx [.ref bx, .int (z2 u), .int (z2 v2), .int (z2 u3), .int (z2 u4)] H (RX bx) (fun v H1 => ∃ n b : Nat, ((u = n ∧ n < 8) ∧ (v2 = b ∧ b < 3) ∧ (u3 = -1 ∨ (0 ≤ u3 ∧ u3 < X 4 0)) ∧ 1 ≤ u4 ∧ u4 ≤ 9) ∧ v = some (.int (z2 (X 30 (3 * n + b)))) ∧ PX D ks bx ml (up (up (up X 30 (3 * n + b) u3) 31 (3 * n + b) u4) 32 (3 * n + b) 0) H1) (fun E H1 => TX H H1 ∧ ((E = "java/lang/IndexOutOfBoundsException" ∧ (¬ ((0 ≤ u ∧ u < 8) ∧ (0 ≤ v2 ∧ v2 < 3) ∧ (u3 = -1 ∨ (0 ≤ u3 ∧ u3 < X 4 0))))) ∨ (E = "java/lang/IllegalArgumentException" ∧ (((0 ≤ u ∧ u < 8) ∧ (0 ≤ v2 ∧ v2 < 3) ∧ (u3 = -1 ∨ (0 ≤ u3 ∧ u3 < X 4 0))) ∧ ¬ (1 ≤ u4 ∧ u4 ≤ 9))))) := by
  refine KM.of (cc := cX4_lay) (maxL := 8) (ret := (some .int)) (by decide) rfl (Nat.le_of_ble_eq_true rfl) ?_
  intro p e s m below meth c hx hb hml hr hlocks hown hname hts hext hH0 hG ls hl
  subst hH0
  have hown : s.vm.findClass RX4 = some m.cls := hown
  have hS : va_S (AR (RX bx) s.heap.size) s.heap s.heap [] := va_S.rf
  have hl : lv_has ls 8 [(0, .ref bx), (1, .int (z2 (u))), (2, .int (z2 (v2))), (3, .int (z2 (u3))), (4, .int (z2 (u4)))] := hl
  have inX0 : ∀ w ∈ wsX00, w ∈ wsX4_lay := by decide +kernel
  have inX3 : ∀ w ∈ wsX30, w ∈ wsX4_lay := by decide +kernel
  have hw1 : ∀ w ∈ (vx_atS RX4 52 "java/lang/IllegalArgumentException" nm2).filter goodWord, w ∈ wsX4_lay := by decide +kernel
  have hbx : bx ≤ s.heap.size := Nat.le_of_lt (ca.lt hP.1)
  have b4 : 0 ≤ X 4 0 ∧ X 4 0 ≤ 12 := hV.1 4 0 rfl
  refine lv_aload_n hx hb dX4_lay_0 rfl (lv_at hl 0 rfl) ?_
  refine lv_iload_n hx hb dX4_lay_1 rfl (lv_at hl 1 rfl) ?_
  refine lv_iload_n hx hb dX4_lay_2 rfl (lv_at hl 2 rfl) ?_
  refine g_run (vx_runV (As := [.int (z2 (u)), .int (z2 (v2))]) (rest := []) ⟨hx, hb, hml, hown, hts⟩ (k_bellAt l D ks bx ml X _ hP hV hst (u) (v2) (by omega) (by omega)) (cwV 2 hts gX4_lay_X4_bellAt rfl rfl rfl (by decide +kernel) ⟨Nat.le_of_ble_eq_true rfl, Nat.le_of_ble_eq_true rfl⟩) (g_preV (r := (RX4, TX4, 7)) hG hS rx_ge hP.1 rfl) rfl rfl hl.1 rfl (lv_room (Nat.le_of_ble_eq_true rfl)) dX4_lay_3 ⟨Nat.le_of_ble_eq_true rfl, Nat.le_of_ble_eq_true rfl⟩) hS (fun _ h => h) (fun E ce q9 H1 locs1 hp hz9 hk9 hS hce hcv hcl => g_out hext hlocks hS hce hcv hcl ⟨Nat.le_of_ble_eq_true rfl, Nat.le_of_ble_eq_true rfl⟩ (by obtain ⟨t9, e9, c9⟩ := hp; exact ⟨t9, Or.inl (⟨e9, by omega⟩)⟩)) (fun v H1 locs hp hz9 hk9 hS => ?_)
  obtain ⟨n, b, ⟨⟨en_3, hn⟩, eb_3, hb2⟩, rfl, hH9⟩ := hp
  obtain rfl := hH9.symm
  refine W.eq (g2 := F0 m 6 ls [.ref (bx + 5 + 6 * n + 3 + b)]) rfl ?_
  refine lv_astore (lv' := [(5, .ref (bx + 5 + 6 * n + 3 + b)), (0, .ref bx), (1, .int (z2 (u))), (2, .int (z2 (v2))), (3, .int (z2 (u3))), (4, .int (z2 (u4)))]) hx hb dX4_lay_6 hl (by decide) rfl (fun ls hl => ?_)
  refine lv_iload_n hx hb dX4_lay_8 rfl (lv_at hl 4 rfl) ?_
  refine b_iconst hx hb dX4_lay_9 ?_
  refine b_icmp_ne (tgt := 17) hx hb dX4_lay_10 (by decide) ⟨⟨by omega, by omega⟩, ⟨by omega, by omega⟩⟩ (fun c_10 => ?_) (fun c_10 => ?_)
  · skip
    refine lv_aload_n hx hb dX4_lay_17 rfl (lv_at hl 1 rfl) ?_
    refine lv_iload_n hx hb dX4_lay_18 rfl (lv_at hl 4 rfl) ?_
    refine g_run (vx_runV (As := [.int (z2 (u3))]) (rest := []) ⟨hx, hb, hml, hown, hts⟩ (k_melodyAt l D ks bx ml X _ hP hV hst (u3) (by omega)) (cwV 1 hts gX4_lay_X4_melodyAt rfl rfl rfl (by decide +kernel) ⟨Nat.le_of_ble_eq_true rfl, Nat.le_of_ble_eq_true rfl⟩) (g_preV (r := (RX4, TX4, 7)) hG hS rx_ge hP.1 rfl) rfl rfl hl.1 rfl (lv_room (Nat.le_of_ble_eq_true rfl)) dX4_lay_19 ⟨Nat.le_of_ble_eq_true rfl, Nat.le_of_ble_eq_true rfl⟩) hS (fun _ h => h) (fun E ce q9 H1 locs1 hp hz9 hk9 hS hce hcv hcl => g_out hext hlocks hS hce hcv hcl ⟨Nat.le_of_ble_eq_true rfl, Nat.le_of_ble_eq_true rfl⟩ (by obtain ⟨t9, e9, c9⟩ := hp; exact ⟨t9, Or.inl (⟨e9, by omega⟩)⟩)) (fun v H1 locs hp hz9 hk9 hS => ?_)
    obtain ⟨k, ⟨ek_19, hk⟩, rfl, hH9⟩ := hp
    obtain rfl := hH9.symm
    refine W.eq (g2 := F0 m 22 ls [.ref (ml k)]) rfl ?_
    refine lv_astore (lv' := [(6, .ref (ml k)), (5, .ref (bx + 5 + 6 * n + 3 + b)), (0, .ref bx), (1, .int (z2 (u))), (2, .int (z2 (v2))), (3, .int (z2 (u3))), (4, .int (z2 (u4)))]) hx hb dX4_lay_22 hl (by decide) rfl (fun ls hl => ?_)
    refine lv_iload hx hb dX4_lay_24 (lv_at hl 6 rfl) ?_
    refine b_iconst hx hb dX4_lay_26 ?_
    refine b_icmp_lt (tgt := 37) hx hb dX4_lay_27 (by decide) ⟨⟨by omega, by omega⟩, ⟨by omega, by omega⟩⟩ (fun c_27 => ?_) (fun c_27 => ?_)
    · skip
      exact g_throw hx hb hst hts hown hG (by decide +kernel) (List.mem_of_getElem? (i := 12) rfl) (by decide +kernel) (by decide +kernel) hw1 thr_ng1 (List.mem_of_getElem? (i := 29) rfl) thr_go1 hS rx_ge hbx (hl.1.trans hml.symm) dX4_lay_37 dX4_lay_40 dX4_lay_41 dX4_lay_43 dX4_lay_46 hext ⟨Nat.le_of_ble_eq_true rfl, Nat.le_of_ble_eq_true rfl, Nat.le_of_ble_eq_true rfl, Nat.le_of_ble_eq_true rfl⟩ hlocks ⟨Nat.le_of_ble_eq_true rfl, Nat.le_of_ble_eq_true rfl⟩ (fun H1 hz9 hk9 => ⟨⟨hz9, hk9⟩, Or.inr (⟨rfl, by omega⟩)⟩)
    · skip
      refine lv_iload hx hb dX4_lay_30 (lv_at hl 6 rfl) ?_
      refine b_bipush hx hb dX4_lay_32 (by decide +kernel) ?_
      refine b_icmp_le (tgt := 47) hx hb dX4_lay_34 (by decide) ⟨⟨by omega, by omega⟩, ⟨by omega, by omega⟩⟩ (fun c_34 => ?_) (fun c_34 => ?_)
      · skip
        refine lv_aload hx hb dX4_lay_47 (lv_at hl 1 rfl) ?_
        have b_49 : -1 ≤ X 30 (3 * n + b) ∧ X 30 (3 * n + b) ≤ 11 := hV.1 30 _ rfl
        have b4_49 := hV.2.1 (3 * n + b)
        refine g_getN (C := RX0) (T := TX0) (N := 4) hx hb hts inX0 hown hG (hP.be hn hb2) rfl 0 (by decide) (List.mem_of_getElem? (i := 4) rfl) rfl (v := va_rf (mo ml (X 30 (3 * n + b)))) rfl dX4_lay_49 ?_
        refine g_mo b_49.1 (fun c_49 => ?_) (fun k49 c_49 => ?_)
        · skip
          refine lv_astoreN (lv' := [(7, .null), (6, .ref (ml k)), (5, .ref (bx + 5 + 6 * n + 3 + b)), (0, .ref bx), (1, .int (z2 (u))), (2, .int (z2 (v2))), (3, .int (z2 (u3))), (4, .int (z2 (u4)))]) hx hb dX4_lay_52 hl (by decide) rfl (fun ls hl => ?_)
          refine lv_aload hx hb dX4_lay_54 (lv_at hl 2 rfl) ?_
          refine lv_aload hx hb dX4_lay_56 (lv_at hl 1 rfl) ?_
          refine W.eq (g2 := F0 m 58 ls (va_rf (mo ml (((k : Nat) : Int))) :: .ref (bx + 5 + 6 * n + 3 + b) :: [])) rfl ?_
          refine g_putN (C := RX0) (T := TX0) (N := 4) hx hb hts inX0 tyX0 tyX0_ok nmX0 hown hG hS (hP.be hn hb2) (Or.inl ⟨by omega, by omega⟩) rfl 0 (by decide) (List.mem_of_getElem? (i := 4) rfl) rfl rfl (v := va_rf (mo ml (((k : Nat) : Int)))) (by cases mo ml _ <;> rfl) (by cases mo ml _ <;> rfl) (Nat.le_of_ble_eq_true rfl) dX4_lay_58 (fun H locs he hz oq hS => ?_)
          have hP : PX D ks bx ml (up X 30 (3 * n + b) (((k : Nat) : Int))) H := hP.bellM hn hb2 he oq
          refine lv_aload hx hb dX4_lay_61 (lv_at hl 2 rfl) ?_
          refine lv_iload hx hb dX4_lay_63 (lv_at hl 7 rfl) ?_
          refine g_putN (C := RX0) (T := TX0) (N := 4) hx hb hts inX0 tyX0 tyX0_ok nmX0 hown hG hS (hP.be hn hb2) (Or.inl ⟨by omega, by omega⟩) rfl 1 (by decide) (List.mem_of_getElem? (i := 5) rfl) rfl rfl (v := .int (z2 (u4))) rfl rfl (Nat.le_of_ble_eq_true rfl) dX4_lay_65 (fun H locs he hz oq hS => ?_)
          have hP : PX D ks bx ml (up (up X 30 (3 * n + b) (((k : Nat) : Int))) 31 (3 * n + b) (u4)) H := hP.bell (k := 1) hn hb2 ⟨by decide, by decide⟩ he oq
          refine lv_aload hx hb dX4_lay_68 (lv_at hl 2 rfl) ?_
          refine b_iconst hx hb dX4_lay_70 ?_
          refine g_putN (C := RX0) (T := TX0) (N := 4) hx hb hts inX0 tyX0 tyX0_ok nmX0 hown hG hS (hP.be hn hb2) (Or.inl ⟨by omega, by omega⟩) rfl 2 (by decide) (List.mem_of_getElem? (i := 6) rfl) rfl rfl (v := .int (z2 (0))) (by decide +kernel) (by decide +kernel) (Nat.le_of_ble_eq_true rfl) dX4_lay_71 (fun H locs he hz oq hS => ?_)
          have hP : PX D ks bx ml (up (up (up X 30 (3 * n + b) (((k : Nat) : Int))) 31 (3 * n + b) (u4)) 32 (3 * n + b) (0)) H := hP.bell (k := 2) hn hb2 ⟨by decide, by decide⟩ he oq
          refine lv_aloadN hx hb dX4_lay_74 (lv_at hl 0 rfl) ?_
          refine lv_ifnonnullN hx hb dX4_lay_76 ?_
          refine b_iconst hx hb dX4_lay_79 ?_
          refine lv_goto (tgt := 88) hx hb dX4_lay_80 (by decide) ?_
          have e3 : X 30 (3 * n + b) = (-1) := by omega
          have e9 : up (up (up X 30 (3 * n + b) (((k : Nat) : Int))) 31 (3 * n + b) (u4)) 32 (3 * n + b) (0) = (up (up (up X 30 (3 * n + b) u3) 31 (3 * n + b) u4) 32 (3 * n + b) 0) := by first | rfl | (rw [show u3 = -1 by assumption]) | (rw [ek_19])
          exact g_iret hx hb hr hlocks hS ⟨Nat.le_of_ble_eq_true rfl, Nat.le_of_ble_eq_true rfl⟩ (⟨n, b, by omega, congrArg (fun z => some (Value.int (z2 z))) e3.symm, by rw [← e9]; exact hP⟩) dX4_lay_88
        · skip
          have hk49 : (k49 : Int) < X 4 0 := by omega
          refine lv_astore (lv' := [(7, .ref (ml k49)), (6, .ref (ml k)), (5, .ref (bx + 5 + 6 * n + 3 + b)), (0, .ref bx), (1, .int (z2 (u))), (2, .int (z2 (v2))), (3, .int (z2 (u3))), (4, .int (z2 (u4)))]) hx hb dX4_lay_52 hl (by decide) rfl (fun ls hl => ?_)
          refine lv_aload hx hb dX4_lay_54 (lv_at hl 2 rfl) ?_
          refine lv_aload hx hb dX4_lay_56 (lv_at hl 1 rfl) ?_
          refine W.eq (g2 := F0 m 58 ls (va_rf (mo ml (((k : Nat) : Int))) :: .ref (bx + 5 + 6 * n + 3 + b) :: [])) rfl ?_
          refine g_putN (C := RX0) (T := TX0) (N := 4) hx hb hts inX0 tyX0 tyX0_ok nmX0 hown hG hS (hP.be hn hb2) (Or.inl ⟨by omega, by omega⟩) rfl 0 (by decide) (List.mem_of_getElem? (i := 4) rfl) rfl rfl (v := va_rf (mo ml (((k : Nat) : Int)))) (by cases mo ml _ <;> rfl) (by cases mo ml _ <;> rfl) (Nat.le_of_ble_eq_true rfl) dX4_lay_58 (fun H locs he hz oq hS => ?_)
          have hP : PX D ks bx ml (up X 30 (3 * n + b) (((k : Nat) : Int))) H := hP.bellM hn hb2 he oq
          refine lv_aload hx hb dX4_lay_61 (lv_at hl 2 rfl) ?_
          refine lv_iload hx hb dX4_lay_63 (lv_at hl 7 rfl) ?_
          refine g_putN (C := RX0) (T := TX0) (N := 4) hx hb hts inX0 tyX0 tyX0_ok nmX0 hown hG hS (hP.be hn hb2) (Or.inl ⟨by omega, by omega⟩) rfl 1 (by decide) (List.mem_of_getElem? (i := 5) rfl) rfl rfl (v := .int (z2 (u4))) rfl rfl (Nat.le_of_ble_eq_true rfl) dX4_lay_65 (fun H locs he hz oq hS => ?_)
          have hP : PX D ks bx ml (up (up X 30 (3 * n + b) (((k : Nat) : Int))) 31 (3 * n + b) (u4)) H := hP.bell (k := 1) hn hb2 ⟨by decide, by decide⟩ he oq
          refine lv_aload hx hb dX4_lay_68 (lv_at hl 2 rfl) ?_
          refine b_iconst hx hb dX4_lay_70 ?_
          refine g_putN (C := RX0) (T := TX0) (N := 4) hx hb hts inX0 tyX0 tyX0_ok nmX0 hown hG hS (hP.be hn hb2) (Or.inl ⟨by omega, by omega⟩) rfl 2 (by decide) (List.mem_of_getElem? (i := 6) rfl) rfl rfl (v := .int (z2 (0))) (by decide +kernel) (by decide +kernel) (Nat.le_of_ble_eq_true rfl) dX4_lay_71 (fun H locs he hz oq hS => ?_)
          have hP : PX D ks bx ml (up (up (up X 30 (3 * n + b) (((k : Nat) : Int))) 31 (3 * n + b) (u4)) 32 (3 * n + b) (0)) H := hP.bell (k := 2) hn hb2 ⟨by decide, by decide⟩ he oq
          refine lv_aload hx hb dX4_lay_74 (lv_at hl 0 rfl) ?_
          refine lv_ifnonnull (tgt := 83) hx hb dX4_lay_76 (by decide) ?_
          refine lv_aload hx hb dX4_lay_83 (lv_at hl 0 rfl) ?_
          refine g_getN (C := RX3) (T := TX3) (N := 4) hx hb hts inX3 hown hG (hP.me hk49) rfl 0 (by decide) (List.mem_of_getElem? (i := 7) rfl) rfl (v := .int (z2 (((k49 : Nat) : Int)))) rfl dX4_lay_85 ?_
          have e3 : X 30 (3 * n + b) = ((k49 : Nat) : Int) := by omega
          have e9 : up (up (up X 30 (3 * n + b) (((k : Nat) : Int))) 31 (3 * n + b) (u4)) 32 (3 * n + b) (0) = (up (up (up X 30 (3 * n + b) u3) 31 (3 * n + b) u4) 32 (3 * n + b) 0) := by first | rfl | (rw [show u3 = -1 by assumption]) | (rw [ek_19])
          exact g_iret hx hb hr hlocks hS ⟨Nat.le_of_ble_eq_true rfl, Nat.le_of_ble_eq_true rfl⟩ (⟨n, b, by omega, congrArg (fun z => some (Value.int (z2 z))) e3.symm, by rw [← e9]; exact hP⟩) dX4_lay_88
      · skip
        exact g_throw hx hb hst hts hown hG (by decide +kernel) (List.mem_of_getElem? (i := 12) rfl) (by decide +kernel) (by decide +kernel) hw1 thr_ng1 (List.mem_of_getElem? (i := 29) rfl) thr_go1 hS rx_ge hbx (hl.1.trans hml.symm) dX4_lay_37 dX4_lay_40 dX4_lay_41 dX4_lay_43 dX4_lay_46 hext ⟨Nat.le_of_ble_eq_true rfl, Nat.le_of_ble_eq_true rfl, Nat.le_of_ble_eq_true rfl, Nat.le_of_ble_eq_true rfl⟩ hlocks ⟨Nat.le_of_ble_eq_true rfl, Nat.le_of_ble_eq_true rfl⟩ (fun H1 hz9 hk9 => ⟨⟨hz9, hk9⟩, Or.inr (⟨rfl, by omega⟩)⟩)
  · skip
    refine lv_null hx hb dX4_lay_13 ?_
    refine lv_goto (tgt := 22) hx hb dX4_lay_14 (by decide) ?_
    refine lv_astoreN (lv' := [(6, .null), (5, .ref (bx + 5 + 6 * n + 3 + b)), (0, .ref bx), (1, .int (z2 (u))), (2, .int (z2 (v2))), (3, .int (z2 (u3))), (4, .int (z2 (u4)))]) hx hb dX4_lay_22 hl (by decide) rfl (fun ls hl => ?_)
    refine lv_iload hx hb dX4_lay_24 (lv_at hl 6 rfl) ?_
    refine b_iconst hx hb dX4_lay_26 ?_
    refine b_icmp_lt (tgt := 37) hx hb dX4_lay_27 (by decide) ⟨⟨by omega, by omega⟩, ⟨by omega, by omega⟩⟩ (fun c_27 => ?_) (fun c_27 => ?_)
    · skip
      exact g_throw hx hb hst hts hown hG (by decide +kernel) (List.mem_of_getElem? (i := 12) rfl) (by decide +kernel) (by decide +kernel) hw1 thr_ng1 (List.mem_of_getElem? (i := 29) rfl) thr_go1 hS rx_ge hbx (hl.1.trans hml.symm) dX4_lay_37 dX4_lay_40 dX4_lay_41 dX4_lay_43 dX4_lay_46 hext ⟨Nat.le_of_ble_eq_true rfl, Nat.le_of_ble_eq_true rfl, Nat.le_of_ble_eq_true rfl, Nat.le_of_ble_eq_true rfl⟩ hlocks ⟨Nat.le_of_ble_eq_true rfl, Nat.le_of_ble_eq_true rfl⟩ (fun H1 hz9 hk9 => ⟨⟨hz9, hk9⟩, Or.inr (⟨rfl, by omega⟩)⟩)
    · skip
      refine lv_iload hx hb dX4_lay_30 (lv_at hl 6 rfl) ?_
      refine b_bipush hx hb dX4_lay_32 (by decide +kernel) ?_
      refine b_icmp_le (tgt := 47) hx hb dX4_lay_34 (by decide) ⟨⟨by omega, by omega⟩, ⟨by omega, by omega⟩⟩ (fun c_34 => ?_) (fun c_34 => ?_)
      · skip
        refine lv_aload hx hb dX4_lay_47 (lv_at hl 1 rfl) ?_
        have b_49 : -1 ≤ X 30 (3 * n + b) ∧ X 30 (3 * n + b) ≤ 11 := hV.1 30 _ rfl
        have b4_49 := hV.2.1 (3 * n + b)
        refine g_getN (C := RX0) (T := TX0) (N := 4) hx hb hts inX0 hown hG (hP.be hn hb2) rfl 0 (by decide) (List.mem_of_getElem? (i := 4) rfl) rfl (v := va_rf (mo ml (X 30 (3 * n + b)))) rfl dX4_lay_49 ?_
        refine g_mo b_49.1 (fun c_49 => ?_) (fun k49 c_49 => ?_)
        · skip
          refine lv_astoreN (lv' := [(7, .null), (6, .null), (5, .ref (bx + 5 + 6 * n + 3 + b)), (0, .ref bx), (1, .int (z2 (u))), (2, .int (z2 (v2))), (3, .int (z2 (u3))), (4, .int (z2 (u4)))]) hx hb dX4_lay_52 hl (by decide) rfl (fun ls hl => ?_)
          refine lv_aload hx hb dX4_lay_54 (lv_at hl 2 rfl) ?_
          refine lv_aloadN hx hb dX4_lay_56 (lv_at hl 1 rfl) ?_
          refine W.eq (g2 := F0 m 58 ls (va_rf (mo ml (-1)) :: .ref (bx + 5 + 6 * n + 3 + b) :: [])) rfl ?_
          refine g_putN (C := RX0) (T := TX0) (N := 4) hx hb hts inX0 tyX0 tyX0_ok nmX0 hown hG hS (hP.be hn hb2) (Or.inl ⟨by omega, by omega⟩) rfl 0 (by decide) (List.mem_of_getElem? (i := 4) rfl) rfl rfl (v := va_rf (mo ml (-1))) (by cases mo ml _ <;> rfl) (by cases mo ml _ <;> rfl) (Nat.le_of_ble_eq_true rfl) dX4_lay_58 (fun H locs he hz oq hS => ?_)
          have hP : PX D ks bx ml (up X 30 (3 * n + b) ((-1))) H := hP.bellM hn hb2 he oq
          refine lv_aload hx hb dX4_lay_61 (lv_at hl 2 rfl) ?_
          refine lv_iload hx hb dX4_lay_63 (lv_at hl 7 rfl) ?_
          refine g_putN (C := RX0) (T := TX0) (N := 4) hx hb hts inX0 tyX0 tyX0_ok nmX0 hown hG hS (hP.be hn hb2) (Or.inl ⟨by omega, by omega⟩) rfl 1 (by decide) (List.mem_of_getElem? (i := 5) rfl) rfl rfl (v := .int (z2 (u4))) rfl rfl (Nat.le_of_ble_eq_true rfl) dX4_lay_65 (fun H locs he hz oq hS => ?_)
          have hP : PX D ks bx ml (up (up X 30 (3 * n + b) ((-1))) 31 (3 * n + b) (u4)) H := hP.bell (k := 1) hn hb2 ⟨by decide, by decide⟩ he oq
          refine lv_aload hx hb dX4_lay_68 (lv_at hl 2 rfl) ?_
          refine b_iconst hx hb dX4_lay_70 ?_
          refine g_putN (C := RX0) (T := TX0) (N := 4) hx hb hts inX0 tyX0 tyX0_ok nmX0 hown hG hS (hP.be hn hb2) (Or.inl ⟨by omega, by omega⟩) rfl 2 (by decide) (List.mem_of_getElem? (i := 6) rfl) rfl rfl (v := .int (z2 (0))) (by decide +kernel) (by decide +kernel) (Nat.le_of_ble_eq_true rfl) dX4_lay_71 (fun H locs he hz oq hS => ?_)
          have hP : PX D ks bx ml (up (up (up X 30 (3 * n + b) ((-1))) 31 (3 * n + b) (u4)) 32 (3 * n + b) (0)) H := hP.bell (k := 2) hn hb2 ⟨by decide, by decide⟩ he oq
          refine lv_aloadN hx hb dX4_lay_74 (lv_at hl 0 rfl) ?_
          refine lv_ifnonnullN hx hb dX4_lay_76 ?_
          refine b_iconst hx hb dX4_lay_79 ?_
          refine lv_goto (tgt := 88) hx hb dX4_lay_80 (by decide) ?_
          have e3 : X 30 (3 * n + b) = (-1) := by omega
          have e9 : up (up (up X 30 (3 * n + b) ((-1))) 31 (3 * n + b) (u4)) 32 (3 * n + b) (0) = (up (up (up X 30 (3 * n + b) u3) 31 (3 * n + b) u4) 32 (3 * n + b) 0) := by first | rfl | (rw [show u3 = -1 by assumption]) | (rw [ek_19])
          exact g_iret hx hb hr hlocks hS ⟨Nat.le_of_ble_eq_true rfl, Nat.le_of_ble_eq_true rfl⟩ (⟨n, b, by omega, congrArg (fun z => some (Value.int (z2 z))) e3.symm, by rw [← e9]; exact hP⟩) dX4_lay_88
        · skip
          have hk49 : (k49 : Int) < X 4 0 := by omega
          refine lv_astore (lv' := [(7, .ref (ml k49)), (6, .null), (5, .ref (bx + 5 + 6 * n + 3 + b)), (0, .ref bx), (1, .int (z2 (u))), (2, .int (z2 (v2))), (3, .int (z2 (u3))), (4, .int (z2 (u4)))]) hx hb dX4_lay_52 hl (by decide) rfl (fun ls hl => ?_)
          refine lv_aload hx hb dX4_lay_54 (lv_at hl 2 rfl) ?_
          refine lv_aloadN hx hb dX4_lay_56 (lv_at hl 1 rfl) ?_
          refine W.eq (g2 := F0 m 58 ls (va_rf (mo ml (-1)) :: .ref (bx + 5 + 6 * n + 3 + b) :: [])) rfl ?_
          refine g_putN (C := RX0) (T := TX0) (N := 4) hx hb hts inX0 tyX0 tyX0_ok nmX0 hown hG hS (hP.be hn hb2) (Or.inl ⟨by omega, by omega⟩) rfl 0 (by decide) (List.mem_of_getElem? (i := 4) rfl) rfl rfl (v := va_rf (mo ml (-1))) (by cases mo ml _ <;> rfl) (by cases mo ml _ <;> rfl) (Nat.le_of_ble_eq_true rfl) dX4_lay_58 (fun H locs he hz oq hS => ?_)
          have hP : PX D ks bx ml (up X 30 (3 * n + b) ((-1))) H := hP.bellM hn hb2 he oq
          refine lv_aload hx hb dX4_lay_61 (lv_at hl 2 rfl) ?_
          refine lv_iload hx hb dX4_lay_63 (lv_at hl 7 rfl) ?_
          refine g_putN (C := RX0) (T := TX0) (N := 4) hx hb hts inX0 tyX0 tyX0_ok nmX0 hown hG hS (hP.be hn hb2) (Or.inl ⟨by omega, by omega⟩) rfl 1 (by decide) (List.mem_of_getElem? (i := 5) rfl) rfl rfl (v := .int (z2 (u4))) rfl rfl (Nat.le_of_ble_eq_true rfl) dX4_lay_65 (fun H locs he hz oq hS => ?_)
          have hP : PX D ks bx ml (up (up X 30 (3 * n + b) ((-1))) 31 (3 * n + b) (u4)) H := hP.bell (k := 1) hn hb2 ⟨by decide, by decide⟩ he oq
          refine lv_aload hx hb dX4_lay_68 (lv_at hl 2 rfl) ?_
          refine b_iconst hx hb dX4_lay_70 ?_
          refine g_putN (C := RX0) (T := TX0) (N := 4) hx hb hts inX0 tyX0 tyX0_ok nmX0 hown hG hS (hP.be hn hb2) (Or.inl ⟨by omega, by omega⟩) rfl 2 (by decide) (List.mem_of_getElem? (i := 6) rfl) rfl rfl (v := .int (z2 (0))) (by decide +kernel) (by decide +kernel) (Nat.le_of_ble_eq_true rfl) dX4_lay_71 (fun H locs he hz oq hS => ?_)
          have hP : PX D ks bx ml (up (up (up X 30 (3 * n + b) ((-1))) 31 (3 * n + b) (u4)) 32 (3 * n + b) (0)) H := hP.bell (k := 2) hn hb2 ⟨by decide, by decide⟩ he oq
          refine lv_aload hx hb dX4_lay_74 (lv_at hl 0 rfl) ?_
          refine lv_ifnonnull (tgt := 83) hx hb dX4_lay_76 (by decide) ?_
          refine lv_aload hx hb dX4_lay_83 (lv_at hl 0 rfl) ?_
          refine g_getN (C := RX3) (T := TX3) (N := 4) hx hb hts inX3 hown hG (hP.me hk49) rfl 0 (by decide) (List.mem_of_getElem? (i := 7) rfl) rfl (v := .int (z2 (((k49 : Nat) : Int)))) rfl dX4_lay_85 ?_
          have e3 : X 30 (3 * n + b) = ((k49 : Nat) : Int) := by omega
          have e9 : up (up (up X 30 (3 * n + b) ((-1))) 31 (3 * n + b) (u4)) 32 (3 * n + b) (0) = (up (up (up X 30 (3 * n + b) u3) 31 (3 * n + b) u4) 32 (3 * n + b) 0) := by first | rfl | (rw [show u3 = -1 by assumption]) | (rw [ek_19])
          exact g_iret hx hb hr hlocks hS ⟨Nat.le_of_ble_eq_true rfl, Nat.le_of_ble_eq_true rfl⟩ (⟨n, b, by omega, congrArg (fun z => some (Value.int (z2 z))) e3.symm, by rw [← e9]; exact hP⟩) dX4_lay_88
      · skip
        exact g_throw hx hb hst hts hown hG (by decide +kernel) (List.mem_of_getElem? (i := 12) rfl) (by decide +kernel) (by decide +kernel) hw1 thr_ng1 (List.mem_of_getElem? (i := 29) rfl) thr_go1 hS rx_ge hbx (hl.1.trans hml.symm) dX4_lay_37 dX4_lay_40 dX4_lay_41 dX4_lay_43 dX4_lay_46 hext ⟨Nat.le_of_ble_eq_true rfl, Nat.le_of_ble_eq_true rfl, Nat.le_of_ble_eq_true rfl, Nat.le_of_ble_eq_true rfl⟩ hlocks ⟨Nat.le_of_ble_eq_true rfl, Nat.le_of_ble_eq_true rfl⟩ (fun H1 hz9 hk9 => ⟨⟨hz9, hk9⟩, Or.inr (⟨rfl, by omega⟩)⟩)
set_option maxHeartbeats 4000000 in
set_option maxRecDepth 100000 in
theorem k_press (l : Launch) (D : va_G) (ks : Nat → ClassId) (bx : Nat) (ml : Nat → Nat) (X : Nat → Nat → Int) (H : Heap) (hP : PX D ks bx ml X H) (hV : VX X) (hst : l.stackTraces = false) (u v2 : Int) (hu : -2147483648 ≤ u ∧ u < 2147483648) (hv2 : -2147483648 ≤ v2 ∧ v2 < 2147483648) : KM l yX4_press wsX4_press ({ frames := 9, cells := 4, slots := 24, locals := 155 } : Room) D ks bx [.ref bx, .int (z2 u), .int (z2 v2)] H (RX bx) (fun v H1 => ∃ n b k : Nat, ((u = n ∧ n < 8) ∧ (v2 = b ∧ b < 3) ∧ X 30 (3 * n + b) = k) ∧ v = some (.int (z2 (prV X n b k))) ∧ PX D ks bx ml (prX X n b k) H1) (fun E H1 => TX H H1 ∧ ((E = "java/lang/IndexOutOfBoundsException" ∧ (¬ ((0 ≤ u ∧ u < 8) ∧ 0 ≤ v2 ∧ v2 < 3))) ∨ (E = "java/lang/IllegalStateException" ∧ (∃ n b : Nat, (u = n ∧ n < 8) ∧ (v2 = b ∧ b < 3) ∧ X 30 (3 * n + b) = -1)))) := by
  refine KM.of (cc := cX4_press) (maxL := 6) (ret := (some .int)) (by decide) rfl (Nat.le_of_ble_eq_true rfl) ?_
  intro p e s m below meth c hx hb hml hr hlocks hown hname hts hext hH0 hG ls hl
  subst hH0
  have hown : s.vm.findClass RX4 = some m.cls := hown
  have hS : va_S (AR (RX bx) s.heap.size) s.heap s.heap [] := va_S.rf
  have hl : lv_has ls 6 [(0, .ref bx), (1, .int (z2 (u))), (2, .int (z2 (v2)))] := hl
  have inX0 : ∀ w ∈ wsX00, w ∈ wsX4_press := by decide +kernel
  have inX2 : ∀ w ∈ wsX20, w ∈ wsX4_press := by decide +kernel
  have inX4 : ∀ w ∈ wsX40, w ∈ wsX4_press := by decide +kernel
  have hw2 : ∀ w ∈ (vx_atS RX4 61 "java/lang/IllegalStateException" nm2).filter goodWord, w ∈ wsX4_press := by decide +kernel
  have hbx : bx ≤ s.heap.size := Nat.le_of_lt (ca.lt hP.1)
  have b4 : 0 ≤ X 4 0 ∧ X 4 0 ≤ 12 := hV.1 4 0 rfl
  have b37 : ∀ q : Nat, 1 ≤ X 37 q ∧ X 37 q ≤ 12 := fun q => hV.1 37 q rfl
  refine lv_aload_n hx hb dX4_press_0 rfl (lv_at hl 0 rfl) ?_
  refine lv_iload_n hx hb dX4_press_1 rfl (lv_at hl 1 rfl) ?_
  refine g_run (vx_runV (As := [.int (z2 (u))]) (rest := []) ⟨hx, hb, hml, hown, hts⟩ (k_houseAt l D ks bx ml X _ hP hV hst (u) (by omega)) (cwV 1 hts gX4_press_X4_houseAt rfl rfl rfl (by decide +kernel) ⟨Nat.le_of_ble_eq_true rfl, Nat.le_of_ble_eq_true rfl⟩) (g_preV (r := (RX4, TX4, 7)) hG hS rx_ge hP.1 rfl) rfl rfl hl.1 rfl (lv_room (Nat.le_of_ble_eq_true rfl)) dX4_press_2 ⟨Nat.le_of_ble_eq_true rfl, Nat.le_of_ble_eq_true rfl⟩) hS (fun _ h => h) (fun E ce q9 H1 locs1 hp hz9 hk9 hS hce hcv hcl => g_out hext hlocks hS hce hcv hcl ⟨Nat.le_of_ble_eq_true rfl, Nat.le_of_ble_eq_true rfl⟩ (by obtain ⟨t9, e9, c9⟩ := hp; exact ⟨t9, Or.inl (⟨e9, by omega⟩)⟩)) (fun v H1 locs hp hz9 hk9 hS => ?_)
  obtain ⟨n, ⟨en_2, hn⟩, rfl, hH9⟩ := hp
  obtain rfl := hH9.symm
  refine W.eq (g2 := F0 m 5 ls [.ref (bx + 5 + 6 * n)]) rfl ?_
  refine lv_astore_n (lv' := [(3, .ref (bx + 5 + 6 * n)), (0, .ref bx), (1, .int (z2 (u))), (2, .int (z2 (v2)))]) hx hb dX4_press_5 rfl hl (by decide) rfl (fun ls hl => ?_)
  refine lv_aload_n hx hb dX4_press_6 rfl (lv_at hl 1 rfl) ?_
  refine lv_iload_n hx hb dX4_press_7 rfl (lv_at hl 2 rfl) ?_
  refine lv_iload_n hx hb dX4_press_8 rfl (lv_at hl 3 rfl) ?_
  refine g_run (vx_runV (As := [.int (z2 (u)), .int (z2 (v2))]) (rest := []) ⟨hx, hb, hml, hown, hts⟩ (k_bellAt l D ks bx ml X _ hP hV hst (u) (v2) (by omega) (by omega)) (cwV 2 hts gX4_press_X4_bellAt rfl rfl rfl (by decide +kernel) ⟨Nat.le_of_ble_eq_true rfl, Nat.le_of_ble_eq_true rfl⟩) (g_preV (r := (RX4, TX4, 7)) hG hS rx_ge hP.1 rfl) rfl rfl hl.1 rfl (lv_room (Nat.le_of_ble_eq_true rfl)) dX4_press_9 ⟨Nat.le_of_ble_eq_true rfl, Nat.le_of_ble_eq_true rfl⟩) hS (fun _ h => h) (fun E ce q9 H1 locs1 hp hz9 hk9 hS hce hcv hcl => g_out hext hlocks hS hce hcv hcl ⟨Nat.le_of_ble_eq_true rfl, Nat.le_of_ble_eq_true rfl⟩ (by obtain ⟨t9, e9, c9⟩ := hp; exact ⟨t9, Or.inl (⟨e9, by omega⟩)⟩)) (fun v H1 locs hp hz9 hk9 hS => ?_)
  obtain ⟨n9, b, ⟨⟨en_9, hn9⟩, eb_9, hb2⟩, rfl, hH9⟩ := hp
  obtain rfl := hH9.symm
  obtain rfl : n = n9 := by omega
  refine W.eq (g2 := F0 m 12 ls [.ref (bx + 5 + 6 * n + 3 + b)]) rfl ?_
  refine lv_astore (lv' := [(4, .ref (bx + 5 + 6 * n + 3 + b)), (3, .ref (bx + 5 + 6 * n)), (0, .ref bx), (1, .int (z2 (u))), (2, .int (z2 (v2)))]) hx hb dX4_press_12 hl (by decide) rfl (fun ls hl => ?_)
  refine lv_aload hx hb dX4_press_14 (lv_at hl 0 rfl) ?_
  have b_16 : -1 ≤ X 30 (3 * n + b) ∧ X 30 (3 * n + b) ≤ 11 := hV.1 30 _ rfl
  have b4_16 := hV.2.1 (3 * n + b)
  refine g_getN (C := RX0) (T := TX0) (N := 4) hx hb hts inX0 hown hG (hP.be hn hb2) rfl 0 (by decide) (List.mem_of_getElem? (i := 4) rfl) rfl (v := va_rf (mo ml (X 30 (3 * n + b)))) rfl dX4_press_16 ?_
  refine g_mo b_16.1 (fun c_16 => ?_) (fun k16 c_16 => ?_)
  · skip
    refine lv_astoreN (lv' := [(5, .null), (4, .ref (bx + 5 + 6 * n + 3 + b)), (3, .ref (bx + 5 + 6 * n)), (0, .ref bx), (1, .int (z2 (u))), (2, .int (z2 (v2)))]) hx hb dX4_press_19 hl (by decide) rfl (fun ls hl => ?_)
    refine lv_aloadN hx hb dX4_press_21 (lv_at hl 0 rfl) ?_
    refine lv_ifnonnullN hx hb dX4_press_23 ?_
    exact g_throw hx hb hst hts hown hG (by decide +kernel) (List.mem_of_getElem? (i := 13) rfl) (by decide +kernel) (by decide +kernel) hw2 thr_ng2 (List.mem_of_getElem? (i := 30) rfl) thr_go2 hS rx_ge hbx (hl.1.trans hml.symm) dX4_press_26 dX4_press_29 dX4_press_30 dX4_press_32 dX4_press_35 hext ⟨Nat.le_of_ble_eq_true rfl, Nat.le_of_ble_eq_true rfl, Nat.le_of_ble_eq_true rfl, Nat.le_of_ble_eq_true rfl⟩ hlocks ⟨Nat.le_of_ble_eq_true rfl, Nat.le_of_ble_eq_true rfl⟩ (fun H1 hz9 hk9 => ⟨⟨hz9, hk9⟩, Or.inr (⟨rfl, ⟨n, b, by omega⟩⟩)⟩)
  · skip
    have hk16 : (k16 : Int) < X 4 0 := by omega
    refine lv_astore (lv' := [(5, .ref (ml k16)), (4, .ref (bx + 5 + 6 * n + 3 + b)), (3, .ref (bx + 5 + 6 * n)), (0, .ref bx), (1, .int (z2 (u))), (2, .int (z2 (v2)))]) hx hb dX4_press_19 hl (by decide) rfl (fun ls hl => ?_)
    refine lv_aload hx hb dX4_press_21 (lv_at hl 0 rfl) ?_
    refine lv_ifnonnull (tgt := 36) hx hb dX4_press_23 (by decide) ?_
    refine lv_aload_n hx hb dX4_press_36 rfl (lv_at hl 2 rfl) ?_
    have b_37 : 0 ≤ X 14 n ∧ X 14 n ≤ 1 := hV.1 14 _ rfl
    refine g_getN (C := RX2) (T := TX2) (N := 13) hx hb hts inX2 hown hG (hP.hs hn) rfl 4 (by decide) (List.mem_of_getElem? (i := 8) rfl) rfl (v := .int (z2 (X 14 n))) rfl dX4_press_37 ?_
    refine b_if_eq (tgt := 51) hx hb dX4_press_40 (by decide) ⟨by omega, by omega⟩ (fun c_40 => ?_) (fun c_40 => ?_)
    · skip
      refine b_iconst hx hb dX4_press_51 ?_
      have e9 : prX X n b k16 = X := by
        unfold prX
        (repeat' split) <;> first | rfl | omega
      exact g_iret hx hb hr hlocks hS ⟨Nat.le_of_ble_eq_true rfl, Nat.le_of_ble_eq_true rfl⟩ (⟨n, b, k16, by omega, congrArg (fun z => some (Value.int (z2 z))) (by unfold prV; (repeat' split) <;> omega), by rw [e9]; exact hP⟩) dX4_press_52
    · skip
      refine lv_aload hx hb dX4_press_43 (lv_at hl 1 rfl) ?_
      have b_45 : 0 ≤ X 32 (3 * n + b) ∧ X 32 (3 * n + b) ≤ 1 := hV.1 32 _ rfl
      refine g_getN (C := RX0) (T := TX0) (N := 4) hx hb hts inX0 hown hG (hP.be hn hb2) rfl 2 (by decide) (List.mem_of_getElem? (i := 6) rfl) rfl (v := .int (z2 (X 32 (3 * n + b)))) rfl dX4_press_45 ?_
      refine b_if_eq (tgt := 53) hx hb dX4_press_48 (by decide) ⟨by omega, by omega⟩ (fun c_48 => ?_) (fun c_48 => ?_)
      · skip
        refine lv_aload_n hx hb dX4_press_53 rfl (lv_at hl 2 rfl) ?_
        refine lv_aload_n hx hb dX4_press_54 rfl (lv_at hl 3 rfl) ?_
        have b_55 : 0 ≤ X 6 0 ∧ X 6 0 ≤ 1000000 := hV.1 6 _ rfl
        refine g_get (C := RX4) (T := TX4) (N := 7) hx hb hts inX4 hown hG hP.1 rfl 6 (by decide) (by decide +kernel) rfl (v := .int (z2 (X 6 0))) rfl dX4_press_55 ?_
        refine g_run (vx_runV (As := [.int (z2 (X 6 0))]) (rest := []) ⟨hx, hb, hml, hown, hts⟩ (k_isQuietAt l D ks bx ml X _ hP hV hn (X 6 0) ⟨by omega, by omega⟩) (cwV 1 hts gX4_press_X2_isQuietAt rfl rfl rfl (by decide +kernel) ⟨Nat.le_of_ble_eq_true rfl, Nat.le_of_ble_eq_true rfl⟩) (g_preV (r := (RX2, TX2, 13)) hG hS rx_ge (hP.hs hn) rfl) rfl rfl hl.1 rfl (lv_room (Nat.le_of_ble_eq_true rfl)) dX4_press_58 ⟨Nat.le_of_ble_eq_true rfl, Nat.le_of_ble_eq_true rfl⟩) hS (fun _ h => h) (fun _ _ _ _ _ h => h.elim) (fun v H1 locs hp hz9 hk9 hS => ?_)
        obtain ⟨rfl, hH9⟩ := hp
        obtain rfl := hH9.symm
        obtain ⟨qv, eqv, qb_58⟩ : ∃ z : Int, z = (if 0 < qS X n (X 6 0) (X 6 0 + 1) then 1 else 0) ∧ ((0 < qS X n (X 6 0) (X 6 0 + 1) ∧ z = 1) ∨ (¬ 0 < qS X n (X 6 0) (X 6 0 + 1) ∧ z = 0)) := ⟨_, rfl, by split <;> omega⟩
        rw [← eqv]
        refine W.eq (g2 := F0 m 61 ls [.int (z2 (qv))]) rfl ?_
        refine b_if_eq (tgt := 76) hx hb dX4_press_61 (by decide) ⟨by omega, by omega⟩ (fun c_61 => ?_) (fun c_61 => ?_)
        · skip
          refine lv_aload_n hx hb dX4_press_76 rfl (lv_at hl 2 rfl) ?_
          refine lv_aload hx hb dX4_press_77 (lv_at hl 0 rfl) ?_
          refine g_run (vx_runV (As := [.ref (ml k16)]) (rest := []) ⟨hx, hb, hml, hown, hts⟩ (k_mayRing l D ks bx ml X _ hP hV hn hk16) (cwV 1 hts gX4_press_X2_mayRing rfl rfl rfl (by decide +kernel) ⟨Nat.le_of_ble_eq_true rfl, Nat.le_of_ble_eq_true rfl⟩) (g_preV (r := (RX2, TX2, 13)) hG hS rx_ge (hP.hs hn) rfl) rfl rfl hl.1 rfl (lv_room (Nat.le_of_ble_eq_true rfl)) dX4_press_79 ⟨Nat.le_of_ble_eq_true rfl, Nat.le_of_ble_eq_true rfl⟩) hS (fun _ h => h) (fun _ _ _ _ _ h => h.elim) (fun v H1 locs hp hz9 hk9 hS => ?_)
          obtain ⟨rfl, hH9⟩ := hp
          obtain rfl := hH9.symm
          have mb_79 := mrS_b X n k16
          refine W.eq (g2 := F0 m 82 ls [.int (z2 (mrS X n k16))]) rfl ?_
          refine b_if_ne (tgt := 87) hx hb dX4_press_82 (by decide) ⟨by omega, by omega⟩ (fun c_82 => ?_) (fun c_82 => ?_)
          · skip
            refine lv_aload_n hx hb dX4_press_87 rfl (lv_at hl 2 rfl) ?_
            refine g_run (vx_runV (As := []) (rest := []) ⟨hx, hb, hml, hown, hts⟩ (k_ringingLoad l D ks bx ml X _ hP hV hn) (cwV 0 hts gX4_press_X2_ringingLoad rfl rfl rfl (by decide +kernel) ⟨Nat.le_of_ble_eq_true rfl, Nat.le_of_ble_eq_true rfl⟩) (g_preV (r := (RX2, TX2, 13)) hG hS rx_ge (hP.hs hn) rfl) rfl rfl hl.1 rfl (lv_room (Nat.le_of_ble_eq_true rfl)) dX4_press_88 ⟨Nat.le_of_ble_eq_true rfl, Nat.le_of_ble_eq_true rfl⟩) hS (fun _ h => h) (fun _ _ _ _ _ h => h.elim) (fun v H1 locs hp hz9 hk9 hS => ?_)
            obtain ⟨rfl, hH9⟩ := hp
            obtain rfl := hH9.symm
            have lb_88 := rlS_b (X := X) hV n
            refine W.eq (g2 := F0 m 91 ls [.int (z2 (rlS X n))]) rfl ?_
            refine lv_aload hx hb dX4_press_91 (lv_at hl 1 rfl) ?_
            have b_93 : 1 ≤ X 31 (3 * n + b) ∧ X 31 (3 * n + b) ≤ 9 := hV.1 31 _ rfl
            refine g_getN (C := RX0) (T := TX0) (N := 4) hx hb hts inX0 hown hG (hP.be hn hb2) rfl 1 (by decide) (List.mem_of_getElem? (i := 5) rfl) rfl (v := .int (z2 (X 31 (3 * n + b)))) rfl dX4_press_93 ?_
            refine b_iadd hx hb dX4_press_96 ?_
            refine b_bipush hx hb dX4_press_97 (by decide +kernel) ?_
            refine b_icmp_le (tgt := 108) hx hb dX4_press_99 (by decide) ⟨⟨by omega, by omega⟩, ⟨by omega, by omega⟩⟩ (fun c_99 => ?_) (fun c_99 => ?_)
            · skip
              refine lv_aload_n hx hb dX4_press_108 rfl (lv_at hl 2 rfl) ?_
              refine lv_aload hx hb dX4_press_109 (lv_at hl 0 rfl) ?_
              refine g_run (vx_runV (As := [.ref (ml k16)]) (rest := []) ⟨hx, hb, hml, hown, hts⟩ (k_useRight l D ks bx ml X _ hP hV hn hk16) (cwV 1 hts gX4_press_X2_useRight rfl rfl rfl (by decide +kernel) ⟨Nat.le_of_ble_eq_true rfl, Nat.le_of_ble_eq_true rfl⟩) (g_preV (r := (RX2, TX2, 13)) hG hS rx_ge (hP.hs hn) rfl) rfl rfl hl.1 rfl (lv_room (Nat.le_of_ble_eq_true rfl)) dX4_press_111 ⟨Nat.le_of_ble_eq_true rfl, Nat.le_of_ble_eq_true rfl⟩) hS (fun _ h => h) (fun _ _ _ _ _ h => h.elim) (fun v H1 locs hp hz9 hk9 hS => ?_)
              obtain ⟨rfl, hP⟩ := hp
              have hV : VX (urS X n k16) := vx_ur hV (mr_of (by omega))
              have hk16 : (k16 : Int) < (urS X n k16) 4 0 := by rw [urS_f _ _ _ (by decide)]; exact hk16
              refine W.eq (g2 := F0 m 114 ls []) rfl ?_
              refine lv_aload hx hb dX4_press_114 (lv_at hl 1 rfl) ?_
              refine lv_aload_n hx hb dX4_press_116 rfl (lv_at hl 3 rfl) ?_
              have b_117 : 0 ≤ ((urS X n k16)) 6 0 ∧ ((urS X n k16)) 6 0 ≤ 1000000 := hV.1 6 _ rfl
              refine g_get (C := RX4) (T := TX4) (N := 7) hx hb hts inX4 hown hG hP.1 rfl 6 (by decide) (by decide +kernel) rfl (v := .int (z2 (((urS X n k16)) 6 0))) rfl dX4_press_117 ?_
              refine lv_aload hx hb dX4_press_120 (lv_at hl 0 rfl) ?_
              refine g_run (vx_runV (As := []) (rest := [.int (z2 (((urS X n k16)) 6 0)), .ref (bx + 5 + 6 * n + 3 + b)]) ⟨hx, hb, hml, hown, hts⟩ (k_lasts l D ks bx ml (urS X n k16) _ hP hV hk16) (cwV 0 hts gX4_press_X3_lasts rfl rfl rfl (by decide +kernel) ⟨Nat.le_of_ble_eq_true rfl, Nat.le_of_ble_eq_true rfl⟩) (g_preV (r := (RX3, TX3, 4)) hG hS rx_ge (hP.me hk16) rfl) rfl rfl hl.1 rfl (lv_room (Nat.le_of_ble_eq_true rfl)) dX4_press_122 ⟨Nat.le_of_ble_eq_true rfl, Nat.le_of_ble_eq_true rfl⟩) hS (fun _ h => h) (fun _ _ _ _ _ h => h.elim) (fun v H1 locs hp hz9 hk9 hS => ?_)
              obtain ⟨rfl, hH9⟩ := hp
              obtain rfl := hH9.symm
              have ls_122 : 1 ≤ (urS X n k16) 37 k16 ∧ (urS X n k16) 37 k16 ≤ 12 := hV.1 37 _ rfl
              refine W.eq (g2 := F0 m 125 ls [.int (z2 (2 * (urS X n k16) 37 k16)), .int (z2 (((urS X n k16)) 6 0)), .ref (bx + 5 + 6 * n + 3 + b)]) rfl ?_
              refine b_iadd hx hb dX4_press_125 ?_
              refine g_run (vx_runV (As := [.int (z2 ((((urS X n k16)) 6 0) + (2 * (urS X n k16) 37 k16)))]) (rest := []) ⟨hx, hb, hml, hown, hts⟩ (k_ringUntil l D ks bx ml (urS X n k16) _ hP hV hn hb2 ((((urS X n k16)) 6 0) + (2 * (urS X n k16) 37 k16))) (cwV 1 hts gX4_press_X0_ringUntil rfl rfl rfl (by decide +kernel) ⟨Nat.le_of_ble_eq_true rfl, Nat.le_of_ble_eq_true rfl⟩) (g_preV (r := (RX0, TX0, 4)) hG hS rx_ge (hP.be hn hb2) rfl) rfl rfl hl.1 rfl (lv_room (Nat.le_of_ble_eq_true rfl)) dX4_press_126 ⟨Nat.le_of_ble_eq_true rfl, Nat.le_of_ble_eq_true rfl⟩) hS (fun _ h => h) (fun _ _ _ _ _ h => h.elim) (fun v H1 locs hp hz9 hk9 hS => ?_)
              obtain ⟨rfl, hP⟩ := hp
              refine W.eq (g2 := F0 m 129 ls []) rfl ?_
              refine b_iconst hx hb dX4_press_129 ?_
              have e9 : prX X n b k16 = ruS (urS X n k16) (3 * n + b) ((((urS X n k16)) 6 0) + (2 * (urS X n k16) 37 k16)) := by
                unfold prX
                (repeat' split) <;> first | rfl | omega
              exact g_iret hx hb hr hlocks hS ⟨Nat.le_of_ble_eq_true rfl, Nat.le_of_ble_eq_true rfl⟩ (⟨n, b, k16, by omega, congrArg (fun z => some (Value.int (z2 z))) (by unfold prV; (repeat' split) <;> omega), by rw [e9]; exact hP⟩) dX4_press_130
            · skip
              refine lv_aload_n hx hb dX4_press_102 rfl (lv_at hl 2 rfl) ?_
              refine g_run (vx_runV (As := []) (rest := []) ⟨hx, hb, hml, hown, hts⟩ (k_breakDown l D ks bx ml X _ hP hV hn) (cwV 0 hts gX4_press_X2_breakDown rfl rfl rfl (by decide +kernel) ⟨Nat.le_of_ble_eq_true rfl, Nat.le_of_ble_eq_true rfl⟩) (g_preV (r := (RX2, TX2, 13)) hG hS rx_ge (hP.hs hn) rfl) rfl rfl hl.1 rfl (lv_room (Nat.le_of_ble_eq_true rfl)) dX4_press_103 ⟨Nat.le_of_ble_eq_true rfl, Nat.le_of_ble_eq_true rfl⟩) hS (fun _ h => h) (fun _ _ _ _ _ h => h.elim) (fun v H1 locs hp hz9 hk9 hS => ?_)
              obtain ⟨rfl, hP⟩ := hp
              refine W.eq (g2 := F0 m 106 ls []) rfl ?_
              refine b_iconst hx hb dX4_press_106 ?_
              have e9 : prX X n b k16 = bdS X n := by
                unfold prX
                (repeat' split) <;> first | rfl | omega
              exact g_iret hx hb hr hlocks hS ⟨Nat.le_of_ble_eq_true rfl, Nat.le_of_ble_eq_true rfl⟩ (⟨n, b, k16, by omega, congrArg (fun z => some (Value.int (z2 z))) (by unfold prV; (repeat' split) <;> omega), by rw [e9]; exact hP⟩) dX4_press_107
          · skip
            refine b_iconst hx hb dX4_press_85 ?_
            have e9 : prX X n b k16 = X := by
              unfold prX
              (repeat' split) <;> first | rfl | omega
            exact g_iret hx hb hr hlocks hS ⟨Nat.le_of_ble_eq_true rfl, Nat.le_of_ble_eq_true rfl⟩ (⟨n, b, k16, by omega, congrArg (fun z => some (Value.int (z2 z))) (by unfold prV; (repeat' split) <;> omega), by rw [e9]; exact hP⟩) dX4_press_86
        · skip
          refine lv_aload_n hx hb dX4_press_64 rfl (lv_at hl 2 rfl) ?_
          refine lv_dup hx hb dX4_press_65 rfl ?_
          refine g_getN (C := RX2) (T := TX2) (N := 13) hx hb hts inX2 hown hG (hP.hs hn) rfl 10 (by decide) (List.mem_of_getElem? (i := 9) rfl) rfl (v := .int (z2 (X 20 n))) rfl dX4_press_66 ?_
          refine b_iconst hx hb dX4_press_69 ?_
          refine b_iadd hx hb dX4_press_70 ?_
          refine g_putN (C := RX2) (T := TX2) (N := 13) hx hb hts inX2 tyX2 tyX2_ok nmX2 hown hG hS (hP.hs hn) (Or.inl ⟨by omega, by omega⟩) rfl 10 (by decide) (List.mem_of_getElem? (i := 9) rfl) rfl rfl (v := .int (z2 ((X 20 n) + 1))) rfl rfl (Nat.le_of_ble_eq_true rfl) dX4_press_71 (fun H locs he hz oq hS => ?_)
          have hP : PX D ks bx ml (up X 20 n ((X 20 n) + 1)) H := hP.house (k := 10) hn ⟨by decide, by decide⟩ he oq
          refine b_iconst hx hb dX4_press_74 ?_
          have e9 : prX X n b k16 = up X 20 n ((X 20 n) + 1) := by
            unfold prX
            (repeat' split) <;> first | rfl | omega
          exact g_iret hx hb hr hlocks hS ⟨Nat.le_of_ble_eq_true rfl, Nat.le_of_ble_eq_true rfl⟩ (⟨n, b, k16, by omega, congrArg (fun z => some (Value.int (z2 z))) (by unfold prV; (repeat' split) <;> omega), by rw [e9]; exact hP⟩) dX4_press_75
      · skip
        refine b_iconst hx hb dX4_press_51 ?_
        have e9 : prX X n b k16 = X := by
          unfold prX
          (repeat' split) <;> first | rfl | omega
        exact g_iret hx hb hr hlocks hS ⟨Nat.le_of_ble_eq_true rfl, Nat.le_of_ble_eq_true rfl⟩ (⟨n, b, k16, by omega, congrArg (fun z => some (Value.int (z2 z))) (by unfold prV; (repeat' split) <;> omega), by rw [e9]; exact hP⟩) dX4_press_52
set_option maxHeartbeats 4000000 in
set_option maxRecDepth 100000 in
theorem k_fault (l : Launch) (D : va_G) (ks : Nat → ClassId) (bx : Nat) (ml : Nat → Nat) (X : Nat → Nat → Int) (H : Heap) (hP : PX D ks bx ml X H) (hV : VX X) (hst : l.stackTraces = false) (u : Int) (hu : -2147483648 ≤ u ∧ u < 2147483648) : KM l yX4_fault wsX4_fault ({ frames := 8, cells := 3, slots := 18, locals := 132 } : Room) D ks bx [.ref bx, .int (z2 u)] H (RX bx) (fun v H1 => ∃ n : Nat, ((u = n ∧ n < 8) ∧ X 14 n ≠ 0 ∧ X 5 0 < 100) ∧ v = some (.int (z2 (faN X n 8))) ∧ PX D ks bx ml (faR X n u) H1) (fun E H1 => TX H H1 ∧ ((E = "java/lang/IndexOutOfBoundsException" ∧ (¬ (0 ≤ u ∧ u < 8))) ∨ (E = "java/lang/IllegalStateException" ∧ (∃ n : Nat, (u = n ∧ n < 8) ∧ (X 14 n = 0 ∨ 100 ≤ X 5 0))))) := by
  refine KM.of (cc := cX4_fault) (maxL := 8) (ret := (some .int)) (by decide) rfl (Nat.le_of_ble_eq_true rfl) ?_
  intro p e s m below meth c hx hb hml hr hlocks hown hname hts hext hH0 hG ls hl
  subst hH0
  have hown : s.vm.findClass RX4 = some m.cls := hown
  have hS : va_S (AR (RX bx) s.heap.size) s.heap s.heap [] := va_S.rf
  have hl : lv_has ls 8 [(0, .ref bx), (1, .int (z2 (u)))] := hl
  have inX2 : ∀ w ∈ wsX20, w ∈ wsX4_fault := by decide +kernel
  have inX4 : ∀ w ∈ wsX40, w ∈ wsX4_fault := by decide +kernel
  have hw2 : ∀ w ∈ (vx_atS RX4 61 "java/lang/IllegalStateException" nm2).filter goodWord, w ∈ wsX4_fault := by decide +kernel
  have hbx : bx ≤ s.heap.size := Nat.le_of_lt (ca.lt hP.1)
  have b4 : 0 ≤ X 4 0 ∧ X 4 0 ≤ 12 := hV.1 4 0 rfl
  have b5 : 0 ≤ X 5 0 ∧ X 5 0 ≤ 100 := hV.1 5 0 rfl
  have hV0 := hV
  refine lv_aload_n hx hb dX4_fault_0 rfl (lv_at hl 0 rfl) ?_
  refine lv_iload_n hx hb dX4_fault_1 rfl (lv_at hl 1 rfl) ?_
  refine g_run (vx_runV (As := [.int (z2 (u))]) (rest := []) ⟨hx, hb, hml, hown, hts⟩ (k_houseAt l D ks bx ml X _ hP hV hst (u) (by omega)) (cwV 1 hts gX4_fault_X4_houseAt rfl rfl rfl (by decide +kernel) ⟨Nat.le_of_ble_eq_true rfl, Nat.le_of_ble_eq_true rfl⟩) (g_preV (r := (RX4, TX4, 7)) hG hS rx_ge hP.1 rfl) rfl rfl hl.1 rfl (lv_room (Nat.le_of_ble_eq_true rfl)) dX4_fault_2 ⟨Nat.le_of_ble_eq_true rfl, Nat.le_of_ble_eq_true rfl⟩) hS (fun _ h => h) (fun E ce q9 H1 locs1 hp hz9 hk9 hS hce hcv hcl => g_out hext hlocks hS hce hcv hcl ⟨Nat.le_of_ble_eq_true rfl, Nat.le_of_ble_eq_true rfl⟩ (by obtain ⟨t9, e9, c9⟩ := hp; exact ⟨t9, Or.inl (⟨e9, by omega⟩)⟩)) (fun v H1 locs hp hz9 hk9 hS => ?_)
  obtain ⟨n, ⟨en_2, hn⟩, rfl, hH9⟩ := hp
  obtain rfl := hH9.symm
  refine W.eq (g2 := F0 m 5 ls [.ref (bx + 5 + 6 * n)]) rfl ?_
  refine lv_astore_n (lv' := [(2, .ref (bx + 5 + 6 * n)), (0, .ref bx), (1, .int (z2 (u)))]) hx hb dX4_fault_5 rfl hl (by decide) rfl (fun ls hl => ?_)
  refine lv_aload_n hx hb dX4_fault_6 rfl (lv_at hl 0 rfl) ?_
  have b_7 : 0 ≤ X 14 n ∧ X 14 n ≤ 1 := hV.1 14 _ rfl
  refine g_getN (C := RX2) (T := TX2) (N := 13) hx hb hts inX2 hown hG (hP.hs hn) rfl 4 (by decide) (List.mem_of_getElem? (i := 8) rfl) rfl (v := .int (z2 (X 14 n))) rfl dX4_fault_7 ?_
  refine b_if_ne (tgt := 23) hx hb dX4_fault_10 (by decide) ⟨by omega, by omega⟩ (fun c_10 => ?_) (fun c_10 => ?_)
  · skip
    refine lv_aload_n hx hb dX4_fault_23 rfl (lv_at hl 1 rfl) ?_
    have b_24 : 0 ≤ X 5 0 ∧ X 5 0 ≤ 100 := hV.1 5 _ rfl
    refine g_get (C := RX4) (T := TX4) (N := 7) hx hb hts inX4 hown hG hP.1 rfl 5 (by decide) (by decide +kernel) rfl (v := .int (z2 (X 5 0))) rfl dX4_fault_24 ?_
    refine b_bipush hx hb dX4_fault_27 (by decide +kernel) ?_
    refine b_icmp_lt (tgt := 42) hx hb dX4_fault_29 (by decide) ⟨⟨by omega, by omega⟩, ⟨by omega, by omega⟩⟩ (fun c_29 => ?_) (fun c_29 => ?_)
    · skip
      refine b_iconst hx hb dX4_fault_42 ?_
      refine lv_istore_n (lv' := [(3, .int (z2 (0))), (2, .ref (bx + 5 + 6 * n)), (0, .ref bx), (1, .int (z2 (u)))]) hx hb dX4_fault_43 rfl hl (by decide) rfl (fun ls hl => ?_)
      refine lv_aload_n hx hb dX4_fault_44 rfl (lv_at hl 2 rfl) ?_
      refine g_get (C := RX4) (T := TX4) (N := 7) hx hb hts inX4 hown hG hP.1 rfl 0 (by decide) (by decide +kernel) rfl (v := .ref (bx + 1)) rfl dX4_fault_45 ?_
      refine lv_astore (lv' := [(4, .ref (bx + 1)), (3, .int (z2 (0))), (2, .ref (bx + 5 + 6 * n)), (0, .ref bx), (1, .int (z2 (u)))]) hx hb dX4_fault_48 hl (by decide) rfl (fun ls hl => ?_)
      refine lv_aload hx hb dX4_fault_50 (lv_at hl 0 rfl) ?_
      refine g_alen (n := 8) hx hb hG 4 rfl hP.2.1 rfl dX4_fault_52 ?_
      refine lv_istore (lv' := [(5, .int (z2 (8))), (4, .ref (bx + 1)), (3, .int (z2 (0))), (2, .ref (bx + 5 + 6 * n)), (0, .ref bx), (1, .int (z2 (u)))]) hx hb dX4_fault_53 hl (by decide) rfl (fun ls hl => ?_)
      refine b_iconst hx hb dX4_fault_55 ?_
      refine lv_istore (lv' := [(6, .int (z2 (0))), (5, .int (z2 (8))), (4, .ref (bx + 1)), (3, .int (z2 (0))), (2, .ref (bx + 5 + 6 * n)), (0, .ref bx), (1, .int (z2 (u)))]) hx hb dX4_fault_56 hl (by decide) rfl (fun ls hl => ?_)
      refine lp_ms (σ := Nat) (fun j H locs ls => j ≤ 8 ∧ PX D ks bx ml (faX X n j) H ∧ va_S (AR (RX bx) s.heap.size) s.heap H locs ∧ lv_has ls 8 [(0, .ref bx), (1, .int (z2 (u))), (2, .ref (bx + 5 + 6 * n)), (3, .int (z2 (faN X n j))), (4, .ref (bx + 1)), (5, .int (z2 (8))), (6, .int (z2 (((j : Nat) : Int))))]) (fun j => 8 - j) (fun j H locs ls hI ih => ?_) 0 ⟨by omega, hP, hS, lv_sub hl [5, 6, 4, 3, 2, 1, 0] rfl⟩
      obtain ⟨hkN, hP, hS, hl⟩ := hI
      have hV := vx_fa hV0 n j
      have fb := faN_b X n j
      refine lv_iload hx hb dX4_fault_58 (lv_at hl 6 rfl) ?_
      refine lv_iload hx hb dX4_fault_60 (lv_at hl 5 rfl) ?_
      refine b_icmp_ge (tgt := 116) hx hb dX4_fault_62 (by decide) ⟨⟨by omega, by omega⟩, ⟨by omega, by omega⟩⟩ (fun c_62 => ?_) (fun c_62 => ?_)
      · skip
        obtain rfl : j = 8 := by omega
        refine lv_aload_n hx hb dX4_fault_116 rfl (lv_at hl 2 rfl) ?_
        refine g_run (vx_runV (As := []) (rest := []) ⟨hx, hb, hml, hown, hts⟩ (k_breakDown l D ks bx ml (faX X n 8) _ hP hV hn) (cwV 0 hts gX4_fault_X2_breakDown rfl rfl rfl (by decide +kernel) ⟨Nat.le_of_ble_eq_true rfl, Nat.le_of_ble_eq_true rfl⟩) (g_preV (r := (RX2, TX2, 13)) hG hS rx_ge (hP.hs hn) rfl) rfl rfl hl.1 rfl (lv_room (Nat.le_of_ble_eq_true rfl)) dX4_fault_117 ⟨Nat.le_of_ble_eq_true rfl, Nat.le_of_ble_eq_true rfl⟩) hS (fun _ h => h) (fun _ _ _ _ _ h => h.elim) (fun v H1 locs hp hz9 hk9 hS => ?_)
        obtain ⟨rfl, hP⟩ := hp
        have hV : VX (bdS (faX X n 8) n) := vx_bd hV n
        refine W.eq (g2 := F0 m 120 ls []) rfl ?_
        refine lv_aload_n hx hb dX4_fault_120 rfl (lv_at hl 2 rfl) ?_
        refine lv_dup hx hb dX4_fault_121 rfl ?_
        refine g_getN (C := RX2) (T := TX2) (N := 13) hx hb hts inX2 hown hG (hP.hs hn) rfl 11 (by decide) (List.mem_of_getElem? (i := 11) rfl) rfl (v := .int (z2 (((bdS (faX X n 8) n)) 21 n))) rfl dX4_fault_122 ?_
        refine b_iconst hx hb dX4_fault_125 ?_
        refine b_iadd hx hb dX4_fault_126 ?_
        refine g_putN (C := RX2) (T := TX2) (N := 13) hx hb hts inX2 tyX2 tyX2_ok nmX2 hown hG hS (hP.hs hn) (Or.inl ⟨by omega, by omega⟩) rfl 11 (by decide) (List.mem_of_getElem? (i := 11) rfl) rfl rfl (v := .int (z2 ((((bdS (faX X n 8) n)) 21 n) + 1))) rfl rfl (Nat.le_of_ble_eq_true rfl) dX4_fault_127 (fun H locs he hz oq hS => ?_)
        have hP : PX D ks bx ml (up ((bdS (faX X n 8) n)) 21 n ((((bdS (faX X n 8) n)) 21 n) + 1)) H := hP.house (k := 11) hn ⟨by decide, by decide⟩ he oq
        have f5 : (bdS (faX X n 8) n) 5 0 = X 5 0 := faX_5 X n
        refine lv_aload_n hx hb dX4_fault_130 rfl (lv_at hl 0 rfl) ?_
        refine g_get (C := RX4) (T := TX4) (N := 7) hx hb hts inX4 hown hG hP.1 rfl 3 (by decide) (by decide +kernel) rfl (v := .ref (bx + 4)) rfl dX4_fault_131 ?_
        refine lv_aload_n hx hb dX4_fault_134 rfl (lv_at hl 0 rfl) ?_
        have b_135 : 0 ≤ ((bdS (faX X n 8) n)) 5 0 ∧ ((bdS (faX X n 8) n)) 5 0 ≤ 100 := hV.1 5 _ rfl
        refine g_get (C := RX4) (T := TX4) (N := 7) hx hb hts inX4 hown hG hP.1 rfl 5 (by decide) (by decide +kernel) rfl (v := .int (z2 (((bdS (faX X n 8) n)) 5 0))) rfl dX4_fault_135 ?_
        refine b_bipush hx hb dX4_fault_138 (by decide +kernel) ?_
        refine lv_aload_n hx hb dX4_fault_140 rfl (lv_at hl 0 rfl) ?_
        have b_141 : 0 ≤ ((bdS (faX X n 8) n)) 6 0 ∧ ((bdS (faX X n 8) n)) 6 0 ≤ 1000000 := hV.1 6 _ rfl
        refine g_get (C := RX4) (T := TX4) (N := 7) hx hb hts inX4 hown hG hP.1 rfl 6 (by decide) (by decide +kernel) rfl (v := .int (z2 (((bdS (faX X n 8) n)) 6 0))) rfl dX4_fault_141 ?_
        refine b_imul hx hb dX4_fault_144 ?_
        refine lv_iload_n hx hb dX4_fault_145 rfl (lv_at hl 1 rfl) ?_
        refine b_iadd hx hb dX4_fault_146 ?_
        refine g_iast (n := 100) hx hb hG hS hP.2.2.2.2.1 (Or.inl ⟨by omega, by omega⟩) ((((bdS (faX X n 8) n)) 5 0).toNat) ⟨by omega, by omega, by decide⟩ dX4_fault_147 (fun H locs he hz oq hS => ?_)
        have hP : PX D ks bx ml (up (up ((bdS (faX X n 8) n)) 21 n ((((bdS (faX X n 8) n)) 21 n) + 1)) 7 ((((bdS (faX X n 8) n)) 5 0).toNat) ((10 * (((bdS (faX X n 8) n)) 6 0)) + u)) H := hP.told he oq
        refine lv_aload_n hx hb dX4_fault_148 rfl (lv_at hl 0 rfl) ?_
        refine lv_dup hx hb dX4_fault_149 rfl ?_
        have b_150 : 0 ≤ ((bdS (faX X n 8) n)) 5 0 ∧ ((bdS (faX X n 8) n)) 5 0 ≤ 100 := hV.1 5 _ rfl
        refine g_get (C := RX4) (T := TX4) (N := 7) hx hb hts inX4 hown hG hP.1 rfl 5 (by decide) (by decide +kernel) rfl (v := .int (z2 (((bdS (faX X n 8) n)) 5 0))) rfl dX4_fault_150 ?_
        refine b_iconst hx hb dX4_fault_153 ?_
        refine b_iadd hx hb dX4_fault_154 ?_
        refine g_put (C := RX4) (T := TX4) (N := 7) hx hb hts inX4 tyX4 tyX4_ok nmX4 hown hG hS hP.1 (Or.inl ⟨by omega, by omega⟩) rfl 5 (by decide) (by decide +kernel) rfl rfl (v := .int (z2 ((((bdS (faX X n 8) n)) 5 0) + 1))) rfl rfl (Nat.le_of_ble_eq_true rfl) dX4_fault_155 (fun H locs he hz oq hS => ?_)
        have hP : PX D ks bx ml (up (up (up ((bdS (faX X n 8) n)) 21 n ((((bdS (faX X n 8) n)) 21 n) + 1)) 7 ((((bdS (faX X n 8) n)) 5 0).toNat) ((10 * (((bdS (faX X n 8) n)) 6 0)) + u)) 5 0 ((((bdS (faX X n 8) n)) 5 0) + 1)) H := hP.own5 he oq
        refine lv_iload_n hx hb dX4_fault_158 rfl (lv_at hl 3 rfl) ?_
        have e9 : up (up (up ((bdS (faX X n 8) n)) 21 n ((((bdS (faX X n 8) n)) 21 n) + 1)) 7 ((((bdS (faX X n 8) n)) 5 0).toNat) ((10 * (((bdS (faX X n 8) n)) 6 0)) + u)) 5 0 ((((bdS (faX X n 8) n)) 5 0) + 1) = faR X n u := by unfold faR; first | rfl | (rw [f5])
        exact g_iret hx hb hr hlocks hS ⟨Nat.le_of_ble_eq_true rfl, Nat.le_of_ble_eq_true rfl⟩ (⟨n, by omega, rfl, by rw [← e9]; exact hP⟩) dX4_fault_159
      · skip
        refine lv_aload hx hb dX4_fault_65 (lv_at hl 4 rfl) ?_
        refine lv_iload hx hb dX4_fault_67 (lv_at hl 6 rfl) ?_
        refine g_aald (n := 8) hx hb hG 4 rfl hP.2.1 j ⟨by omega, by omega, by decide⟩ dX4_fault_69 (v := .ref (bx + 5 + 6 * j)) rfl ?_
        refine lv_astore (lv' := [(7, .ref (bx + 5 + 6 * j)), (0, .ref bx), (1, .int (z2 (u))), (2, .ref (bx + 5 + 6 * n)), (3, .int (z2 (faN X n j))), (4, .ref (bx + 1)), (5, .int (z2 (8))), (6, .int (z2 (((j : Nat) : Int))))]) hx hb dX4_fault_70 hl (by decide) rfl (fun ls hl => ?_)
        refine lv_aload hx hb dX4_fault_72 (lv_at hl 0 rfl) ?_
        refine lv_aload_n hx hb dX4_fault_74 rfl (lv_at hl 3 rfl) ?_
        refine lv_acmp_eq (rx := some (bx + 5 + 6 * j)) (ry := some (bx + 5 + 6 * n)) (tgt := 110) hx hb dX4_fault_75 (by decide) (fun c_75 => ?_) (fun c_75 => ?_)
        · skip
          have c_75 : (bx + 5 + 6 * j : Nat) = bx + 5 + 6 * n := Option.some.inj c_75
          refine b_iinc (lv' := [(6, .int (z2 (((j : Nat) : Int) + 1))), (7, .ref (bx + 5 + 6 * j)), (0, .ref bx), (1, .int (z2 (u))), (2, .ref (bx + 5 + 6 * n)), (3, .int (z2 (faN X n j))), (4, .ref (bx + 1)), (5, .int (z2 (8)))]) hx hb dX4_fault_110 hl (k := 7) rfl (by decide) rfl (fun ls hl => ?_)
          refine lv_goto (tgt := 58) hx hb dX4_fault_113 (by decide) ?_
          have e2 : faX X n (j + 1) = faX X n j := if_neg (fun q => by omega)
          have e1 : faN X n (j + 1) = faN X n j := if_neg (fun q => by omega)
          exact ih (j + 1) _ _ _ (by omega) ⟨by omega, (by rw [e2]; exact hP), hS, by rw [e1]; exact lv_sub hl [2, 3, 4, 5, 6, 7, 0] rfl⟩
        · skip
          have c_75 : (bx + 5 + 6 * j : Nat) ≠ bx + 5 + 6 * n := fun q => c_75 (congrArg some q)
          refine lv_aload hx hb dX4_fault_78 (lv_at hl 0 rfl) ?_
          refine g_getN (C := RX2) (T := TX2) (N := 13) hx hb hts inX2 hown hG (hP.hs (by omega)) rfl 1 (by decide) (List.mem_of_getElem? (i := 10) rfl) rfl (v := .int (z2 (((j / 4 : Nat) : Int)))) rfl dX4_fault_80 ?_
          refine lv_aload_n hx hb dX4_fault_83 rfl (lv_at hl 3 rfl) ?_
          refine g_getN (C := RX2) (T := TX2) (N := 13) hx hb hts inX2 hown hG (hP.hs hn) rfl 1 (by decide) (List.mem_of_getElem? (i := 10) rfl) rfl (v := .int (z2 (((n / 4 : Nat) : Int)))) rfl dX4_fault_84 ?_
          refine b_icmp_ne (tgt := 110) hx hb dX4_fault_87 (by decide) ⟨⟨by omega, by omega⟩, ⟨by omega, by omega⟩⟩ (fun c_87 => ?_) (fun c_87 => ?_)
          · skip
            refine b_iinc (lv' := [(6, .int (z2 (((j : Nat) : Int) + 1))), (7, .ref (bx + 5 + 6 * j)), (0, .ref bx), (1, .int (z2 (u))), (2, .ref (bx + 5 + 6 * n)), (3, .int (z2 (faN X n j))), (4, .ref (bx + 1)), (5, .int (z2 (8)))]) hx hb dX4_fault_110 hl (k := 7) rfl (by decide) rfl (fun ls hl => ?_)
            refine lv_goto (tgt := 58) hx hb dX4_fault_113 (by decide) ?_
            have e2 : faX X n (j + 1) = faX X n j := if_neg (fun q => by omega)
            have e1 : faN X n (j + 1) = faN X n j := if_neg (fun q => by omega)
            exact ih (j + 1) _ _ _ (by omega) ⟨by omega, (by rw [e2]; exact hP), hS, by rw [e1]; exact lv_sub hl [2, 3, 4, 5, 6, 7, 0] rfl⟩
          · skip
            refine lv_aload hx hb dX4_fault_90 (lv_at hl 0 rfl) ?_
            have b_92 : 0 ≤ ((faX X n j)) 14 j ∧ ((faX X n j)) 14 j ≤ 1 := hV.1 14 _ rfl
            refine g_getN (C := RX2) (T := TX2) (N := 13) hx hb hts inX2 hown hG (hP.hs (by omega)) rfl 4 (by decide) (List.mem_of_getElem? (i := 8) rfl) rfl (v := .int (z2 (((faX X n j)) 14 j))) rfl dX4_fault_92 ?_
            refine b_if_eq (tgt := 110) hx hb dX4_fault_95 (by decide) ⟨by omega, by omega⟩ (fun c_95 => ?_) (fun c_95 => ?_)
            · skip
              refine b_iinc (lv' := [(6, .int (z2 (((j : Nat) : Int) + 1))), (7, .ref (bx + 5 + 6 * j)), (0, .ref bx), (1, .int (z2 (u))), (2, .ref (bx + 5 + 6 * n)), (3, .int (z2 (faN X n j))), (4, .ref (bx + 1)), (5, .int (z2 (8)))]) hx hb dX4_fault_110 hl (k := 7) rfl (by decide) rfl (fun ls hl => ?_)
              refine lv_goto (tgt := 58) hx hb dX4_fault_113 (by decide) ?_
              have e2 : faX X n (j + 1) = faX X n j := if_neg (fun q => by omega)
              have e1 : faN X n (j + 1) = faN X n j := if_neg (fun q => by omega)
              exact ih (j + 1) _ _ _ (by omega) ⟨by omega, (by rw [e2]; exact hP), hS, by rw [e1]; exact lv_sub hl [2, 3, 4, 5, 6, 7, 0] rfl⟩
            · skip
              refine lv_iload_n hx hb dX4_fault_98 rfl (lv_at hl 4 rfl) ?_
              refine lv_aload hx hb dX4_fault_99 (lv_at hl 0 rfl) ?_
              refine lv_aload_n hx hb dX4_fault_101 rfl (lv_at hl 1 rfl) ?_
              have b_102 : 0 ≤ ((faX X n j)) 6 0 ∧ ((faX X n j)) 6 0 ≤ 1000000 := hV.1 6 _ rfl
              refine g_get (C := RX4) (T := TX4) (N := 7) hx hb hts inX4 hown hG hP.1 rfl 6 (by decide) (by decide +kernel) rfl (v := .int (z2 (((faX X n j)) 6 0))) rfl dX4_fault_102 ?_
              refine g_run (vx_runV (As := [.int (z2 (((faX X n j)) 6 0))]) (rest := [.int (z2 (faN X n j))]) ⟨hx, hb, hml, hown, hts⟩ (k_startBells l D ks bx ml (faX X n j) _ hP hV (by omega) (((faX X n j)) 6 0) ⟨by omega, by omega⟩) (cwV 1 hts gX4_fault_X2_startBells rfl rfl rfl (by decide +kernel) ⟨Nat.le_of_ble_eq_true rfl, Nat.le_of_ble_eq_true rfl⟩) (g_preV (r := (RX2, TX2, 13)) hG hS rx_ge (hP.hs (by omega)) rfl) rfl rfl hl.1 rfl (lv_room (Nat.le_of_ble_eq_true rfl)) dX4_fault_105 ⟨Nat.le_of_ble_eq_true rfl, Nat.le_of_ble_eq_true rfl⟩) hS (fun _ h => h) (fun _ _ _ _ _ h => h.elim) (fun v H1 locs hp hz9 hk9 hS => ?_)
              obtain ⟨rfl, hP⟩ := hp
              have sn_105 := sbN_b (faX X n j) j 3
              refine W.eq (g2 := F0 m 108 ls [.int (z2 (sbN (faX X n j) j 3)), .int (z2 (faN X n j))]) rfl ?_
              refine b_iadd hx hb dX4_fault_108 ?_
              refine lv_istore_n (lv' := [(3, .int (z2 ((faN X n j) + (sbN (faX X n j) j 3)))), (7, .ref (bx + 5 + 6 * j)), (0, .ref bx), (1, .int (z2 (u))), (2, .ref (bx + 5 + 6 * n)), (4, .ref (bx + 1)), (5, .int (z2 (8))), (6, .int (z2 (((j : Nat) : Int))))]) hx hb dX4_fault_109 rfl hl (by decide) rfl (fun ls hl => ?_)
              refine b_iinc (lv' := [(6, .int (z2 (((j : Nat) : Int) + 1))), (3, .int (z2 ((faN X n j) + (sbN (faX X n j) j 3)))), (7, .ref (bx + 5 + 6 * j)), (0, .ref bx), (1, .int (z2 (u))), (2, .ref (bx + 5 + 6 * n)), (4, .ref (bx + 1)), (5, .int (z2 (8)))]) hx hb dX4_fault_110 hl (k := 7) rfl (by decide) rfl (fun ls hl => ?_)
              refine lv_goto (tgt := 58) hx hb dX4_fault_113 (by decide) ?_
              have e2 : faX X n (j + 1) = sbX (faX X n j) j (faX X n j 6 0) 3 := if_pos ⟨by omega, by omega, by omega⟩
              have e1 : faN X n (j + 1) = faN X n j + sbN (faX X n j) j 3 := if_pos ⟨by omega, by omega, by omega⟩
              exact ih (j + 1) _ _ _ (by omega) ⟨by omega, (by rw [e2]; exact hP), hS, by rw [e1]; exact lv_sub hl [3, 4, 5, 1, 6, 7, 0] rfl⟩
    · skip
      exact g_throw hx hb hst hts hown hG (by decide +kernel) (List.mem_of_getElem? (i := 15) rfl) (by decide +kernel) (by decide +kernel) hw2 thr_ng2 (List.mem_of_getElem? (i := 30) rfl) thr_go2 hS rx_ge hbx (hl.1.trans hml.symm) dX4_fault_32 dX4_fault_35 dX4_fault_36 dX4_fault_38 dX4_fault_41 hext ⟨Nat.le_of_ble_eq_true rfl, Nat.le_of_ble_eq_true rfl, Nat.le_of_ble_eq_true rfl, Nat.le_of_ble_eq_true rfl⟩ hlocks ⟨Nat.le_of_ble_eq_true rfl, Nat.le_of_ble_eq_true rfl⟩ (fun H1 hz9 hk9 => ⟨⟨hz9, hk9⟩, Or.inr (⟨rfl, ⟨n, by omega⟩⟩)⟩)
  · skip
    exact g_throw hx hb hst hts hown hG (by decide +kernel) (List.mem_of_getElem? (i := 14) rfl) (by decide +kernel) (by decide +kernel) hw2 thr_ng2 (List.mem_of_getElem? (i := 30) rfl) thr_go2 hS rx_ge hbx (hl.1.trans hml.symm) dX4_fault_13 dX4_fault_16 dX4_fault_17 dX4_fault_19 dX4_fault_22 hext ⟨Nat.le_of_ble_eq_true rfl, Nat.le_of_ble_eq_true rfl, Nat.le_of_ble_eq_true rfl, Nat.le_of_ble_eq_true rfl⟩ hlocks ⟨Nat.le_of_ble_eq_true rfl, Nat.le_of_ble_eq_true rfl⟩ (fun H1 hz9 hk9 => ⟨⟨hz9, hk9⟩, Or.inr (⟨rfl, ⟨n, by omega⟩⟩)⟩)
set_option maxHeartbeats 4000000 in
set_option maxRecDepth 100000 in
theorem k_repair (l : Launch) (D : va_G) (ks : Nat → ClassId) (bx : Nat) (ml : Nat → Nat) (X : Nat → Nat → Int) (H : Heap) (hP : PX D ks bx ml X H) (hV : VX X) (hst : l.stackTraces = false) (u : Int) (hu : -2147483648 ≤ u ∧ u < 2147483648) : KM l yX4_repair wsX4_repair ({ frames := 8, cells := 3, slots := 18, locals := 132 } : Room) D ks bx [.ref bx, .int (z2 u)] H (RX bx) (fun v H1 => ∃ n : Nat, ((u = n ∧ n < 8) ∧ X 14 n = 0 ∧ X 34 (n / 4) = -1) ∧ v = some (.int (z2 (X 6 0 + 50))) ∧ PX D ks bx ml (up (up X 34 (n / 4) n) 35 (n / 4) (X 6 0 + 50)) H1) (fun E H1 => TX H H1 ∧ ((E = "java/lang/IndexOutOfBoundsException" ∧ (¬ (0 ≤ u ∧ u < 8))) ∨ (E = "java/lang/IllegalStateException" ∧ (∃ n : Nat, (u = n ∧ n < 8) ∧ (X 14 n ≠ 0 ∨ X 34 (n / 4) ≠ -1))))) := by
  refine KM.of (cc := cX4_repair) (maxL := 4) (ret := (some .int)) (by decide) rfl (Nat.le_of_ble_eq_true rfl) ?_
  intro p e s m below meth c hx hb hml hr hlocks hown hname hts hext hH0 hG ls hl
  subst hH0
  have hown : s.vm.findClass RX4 = some m.cls := hown
  have hS : va_S (AR (RX bx) s.heap.size) s.heap s.heap [] := va_S.rf
  have hl : lv_has ls 4 [(0, .ref bx), (1, .int (z2 (u)))] := hl
  have inX1 : ∀ w ∈ wsX10, w ∈ wsX4_repair := by decide +kernel
  have inX2 : ∀ w ∈ wsX20, w ∈ wsX4_repair := by decide +kernel
  have inX4 : ∀ w ∈ wsX40, w ∈ wsX4_repair := by decide +kernel
  have hw2 : ∀ w ∈ (vx_atS RX4 61 "java/lang/IllegalStateException" nm2).filter goodWord, w ∈ wsX4_repair := by decide +kernel
  have hbx : bx ≤ s.heap.size := Nat.le_of_lt (ca.lt hP.1)
  have b4 : 0 ≤ X 4 0 ∧ X 4 0 ≤ 12 := hV.1 4 0 rfl
  refine lv_aload_n hx hb dX4_repair_0 rfl (lv_at hl 0 rfl) ?_
  refine lv_iload_n hx hb dX4_repair_1 rfl (lv_at hl 1 rfl) ?_
  refine g_run (vx_runV (As := [.int (z2 (u))]) (rest := []) ⟨hx, hb, hml, hown, hts⟩ (k_houseAt l D ks bx ml X _ hP hV hst (u) (by omega)) (cwV 1 hts gX4_repair_X4_houseAt rfl rfl rfl (by decide +kernel) ⟨Nat.le_of_ble_eq_true rfl, Nat.le_of_ble_eq_true rfl⟩) (g_preV (r := (RX4, TX4, 7)) hG hS rx_ge hP.1 rfl) rfl rfl hl.1 rfl (lv_room (Nat.le_of_ble_eq_true rfl)) dX4_repair_2 ⟨Nat.le_of_ble_eq_true rfl, Nat.le_of_ble_eq_true rfl⟩) hS (fun _ h => h) (fun E ce q9 H1 locs1 hp hz9 hk9 hS hce hcv hcl => g_out hext hlocks hS hce hcv hcl ⟨Nat.le_of_ble_eq_true rfl, Nat.le_of_ble_eq_true rfl⟩ (by obtain ⟨t9, e9, c9⟩ := hp; exact ⟨t9, Or.inl (⟨e9, by omega⟩)⟩)) (fun v H1 locs hp hz9 hk9 hS => ?_)
  obtain ⟨n, ⟨en_2, hn⟩, rfl, hH9⟩ := hp
  obtain rfl := hH9.symm
  refine W.eq (g2 := F0 m 5 ls [.ref (bx + 5 + 6 * n)]) rfl ?_
  refine lv_astore_n (lv' := [(2, .ref (bx + 5 + 6 * n)), (0, .ref bx), (1, .int (z2 (u)))]) hx hb dX4_repair_5 rfl hl (by decide) rfl (fun ls hl => ?_)
  refine lv_aload_n hx hb dX4_repair_6 rfl (lv_at hl 1 rfl) ?_
  refine g_get (C := RX4) (T := TX4) (N := 7) hx hb hts inX4 hown hG hP.1 rfl 1 (by decide) (by decide +kernel) rfl (v := .ref (bx + 2)) rfl dX4_repair_7 ?_
  refine lv_aload_n hx hb dX4_repair_10 rfl (lv_at hl 0 rfl) ?_
  refine g_getN (C := RX2) (T := TX2) (N := 13) hx hb hts inX2 hown hG (hP.hs hn) rfl 1 (by decide) (List.mem_of_getElem? (i := 10) rfl) rfl (v := .int (z2 (((n / 4 : Nat) : Int)))) rfl dX4_repair_11 ?_
  refine g_aald (n := 2) hx hb hG 3 rfl hP.2.2.1 (n / 4) ⟨by omega, by omega, by decide⟩ dX4_repair_14 (v := .ref (bx + 53 + (n / 4))) rfl ?_
  refine lv_astore_n (lv' := [(3, .ref (bx + 53 + (n / 4))), (2, .ref (bx + 5 + 6 * n)), (0, .ref bx), (1, .int (z2 (u)))]) hx hb dX4_repair_15 rfl hl (by decide) rfl (fun ls hl => ?_)
  refine lv_aload_n hx hb dX4_repair_16 rfl (lv_at hl 1 rfl) ?_
  have b_17 : 0 ≤ X 14 n ∧ X 14 n ≤ 1 := hV.1 14 _ rfl
  refine g_getN (C := RX2) (T := TX2) (N := 13) hx hb hts inX2 hown hG (hP.hs hn) rfl 4 (by decide) (List.mem_of_getElem? (i := 8) rfl) rfl (v := .int (z2 (X 14 n))) rfl dX4_repair_17 ?_
  refine b_if_eq (tgt := 33) hx hb dX4_repair_20 (by decide) ⟨by omega, by omega⟩ (fun c_20 => ?_) (fun c_20 => ?_)
  · skip
    refine lv_aload_n hx hb dX4_repair_33 rfl (lv_at hl 0 rfl) ?_
    have b_34 : -1 ≤ X 34 (n / 4) ∧ X 34 (n / 4) ≤ 7 := hV.1 34 _ rfl
    refine g_getN (C := RX1) (T := TX1) (N := 2) hx hb hts inX1 hown hG (hP.cr (by omega)) rfl 0 (by decide) (List.mem_of_getElem? (i := 12) rfl) rfl (v := va_rf (go bx (X 34 (n / 4)))) rfl dX4_repair_34 ?_
    refine g_go b_34.1 (fun c_34 => ?_) (fun k34 c_34 => ?_)
    · skip
      refine lv_ifnullN (tgt := 50) hx hb dX4_repair_37 (by decide) ?_
      refine lv_aload_n hx hb dX4_repair_50 rfl (lv_at hl 0 rfl) ?_
      refine lv_aload_n hx hb dX4_repair_51 rfl (lv_at hl 1 rfl) ?_
      refine W.eq (g2 := F0 m 52 ls (va_rf (go bx (((n : Nat) : Int))) :: .ref (bx + 53 + (n / 4)) :: [])) rfl ?_
      refine g_putN (C := RX1) (T := TX1) (N := 2) hx hb hts inX1 tyX1 tyX1_ok nmX1 hown hG hS (hP.cr (by omega)) (Or.inl ⟨by omega, by omega⟩) rfl 0 (by decide) (List.mem_of_getElem? (i := 12) rfl) rfl rfl (v := va_rf (go bx (((n : Nat) : Int)))) (by cases go bx _ <;> rfl) (by cases go bx _ <;> rfl) (Nat.le_of_ble_eq_true rfl) dX4_repair_52 (fun H locs he hz oq hS => ?_)
      have hP : PX D ks bx ml (up X 34 (n / 4) (((n : Nat) : Int))) H := hP.goal (by omega) he oq
      refine lv_aload_n hx hb dX4_repair_55 rfl (lv_at hl 0 rfl) ?_
      refine lv_aload_n hx hb dX4_repair_56 rfl (lv_at hl 2 rfl) ?_
      have b_57 : 0 ≤ X 6 0 ∧ X 6 0 ≤ 1000000 := hV.1 6 _ rfl
      refine g_get (C := RX4) (T := TX4) (N := 7) hx hb hts inX4 hown hG hP.1 rfl 6 (by decide) (by decide +kernel) rfl (v := .int (z2 (X 6 0))) rfl dX4_repair_57 ?_
      refine b_bipush hx hb dX4_repair_60 (by decide +kernel) ?_
      refine b_iadd hx hb dX4_repair_62 ?_
      refine g_putN (C := RX1) (T := TX1) (N := 2) hx hb hts inX1 tyX1 tyX1_ok nmX1 hown hG hS (hP.cr (by omega)) (Or.inl ⟨by omega, by omega⟩) rfl 1 (by decide) (List.mem_of_getElem? (i := 13) rfl) rfl rfl (v := .int (z2 ((X 6 0) + 50))) rfl rfl (Nat.le_of_ble_eq_true rfl) dX4_repair_63 (fun H locs he hz oq hS => ?_)
      have hP : PX D ks bx ml (up (up X 34 (n / 4) (((n : Nat) : Int))) 35 (n / 4) ((X 6 0) + 50)) H := hP.doneAt (by omega) he oq
      refine lv_aload_n hx hb dX4_repair_66 rfl (lv_at hl 0 rfl) ?_
      refine g_getN (C := RX1) (T := TX1) (N := 2) hx hb hts inX1 hown hG (hP.cr (by omega)) rfl 1 (by decide) (List.mem_of_getElem? (i := 13) rfl) rfl (v := .int (z2 ((X 6 0) + 50))) (congrArg (fun z => some (Value.int (z2 z))) (by simp [up] : (up (up X 34 (n / 4) (((n : Nat) : Int))) 35 (n / 4) ((X 6 0) + 50)) 35 (n / 4) = (X 6 0) + 50)) dX4_repair_67 ?_
      exact g_iret hx hb hr hlocks hS ⟨Nat.le_of_ble_eq_true rfl, Nat.le_of_ble_eq_true rfl⟩ (⟨n, by omega, rfl, hP⟩) dX4_repair_70
    · skip
      have hk34 : k34 < 8 := by omega
      refine lv_ifnull hx hb dX4_repair_37 ?_
      exact g_throw hx hb hst hts hown hG (by decide +kernel) (List.mem_of_getElem? (i := 17) rfl) (by decide +kernel) (by decide +kernel) hw2 thr_ng2 (List.mem_of_getElem? (i := 30) rfl) thr_go2 hS rx_ge hbx (hl.1.trans hml.symm) dX4_repair_40 dX4_repair_43 dX4_repair_44 dX4_repair_46 dX4_repair_49 hext ⟨Nat.le_of_ble_eq_true rfl, Nat.le_of_ble_eq_true rfl, Nat.le_of_ble_eq_true rfl, Nat.le_of_ble_eq_true rfl⟩ hlocks ⟨Nat.le_of_ble_eq_true rfl, Nat.le_of_ble_eq_true rfl⟩ (fun H1 hz9 hk9 => ⟨⟨hz9, hk9⟩, Or.inr (⟨rfl, ⟨n, by omega⟩⟩)⟩)
  · skip
    exact g_throw hx hb hst hts hown hG (by decide +kernel) (List.mem_of_getElem? (i := 16) rfl) (by decide +kernel) (by decide +kernel) hw2 thr_ng2 (List.mem_of_getElem? (i := 30) rfl) thr_go2 hS rx_ge hbx (hl.1.trans hml.symm) dX4_repair_23 dX4_repair_26 dX4_repair_27 dX4_repair_29 dX4_repair_32 hext ⟨Nat.le_of_ble_eq_true rfl, Nat.le_of_ble_eq_true rfl, Nat.le_of_ble_eq_true rfl, Nat.le_of_ble_eq_true rfl⟩ hlocks ⟨Nat.le_of_ble_eq_true rfl, Nat.le_of_ble_eq_true rfl⟩ (fun H1 hz9 hk9 => ⟨⟨hz9, hk9⟩, Or.inr (⟨rfl, ⟨n, by omega⟩⟩)⟩)
set_option maxHeartbeats 4000000 in
set_option maxRecDepth 100000 in
theorem k_nextChange (l : Launch) (D : va_G) (ks : Nat → ClassId) (bx : Nat) (ml : Nat → Nat) (X : Nat → Nat → Int) (H : Heap) (hP : PX D ks bx ml X H) (hV : VX X) (u : Int) (hu : -2147483648 ≤ u ∧ u < 2147483648) (hu0 : 0 ≤ u ∧ u ≤ 1000000) : KM l yX4_nextChange wsX4_nextChange ({ frames := 1, cells := 0, slots := 0, locals := 26 } : Room) D ks bx [.ref bx, .int (z2 u)] H (RX bx) (fun v H1 => v = some (.int (z2 (ncS X u))) ∧ H1 = H) (fun _ _ => False) := by
  refine KM.of (cc := cX4_nextChange) (maxL := 7) (ret := (some .int)) (by decide) rfl (Nat.le_of_ble_eq_true rfl) ?_
  intro p e s m below meth c hx hb hml hr hlocks hown hname hts hext hH0 hG ls hl
  subst hH0
  have hown : s.vm.findClass RX4 = some m.cls := hown
  have hS : va_S (AR (RX bx) s.heap.size) s.heap s.heap [] := va_S.rf
  have hl : lv_has ls 7 [(0, .ref bx), (1, .int (z2 (u)))] := hl
  have inX1 : ∀ w ∈ wsX10, w ∈ wsX4_nextChange := by decide +kernel
  have inX4 : ∀ w ∈ wsX40, w ∈ wsX4_nextChange := by decide +kernel
  have b6 : 0 ≤ X 6 0 ∧ X 6 0 ≤ 1000000 := hV.1 6 0 rfl
  refine lv_iload_n hx hb dX4_nextChange_0 rfl (lv_at hl 1 rfl) ?_
  refine lv_aload_n hx hb dX4_nextChange_1 rfl (lv_at hl 0 rfl) ?_
  have b_2 : 0 ≤ X 6 0 ∧ X 6 0 ≤ 1000000 := hV.1 6 _ rfl
  refine g_get (C := RX4) (T := TX4) (N := 7) hx hb hts inX4 hown hG hP.1 rfl 6 (by decide) (by decide +kernel) rfl (v := .int (z2 (X 6 0))) rfl dX4_nextChange_2 ?_
  refine lv_aload_n hx hb dX4_nextChange_5 rfl (lv_at hl 0 rfl) ?_
  have b_6 : 0 ≤ X 6 0 ∧ X 6 0 ≤ 1000000 := hV.1 6 _ rfl
  refine g_get (C := RX4) (T := TX4) (N := 7) hx hb hts inX4 hown hG hP.1 rfl 6 (by decide) (by decide +kernel) rfl (v := .int (z2 (X 6 0))) rfl dX4_nextChange_6 ?_
  refine b_sipush hx hb dX4_nextChange_9 (by decide +kernel) ?_
  refine b_irem hx hb ⟨⟨by omega, by omega⟩, by decide, by decide⟩ dX4_nextChange_12 ?_
  refine b_isub hx hb dX4_nextChange_13 ?_
  refine b_sipush hx hb dX4_nextChange_14 (by decide +kernel) ?_
  refine b_iadd hx hb dX4_nextChange_17 ?_
  refine b_min hx hb (hml.trans hl.1.symm) (own := RX4) (index := 232) hown (hts _ (by decide +kernel)) (hts _ (by decide +kernel)) (hts _ (by decide +kernel)) (hts _ (by decide +kernel)) ⟨Nat.le_of_ble_eq_true rfl, Nat.le_of_ble_eq_true rfl, Nat.le_of_ble_eq_true rfl, Nat.le_of_ble_eq_true rfl⟩ ⟨⟨by omega, by omega⟩, ⟨by omega, by omega⟩⟩ dX4_nextChange_18 ?_
  refine lv_istore_n (lv' := [(2, .int (z2 (min (u) (((X 6 0) - ((X 6 0) % 1000)) + 1000)))), (0, .ref bx), (1, .int (z2 (u)))]) hx hb dX4_nextChange_21 rfl hl (by decide) rfl (fun ls hl => ?_)
  refine lv_aload_n hx hb dX4_nextChange_22 rfl (lv_at hl 1 rfl) ?_
  refine g_get (C := RX4) (T := TX4) (N := 7) hx hb hts inX4 hown hG hP.1 rfl 0 (by decide) (by decide +kernel) rfl (v := .ref (bx + 1)) rfl dX4_nextChange_23 ?_
  refine lv_astore_n (lv' := [(3, .ref (bx + 1)), (2, .int (z2 (min (u) (((X 6 0) - ((X 6 0) % 1000)) + 1000)))), (0, .ref bx), (1, .int (z2 (u)))]) hx hb dX4_nextChange_26 rfl hl (by decide) rfl (fun ls hl => ?_)
  refine lv_aload_n hx hb dX4_nextChange_27 rfl (lv_at hl 0 rfl) ?_
  refine g_alen (n := 8) hx hb hG 4 rfl hP.2.1 rfl dX4_nextChange_28 ?_
  refine lv_istore (lv' := [(4, .int (z2 (8))), (3, .ref (bx + 1)), (2, .int (z2 (min (u) (((X 6 0) - ((X 6 0) % 1000)) + 1000)))), (0, .ref bx), (1, .int (z2 (u)))]) hx hb dX4_nextChange_29 hl (by decide) rfl (fun ls hl => ?_)
  refine b_iconst hx hb dX4_nextChange_31 ?_
  refine lv_istore (lv' := [(5, .int (z2 (0))), (4, .int (z2 (8))), (3, .ref (bx + 1)), (2, .int (z2 (min (u) (((X 6 0) - ((X 6 0) % 1000)) + 1000)))), (0, .ref bx), (1, .int (z2 (u)))]) hx hb dX4_nextChange_32 hl (by decide) rfl (fun ls hl => ?_)
  refine lp_ms (σ := Nat) (fun j H locs ls => j ≤ 8 ∧ PX D ks bx ml X H ∧ H = s.heap ∧ va_S (AR (RX bx) s.heap.size) s.heap H locs ∧ lv_has ls 7 [(0, .ref bx), (1, .int (z2 (u))), (2, .int (z2 (ncH X (min u (X 6 0 - X 6 0 % 1000 + 1000)) j))), (3, .ref (bx + 1)), (4, .int (z2 (8))), (5, .int (z2 (((j : Nat) : Int))))]) (fun j => 8 - j) (fun j H locs ls hI ih => ?_) 0 ⟨by omega, hP, rfl, hS, lv_sub hl [4, 5, 3, 2, 1, 0] rfl⟩
  obtain ⟨hkN, hP, hHs, hS, hl⟩ := hI
  have n1 := nh_le X (min u (X 6 0 - X 6 0 % 1000 + 1000)) j
  have n2 := nh_ge hV (n := (min u (X 6 0 - X 6 0 % 1000 + 1000))) (by omega) j
  refine lv_iload hx hb dX4_nextChange_34 (lv_at hl 5 rfl) ?_
  refine lv_iload hx hb dX4_nextChange_36 (lv_at hl 4 rfl) ?_
  refine b_icmp_ge (tgt := 64) hx hb dX4_nextChange_38 (by decide) ⟨⟨by omega, by omega⟩, ⟨by omega, by omega⟩⟩ (fun c_38 => ?_) (fun c_38 => ?_)
  · skip
    obtain rfl : j = 8 := by omega
    refine lv_aload_n hx hb dX4_nextChange_64 rfl (lv_at hl 0 rfl) ?_
    refine g_get (C := RX4) (T := TX4) (N := 7) hx hb hts inX4 hown hG hP.1 rfl 1 (by decide) (by decide +kernel) rfl (v := .ref (bx + 2)) rfl dX4_nextChange_65 ?_
    refine lv_astore_n (lv' := [(3, .ref (bx + 2)), (0, .ref bx), (1, .int (z2 (u))), (2, .int (z2 (ncH X (min u (X 6 0 - X 6 0 % 1000 + 1000)) 8))), (4, .int (z2 (8))), (5, .int (z2 (((8 : Nat) : Int))))]) hx hb dX4_nextChange_68 rfl hl (by decide) rfl (fun ls hl => ?_)
    refine lv_aload_n hx hb dX4_nextChange_69 rfl (lv_at hl 0 rfl) ?_
    refine g_alen (n := 2) hx hb hG 3 rfl hP.2.2.1 rfl dX4_nextChange_70 ?_
    refine lv_istore (lv' := [(4, .int (z2 (2))), (3, .ref (bx + 2)), (0, .ref bx), (1, .int (z2 (u))), (2, .int (z2 (ncH X (min u (X 6 0 - X 6 0 % 1000 + 1000)) 8))), (5, .int (z2 (((8 : Nat) : Int))))]) hx hb dX4_nextChange_71 hl (by decide) rfl (fun ls hl => ?_)
    refine b_iconst hx hb dX4_nextChange_73 ?_
    refine lv_istore (lv' := [(5, .int (z2 (0))), (4, .int (z2 (2))), (3, .ref (bx + 2)), (0, .ref bx), (1, .int (z2 (u))), (2, .int (z2 (ncH X (min u (X 6 0 - X 6 0 % 1000 + 1000)) 8)))]) hx hb dX4_nextChange_74 hl (by decide) rfl (fun ls hl => ?_)
    refine lp_ms (σ := Nat) (fun o H locs ls => o ≤ 2 ∧ PX D ks bx ml X H ∧ H = s.heap ∧ va_S (AR (RX bx) s.heap.size) s.heap H locs ∧ lv_has ls 7 [(0, .ref bx), (1, .int (z2 (u))), (2, .int (z2 (ncC X (ncH X (min u (X 6 0 - X 6 0 % 1000 + 1000)) 8) o))), (3, .ref (bx + 2)), (4, .int (z2 (2))), (5, .int (z2 (((o : Nat) : Int))))]) (fun o => 2 - o) (fun o H locs ls hI ih => ?_) 0 ⟨by omega, hP, hHs, hS, lv_sub hl [3, 4, 5, 2, 1, 0] rfl⟩
    obtain ⟨hkN, hP, hHs, hS, hl⟩ := hI
    have n3 := nc_le X (ncH X (min u (X 6 0 - X 6 0 % 1000 + 1000)) 8) o
    have n4 := nc_ge hV (n := ncH X (min u (X 6 0 - X 6 0 % 1000 + 1000)) 8) (by omega) o
    refine lv_iload hx hb dX4_nextChange_76 (lv_at hl 5 rfl) ?_
    refine lv_iload hx hb dX4_nextChange_78 (lv_at hl 4 rfl) ?_
    refine b_icmp_ge (tgt := 113) hx hb dX4_nextChange_80 (by decide) ⟨⟨by omega, by omega⟩, ⟨by omega, by omega⟩⟩ (fun c_80 => ?_) (fun c_80 => ?_)
    · skip
      obtain rfl : o = 2 := by omega
      refine lv_iload_n hx hb dX4_nextChange_113 rfl (lv_at hl 2 rfl) ?_
      exact g_iret hx hb hr hlocks hS ⟨Nat.le_of_ble_eq_true rfl, Nat.le_of_ble_eq_true rfl⟩ (⟨rfl, hHs⟩) dX4_nextChange_114
    · skip
      refine lv_aload_n hx hb dX4_nextChange_83 rfl (lv_at hl 3 rfl) ?_
      refine lv_iload hx hb dX4_nextChange_84 (lv_at hl 5 rfl) ?_
      refine g_aald (n := 2) hx hb hG 3 rfl hP.2.2.1 o ⟨by omega, by omega, by decide⟩ dX4_nextChange_86 (v := .ref (bx + 53 + o)) rfl ?_
      refine lv_astore (lv' := [(6, .ref (bx + 53 + o)), (0, .ref bx), (1, .int (z2 (u))), (2, .int (z2 (ncC X (ncH X (min u (X 6 0 - X 6 0 % 1000 + 1000)) 8) o))), (3, .ref (bx + 2)), (4, .int (z2 (2))), (5, .int (z2 (((o : Nat) : Int))))]) hx hb dX4_nextChange_87 hl (by decide) rfl (fun ls hl => ?_)
      refine lv_aload hx hb dX4_nextChange_89 (lv_at hl 0 rfl) ?_
      have b_91 : -1 ≤ X 34 o ∧ X 34 o ≤ 7 := hV.1 34 _ rfl
      refine g_getN (C := RX1) (T := TX1) (N := 2) hx hb hts inX1 hown hG (hP.cr (by omega)) rfl 0 (by decide) (List.mem_of_getElem? (i := 12) rfl) rfl (v := va_rf (go bx (X 34 o))) rfl dX4_nextChange_91 ?_
      refine g_go b_91.1 (fun c_91 => ?_) (fun k91 c_91 => ?_)
      · skip
        refine lv_ifnullN (tgt := 107) hx hb dX4_nextChange_94 (by decide) ?_
        refine b_iinc (lv' := [(5, .int (z2 (((o : Nat) : Int) + 1))), (6, .ref (bx + 53 + o)), (0, .ref bx), (1, .int (z2 (u))), (2, .int (z2 (ncC X (ncH X (min u (X 6 0 - X 6 0 % 1000 + 1000)) 8) o))), (3, .ref (bx + 2)), (4, .int (z2 (2)))]) hx hb dX4_nextChange_107 hl (k := 6) rfl (by decide) rfl (fun ls hl => ?_)
        refine lv_goto (tgt := 76) hx hb dX4_nextChange_110 (by decide) ?_
        have e1 : ncC X (ncH X (min u (X 6 0 - X 6 0 % 1000 + 1000)) 8) (o + 1) = _ := if_neg (fun q => by omega)
        exact ih (o + 1) _ _ _ (by omega) ⟨by omega, hP, hHs, hS, by rw [e1]; exact lv_sub hl [2, 3, 4, 5, 6, 0] rfl⟩
      · skip
        have hk91 : k91 < 8 := by omega
        refine lv_ifnull hx hb dX4_nextChange_94 ?_
        refine lv_iload_n hx hb dX4_nextChange_97 rfl (lv_at hl 3 rfl) ?_
        refine lv_aload hx hb dX4_nextChange_98 (lv_at hl 0 rfl) ?_
        have b_100 : 0 ≤ X 35 o ∧ X 35 o ≤ 1000050 := hV.1 35 _ rfl
        refine g_getN (C := RX1) (T := TX1) (N := 2) hx hb hts inX1 hown hG (hP.cr (by omega)) rfl 1 (by decide) (List.mem_of_getElem? (i := 13) rfl) rfl (v := .int (z2 (X 35 o))) rfl dX4_nextChange_100 ?_
        refine b_min hx hb (hml.trans hl.1.symm) (own := RX4) (index := 232) hown (hts _ (by decide +kernel)) (hts _ (by decide +kernel)) (hts _ (by decide +kernel)) (hts _ (by decide +kernel)) ⟨Nat.le_of_ble_eq_true rfl, Nat.le_of_ble_eq_true rfl, Nat.le_of_ble_eq_true rfl, Nat.le_of_ble_eq_true rfl⟩ ⟨⟨by omega, by omega⟩, ⟨by omega, by omega⟩⟩ dX4_nextChange_103 ?_
        refine lv_istore_n (lv' := [(2, .int (z2 (min (ncC X (ncH X (min u (X 6 0 - X 6 0 % 1000 + 1000)) 8) o) (X 35 o)))), (6, .ref (bx + 53 + o)), (0, .ref bx), (1, .int (z2 (u))), (3, .ref (bx + 2)), (4, .int (z2 (2))), (5, .int (z2 (((o : Nat) : Int))))]) hx hb dX4_nextChange_106 rfl hl (by decide) rfl (fun ls hl => ?_)
        refine b_iinc (lv' := [(5, .int (z2 (((o : Nat) : Int) + 1))), (2, .int (z2 (min (ncC X (ncH X (min u (X 6 0 - X 6 0 % 1000 + 1000)) 8) o) (X 35 o)))), (6, .ref (bx + 53 + o)), (0, .ref bx), (1, .int (z2 (u))), (3, .ref (bx + 2)), (4, .int (z2 (2)))]) hx hb dX4_nextChange_107 hl (k := 6) rfl (by decide) rfl (fun ls hl => ?_)
        refine lv_goto (tgt := 76) hx hb dX4_nextChange_110 (by decide) ?_
        have e1 : ncC X (ncH X (min u (X 6 0 - X 6 0 % 1000 + 1000)) 8) (o + 1) = _ := if_pos (by omega)
        exact ih (o + 1) _ _ _ (by omega) ⟨by omega, hP, hHs, hS, by rw [e1]; exact lv_sub hl [3, 4, 1, 5, 6, 0] rfl⟩
  · skip
    refine lv_aload_n hx hb dX4_nextChange_41 rfl (lv_at hl 3 rfl) ?_
    refine lv_iload hx hb dX4_nextChange_42 (lv_at hl 5 rfl) ?_
    refine g_aald (n := 8) hx hb hG 4 rfl hP.2.1 j ⟨by omega, by omega, by decide⟩ dX4_nextChange_44 (v := .ref (bx + 5 + 6 * j)) rfl ?_
    refine lv_astore (lv' := [(6, .ref (bx + 5 + 6 * j)), (0, .ref bx), (1, .int (z2 (u))), (2, .int (z2 (ncH X (min u (X 6 0 - X 6 0 % 1000 + 1000)) j))), (3, .ref (bx + 1)), (4, .int (z2 (8))), (5, .int (z2 (((j : Nat) : Int))))]) hx hb dX4_nextChange_45 hl (by decide) rfl (fun ls hl => ?_)
    refine lv_iload_n hx hb dX4_nextChange_47 rfl (lv_at hl 3 rfl) ?_
    refine lv_aload hx hb dX4_nextChange_48 (lv_at hl 0 rfl) ?_
    refine lv_iload_n hx hb dX4_nextChange_50 rfl (lv_at hl 3 rfl) ?_
    refine g_run (vx_runV (As := [.int (z2 (ncH X (min u (X 6 0 - X 6 0 % 1000 + 1000)) j))]) (rest := [.int (z2 (ncH X (min u (X 6 0 - X 6 0 % 1000 + 1000)) j))]) ⟨hx, hb, hml, hown, hts⟩ (k_firstStop l D ks bx ml X _ hP hV (by omega) (ncH X (min u (X 6 0 - X 6 0 % 1000 + 1000)) j) ⟨by omega, by omega⟩) (cwV 1 hts gX4_nextChange_X2_firstStop rfl rfl rfl (by decide +kernel) ⟨Nat.le_of_ble_eq_true rfl, Nat.le_of_ble_eq_true rfl⟩) (g_preV (r := (RX2, TX2, 13)) hG hS rx_ge (hP.hs (by omega)) rfl) rfl rfl hl.1 rfl (lv_room (Nat.le_of_ble_eq_true rfl)) dX4_nextChange_51 ⟨Nat.le_of_ble_eq_true rfl, Nat.le_of_ble_eq_true rfl⟩) hS (fun _ h => h) (fun _ _ _ _ _ h => h.elim) (fun v H1 locs hp hz9 hk9 hS => ?_)
    obtain ⟨rfl, hH9⟩ := hp
    obtain rfl := hH9.symm
    have fl_51 := fs_le X j (ncH X (min u (X 6 0 - X 6 0 % 1000 + 1000)) j) 3
    have fg_51 := fs_ge hV j (l := ncH X (min u (X 6 0 - X 6 0 % 1000 + 1000)) j) (by omega) 3
    refine W.eq (g2 := F0 m 54 ls [.int (z2 (fsS X j (ncH X (min u (X 6 0 - X 6 0 % 1000 + 1000)) j) 3)), .int (z2 (ncH X (min u (X 6 0 - X 6 0 % 1000 + 1000)) j))]) rfl ?_
    refine b_min hx hb (hml.trans hl.1.symm) (own := RX4) (index := 232) hown (hts _ (by decide +kernel)) (hts _ (by decide +kernel)) (hts _ (by decide +kernel)) (hts _ (by decide +kernel)) ⟨Nat.le_of_ble_eq_true rfl, Nat.le_of_ble_eq_true rfl, Nat.le_of_ble_eq_true rfl, Nat.le_of_ble_eq_true rfl⟩ ⟨⟨by omega, by omega⟩, ⟨by omega, by omega⟩⟩ dX4_nextChange_54 ?_
    refine lv_istore_n (lv' := [(2, .int (z2 (min (ncH X (min u (X 6 0 - X 6 0 % 1000 + 1000)) j) (fsS X j (ncH X (min u (X 6 0 - X 6 0 % 1000 + 1000)) j) 3)))), (6, .ref (bx + 5 + 6 * j)), (0, .ref bx), (1, .int (z2 (u))), (3, .ref (bx + 1)), (4, .int (z2 (8))), (5, .int (z2 (((j : Nat) : Int))))]) hx hb dX4_nextChange_57 rfl hl (by decide) rfl (fun ls hl => ?_)
    refine b_iinc (lv' := [(5, .int (z2 (((j : Nat) : Int) + 1))), (2, .int (z2 (min (ncH X (min u (X 6 0 - X 6 0 % 1000 + 1000)) j) (fsS X j (ncH X (min u (X 6 0 - X 6 0 % 1000 + 1000)) j) 3)))), (6, .ref (bx + 5 + 6 * j)), (0, .ref bx), (1, .int (z2 (u))), (3, .ref (bx + 1)), (4, .int (z2 (8)))]) hx hb dX4_nextChange_58 hl (k := 6) rfl (by decide) rfl (fun ls hl => ?_)
    refine lv_goto (tgt := 34) hx hb dX4_nextChange_61 (by decide) ?_
    exact ih (j + 1) _ _ _ (by omega) ⟨by omega, hP, hHs, hS, lv_sub hl [3, 4, 1, 5, 6, 0] rfl⟩
set_option maxHeartbeats 4000000 in
set_option maxRecDepth 100000 in
theorem k_passStretch (l : Launch) (D : va_G) (ks : Nat → ClassId) (bx : Nat) (ml : Nat → Nat) (X : Nat → Nat → Int) (H : Heap) (hP : PX D ks bx ml X H) (hV : VX X) (u : Int) (hu : -2147483648 ≤ u ∧ u < 2147483648) (hu0 : 0 ≤ u ∧ u ≤ 1000000) : KM l yX4_passStretch wsX4_passStretch ({ frames := 4, cells := 0, slots := 0, locals := 94 } : Room) D ks bx [.ref bx, .int (z2 u)] H (RX bx) (fun v H1 => v = none ∧ PX D ks bx ml (psS X u) H1) (fun _ _ => False) := by
  refine KM.of (cc := cX4_passStretch) (maxL := 6) (ret := none) (by decide) rfl (Nat.le_of_ble_eq_true rfl) ?_
  intro p e s m below meth c hx hb hml hr hlocks hown hname hts hext hH0 hG ls hl
  subst hH0
  have hown : s.vm.findClass RX4 = some m.cls := hown
  have hS : va_S (AR (RX bx) s.heap.size) s.heap s.heap [] := va_S.rf
  have hl : lv_has ls 6 [(0, .ref bx), (1, .int (z2 (u)))] := hl
  have inX4 : ∀ w ∈ wsX40, w ∈ wsX4_passStretch := by decide +kernel
  have hV0 := hV
  refine lv_aload_n hx hb dX4_passStretch_0 rfl (lv_at hl 0 rfl) ?_
  refine g_get (C := RX4) (T := TX4) (N := 7) hx hb hts inX4 hown hG hP.1 rfl 0 (by decide) (by decide +kernel) rfl (v := .ref (bx + 1)) rfl dX4_passStretch_1 ?_
  refine lv_astore_n (lv' := [(2, .ref (bx + 1)), (0, .ref bx), (1, .int (z2 (u)))]) hx hb dX4_passStretch_4 rfl hl (by decide) rfl (fun ls hl => ?_)
  refine lv_aload_n hx hb dX4_passStretch_5 rfl (lv_at hl 0 rfl) ?_
  refine g_alen (n := 8) hx hb hG 4 rfl hP.2.1 rfl dX4_passStretch_6 ?_
  refine lv_istore_n (lv' := [(3, .int (z2 (8))), (2, .ref (bx + 1)), (0, .ref bx), (1, .int (z2 (u)))]) hx hb dX4_passStretch_7 rfl hl (by decide) rfl (fun ls hl => ?_)
  refine b_iconst hx hb dX4_passStretch_8 ?_
  refine lv_istore (lv' := [(4, .int (z2 (0))), (3, .int (z2 (8))), (2, .ref (bx + 1)), (0, .ref bx), (1, .int (z2 (u)))]) hx hb dX4_passStretch_9 hl (by decide) rfl (fun ls hl => ?_)
  refine lp_ms (σ := Nat) (fun j H locs ls => j ≤ 8 ∧ PX D ks bx ml (pa1 X u j) H ∧ va_S (AR (RX bx) s.heap.size) s.heap H locs ∧ lv_has ls 6 [(0, .ref bx), (1, .int (z2 (u))), (2, .ref (bx + 1)), (3, .int (z2 (8))), (4, .int (z2 (((j : Nat) : Int))))]) (fun j => 8 - j) (fun j H locs ls hI ih => ?_) 0 ⟨by omega, hP, hS, lv_sub hl [3, 4, 2, 1, 0] rfl⟩
  obtain ⟨hkN, hP, hS, hl⟩ := hI
  have hV := vx_p1 hV0 u j
  refine lv_iload hx hb dX4_passStretch_11 (lv_at hl 4 rfl) ?_
  refine lv_iload_n hx hb dX4_passStretch_13 rfl (lv_at hl 3 rfl) ?_
  refine b_icmp_ge (tgt := 39) hx hb dX4_passStretch_14 (by decide) ⟨⟨by omega, by omega⟩, ⟨by omega, by omega⟩⟩ (fun c_14 => ?_) (fun c_14 => ?_)
  · skip
    obtain rfl : j = 8 := by omega
    refine lv_aload_n hx hb dX4_passStretch_39 rfl (lv_at hl 0 rfl) ?_
    refine lv_iload_n hx hb dX4_passStretch_40 rfl (lv_at hl 1 rfl) ?_
    refine g_put (C := RX4) (T := TX4) (N := 7) hx hb hts inX4 tyX4 tyX4_ok nmX4 hown hG hS hP.1 (Or.inl ⟨by omega, by omega⟩) rfl 6 (by decide) (by decide +kernel) rfl rfl (v := .int (z2 (u))) rfl rfl (Nat.le_of_ble_eq_true rfl) dX4_passStretch_41 (fun H locs he hz oq hS => ?_)
    have hP : PX D ks bx ml (up ((pa1 X u 8)) 6 0 (u)) H := hP.own6 he oq
    have hV2 : VX (psA X u) := vx_psA hV0 hu0
    have hP : PX D ks bx ml (psA X u) _ := hP
    refine lv_aload_n hx hb dX4_passStretch_44 rfl (lv_at hl 0 rfl) ?_
    refine g_get (C := RX4) (T := TX4) (N := 7) hx hb hts inX4 hown hG hP.1 rfl 0 (by decide) (by decide +kernel) rfl (v := .ref (bx + 1)) rfl dX4_passStretch_45 ?_
    refine lv_astore_n (lv' := [(2, .ref (bx + 1)), (0, .ref bx), (1, .int (z2 (u))), (3, .int (z2 (8))), (4, .int (z2 (((8 : Nat) : Int))))]) hx hb dX4_passStretch_48 rfl hl (by decide) rfl (fun ls hl => ?_)
    refine lv_aload_n hx hb dX4_passStretch_49 rfl (lv_at hl 0 rfl) ?_
    refine g_alen (n := 8) hx hb hG 4 rfl hP.2.1 rfl dX4_passStretch_50 ?_
    refine lv_istore_n (lv' := [(3, .int (z2 (8))), (2, .ref (bx + 1)), (0, .ref bx), (1, .int (z2 (u))), (4, .int (z2 (((8 : Nat) : Int))))]) hx hb dX4_passStretch_51 rfl hl (by decide) rfl (fun ls hl => ?_)
    refine b_iconst hx hb dX4_passStretch_52 ?_
    refine lv_istore (lv' := [(4, .int (z2 (0))), (3, .int (z2 (8))), (2, .ref (bx + 1)), (0, .ref bx), (1, .int (z2 (u)))]) hx hb dX4_passStretch_53 hl (by decide) rfl (fun ls hl => ?_)
    refine lp_ms (σ := Nat) (fun o H locs ls => o ≤ 8 ∧ PX D ks bx ml (pa2 (psA X u) o) H ∧ va_S (AR (RX bx) s.heap.size) s.heap H locs ∧ lv_has ls 6 [(0, .ref bx), (1, .int (z2 (u))), (2, .ref (bx + 1)), (3, .int (z2 (8))), (4, .int (z2 (((o : Nat) : Int))))]) (fun o => 8 - o) (fun o H locs ls hI ih => ?_) 0 ⟨by omega, hP, hS, lv_sub hl [3, 4, 2, 1, 0] rfl⟩
    obtain ⟨hkN, hP, hS, hl⟩ := hI
    have hV := vx_p2 hV2 o
    refine lv_iload hx hb dX4_passStretch_55 (lv_at hl 4 rfl) ?_
    refine lv_iload_n hx hb dX4_passStretch_57 rfl (lv_at hl 3 rfl) ?_
    refine b_icmp_ge (tgt := 82) hx hb dX4_passStretch_58 (by decide) ⟨⟨by omega, by omega⟩, ⟨by omega, by omega⟩⟩ (fun c_58 => ?_) (fun c_58 => ?_)
    · skip
      obtain rfl : o = 8 := by omega
      have hV3 := hV
      refine lv_aload_n hx hb dX4_passStretch_82 rfl (lv_at hl 0 rfl) ?_
      refine g_get (C := RX4) (T := TX4) (N := 7) hx hb hts inX4 hown hG hP.1 rfl 1 (by decide) (by decide +kernel) rfl (v := .ref (bx + 2)) rfl dX4_passStretch_83 ?_
      refine lv_astore_n (lv' := [(2, .ref (bx + 2)), (0, .ref bx), (1, .int (z2 (u))), (3, .int (z2 (8))), (4, .int (z2 (((8 : Nat) : Int))))]) hx hb dX4_passStretch_86 rfl hl (by decide) rfl (fun ls hl => ?_)
      refine lv_aload_n hx hb dX4_passStretch_87 rfl (lv_at hl 0 rfl) ?_
      refine g_alen (n := 2) hx hb hG 3 rfl hP.2.2.1 rfl dX4_passStretch_88 ?_
      refine lv_istore_n (lv' := [(3, .int (z2 (2))), (2, .ref (bx + 2)), (0, .ref bx), (1, .int (z2 (u))), (4, .int (z2 (((8 : Nat) : Int))))]) hx hb dX4_passStretch_89 rfl hl (by decide) rfl (fun ls hl => ?_)
      refine b_iconst hx hb dX4_passStretch_90 ?_
      refine lv_istore (lv' := [(4, .int (z2 (0))), (3, .int (z2 (2))), (2, .ref (bx + 2)), (0, .ref bx), (1, .int (z2 (u)))]) hx hb dX4_passStretch_91 hl (by decide) rfl (fun ls hl => ?_)
      refine lp_ms (σ := Nat) (fun b H locs ls => b ≤ 2 ∧ PX D ks bx ml (pa3 (pa2 (psA X u) 8) b) H ∧ va_S (AR (RX bx) s.heap.size) s.heap H locs ∧ lv_has ls 6 [(0, .ref bx), (1, .int (z2 (u))), (2, .ref (bx + 2)), (3, .int (z2 (2))), (4, .int (z2 (((b : Nat) : Int))))]) (fun b => 2 - b) (fun b H locs ls hI ih => ?_) 0 ⟨by omega, hP, hS, lv_sub hl [3, 4, 2, 1, 0] rfl⟩
      obtain ⟨hkN, hP, hS, hl⟩ := hI
      have hV := vx_p3 hV3 b
      refine lv_iload hx hb dX4_passStretch_93 (lv_at hl 4 rfl) ?_
      refine lv_iload_n hx hb dX4_passStretch_95 rfl (lv_at hl 3 rfl) ?_
      refine b_icmp_ge (tgt := 120) hx hb dX4_passStretch_96 (by decide) ⟨⟨by omega, by omega⟩, ⟨by omega, by omega⟩⟩ (fun c_96 => ?_) (fun c_96 => ?_)
      · skip
        obtain rfl : b = 2 := by omega
        have hV4 : VX (psB X u) := hV
        have hP : PX D ks bx ml (psB X u) _ := hP
        have hV : VX (psB X u) := hV4
        refine lv_aload_n hx hb dX4_passStretch_120 rfl (lv_at hl 0 rfl) ?_
        have b_121 : 0 ≤ ((psB X u)) 6 0 ∧ ((psB X u)) 6 0 ≤ 1000000 := hV.1 6 _ rfl
        refine g_get (C := RX4) (T := TX4) (N := 7) hx hb hts inX4 hown hG hP.1 rfl 6 (by decide) (by decide +kernel) rfl (v := .int (z2 (((psB X u)) 6 0))) rfl dX4_passStretch_121 ?_
        refine b_sipush hx hb dX4_passStretch_124 (by decide +kernel) ?_
        refine b_irem hx hb ⟨⟨by omega, by omega⟩, by decide, by decide⟩ dX4_passStretch_127 ?_
        refine b_if_ne (tgt := 165) hx hb dX4_passStretch_128 (by decide) ⟨by omega, by omega⟩ (fun c_128 => ?_) (fun c_128 => ?_)
        · skip
          have e9 : psS X u = psB X u := if_neg (by omega)
          exact g_vret hx hb hr hlocks hS ⟨Nat.le_of_ble_eq_true rfl, Nat.le_of_ble_eq_true rfl⟩ (⟨rfl, by rw [e9]; exact hP⟩) dX4_passStretch_165
        · skip
          refine lv_aload_n hx hb dX4_passStretch_131 rfl (lv_at hl 0 rfl) ?_
          refine g_get (C := RX4) (T := TX4) (N := 7) hx hb hts inX4 hown hG hP.1 rfl 0 (by decide) (by decide +kernel) rfl (v := .ref (bx + 1)) rfl dX4_passStretch_132 ?_
          refine lv_astore_n (lv' := [(2, .ref (bx + 1)), (0, .ref bx), (1, .int (z2 (u))), (3, .int (z2 (2))), (4, .int (z2 (((2 : Nat) : Int))))]) hx hb dX4_passStretch_135 rfl hl (by decide) rfl (fun ls hl => ?_)
          refine lv_aload_n hx hb dX4_passStretch_136 rfl (lv_at hl 0 rfl) ?_
          refine g_alen (n := 8) hx hb hG 4 rfl hP.2.1 rfl dX4_passStretch_137 ?_
          refine lv_istore_n (lv' := [(3, .int (z2 (8))), (2, .ref (bx + 1)), (0, .ref bx), (1, .int (z2 (u))), (4, .int (z2 (((2 : Nat) : Int))))]) hx hb dX4_passStretch_138 rfl hl (by decide) rfl (fun ls hl => ?_)
          refine b_iconst hx hb dX4_passStretch_139 ?_
          refine lv_istore (lv' := [(4, .int (z2 (0))), (3, .int (z2 (8))), (2, .ref (bx + 1)), (0, .ref bx), (1, .int (z2 (u)))]) hx hb dX4_passStretch_140 hl (by decide) rfl (fun ls hl => ?_)
          refine lp_ms (σ := Nat) (fun n H locs ls => n ≤ 8 ∧ PX D ks bx ml (pa4 (psB X u) n) H ∧ va_S (AR (RX bx) s.heap.size) s.heap H locs ∧ lv_has ls 6 [(0, .ref bx), (1, .int (z2 (u))), (2, .ref (bx + 1)), (3, .int (z2 (8))), (4, .int (z2 (((n : Nat) : Int))))]) (fun n => 8 - n) (fun n H locs ls hI ih => ?_) 0 ⟨by omega, hP, hS, lv_sub hl [3, 4, 2, 1, 0] rfl⟩
          obtain ⟨hkN, hP, hS, hl⟩ := hI
          have hV := vx_p4 hV4 n
          refine lv_iload hx hb dX4_passStretch_142 (lv_at hl 4 rfl) ?_
          refine lv_iload_n hx hb dX4_passStretch_144 rfl (lv_at hl 3 rfl) ?_
          refine b_icmp_ge (tgt := 165) hx hb dX4_passStretch_145 (by decide) ⟨⟨by omega, by omega⟩, ⟨by omega, by omega⟩⟩ (fun c_145 => ?_) (fun c_145 => ?_)
          · skip
            obtain rfl : n = 8 := by omega
            have e9 : psS X u = pa4 (psB X u) 8 := if_pos (by omega)
            exact g_vret hx hb hr hlocks hS ⟨Nat.le_of_ble_eq_true rfl, Nat.le_of_ble_eq_true rfl⟩ (⟨rfl, by rw [e9]; exact hP⟩) dX4_passStretch_165
          · skip
            refine lv_aload_n hx hb dX4_passStretch_148 rfl (lv_at hl 2 rfl) ?_
            refine lv_iload hx hb dX4_passStretch_149 (lv_at hl 4 rfl) ?_
            refine g_aald (n := 8) hx hb hG 4 rfl hP.2.1 n ⟨by omega, by omega, by decide⟩ dX4_passStretch_151 (v := .ref (bx + 5 + 6 * n)) rfl ?_
            refine lv_astore (lv' := [(5, .ref (bx + 5 + 6 * n)), (0, .ref bx), (1, .int (z2 (u))), (2, .ref (bx + 1)), (3, .int (z2 (8))), (4, .int (z2 (((n : Nat) : Int))))]) hx hb dX4_passStretch_152 hl (by decide) rfl (fun ls hl => ?_)
            refine lv_aload hx hb dX4_passStretch_154 (lv_at hl 0 rfl) ?_
            refine g_run (vx_runV (As := []) (rest := []) ⟨hx, hb, hml, hown, hts⟩ (k_closeDay l D ks bx ml (pa4 (psB X u) n) _ hP hV (by omega)) (cwV 0 hts gX4_passStretch_X2_closeDay rfl rfl rfl (by decide +kernel) ⟨Nat.le_of_ble_eq_true rfl, Nat.le_of_ble_eq_true rfl⟩) (g_preV (r := (RX2, TX2, 13)) hG hS rx_ge (hP.hs (by omega)) rfl) rfl rfl hl.1 rfl (lv_room (Nat.le_of_ble_eq_true rfl)) dX4_passStretch_156 ⟨Nat.le_of_ble_eq_true rfl, Nat.le_of_ble_eq_true rfl⟩) hS (fun _ h => h) (fun _ _ _ _ _ h => h.elim) (fun v H1 locs hp hz9 hk9 hS => ?_)
            obtain ⟨rfl, hP⟩ := hp
            refine W.eq (g2 := F0 m 159 ls []) rfl ?_
            refine b_iinc (lv' := [(4, .int (z2 (((n : Nat) : Int) + 1))), (5, .ref (bx + 5 + 6 * n)), (0, .ref bx), (1, .int (z2 (u))), (2, .ref (bx + 1)), (3, .int (z2 (8)))]) hx hb dX4_passStretch_159 hl (k := 5) rfl (by decide) rfl (fun ls hl => ?_)
            refine lv_goto (tgt := 142) hx hb dX4_passStretch_162 (by decide) ?_
            exact ih (n + 1) _ _ _ (by omega) ⟨by omega, hP, hS, lv_sub hl [2, 3, 4, 5, 0] rfl⟩
      · skip
        refine lv_aload_n hx hb dX4_passStretch_99 rfl (lv_at hl 2 rfl) ?_
        refine lv_iload hx hb dX4_passStretch_100 (lv_at hl 4 rfl) ?_
        refine g_aald (n := 2) hx hb hG 3 rfl hP.2.2.1 b ⟨by omega, by omega, by decide⟩ dX4_passStretch_102 (v := .ref (bx + 53 + b)) rfl ?_
        refine lv_astore (lv' := [(5, .ref (bx + 53 + b)), (0, .ref bx), (1, .int (z2 (u))), (2, .ref (bx + 2)), (3, .int (z2 (2))), (4, .int (z2 (((b : Nat) : Int))))]) hx hb dX4_passStretch_103 hl (by decide) rfl (fun ls hl => ?_)
        refine lv_aload hx hb dX4_passStretch_105 (lv_at hl 0 rfl) ?_
        refine lv_aload_n hx hb dX4_passStretch_107 rfl (lv_at hl 1 rfl) ?_
        have b_108 : 0 ≤ ((pa3 (pa2 (psA X u) 8) b)) 6 0 ∧ ((pa3 (pa2 (psA X u) 8) b)) 6 0 ≤ 1000000 := hV.1 6 _ rfl
        refine g_get (C := RX4) (T := TX4) (N := 7) hx hb hts inX4 hown hG hP.1 rfl 6 (by decide) (by decide +kernel) rfl (v := .int (z2 (((pa3 (pa2 (psA X u) 8) b)) 6 0))) rfl dX4_passStretch_108 ?_
        refine g_run (vx_runV (As := [.int (z2 (((pa3 (pa2 (psA X u) 8) b)) 6 0))]) (rest := []) ⟨hx, hb, hml, hown, hts⟩ (k_finish l D ks bx ml (pa3 (pa2 (psA X u) 8) b) _ hP hV (by omega) (((pa3 (pa2 (psA X u) 8) b)) 6 0) ⟨by omega, by omega⟩) (cwV 1 hts gX4_passStretch_X1_finish rfl rfl rfl (by decide +kernel) ⟨Nat.le_of_ble_eq_true rfl, Nat.le_of_ble_eq_true rfl⟩) (g_preV (r := (RX1, TX1, 2)) hG hS rx_ge (hP.cr (by omega)) rfl) rfl rfl hl.1 rfl (lv_room (Nat.le_of_ble_eq_true rfl)) dX4_passStretch_111 ⟨Nat.le_of_ble_eq_true rfl, Nat.le_of_ble_eq_true rfl⟩) hS (fun _ h => h) (fun _ _ _ _ _ h => h.elim) (fun v H1 locs hp hz9 hk9 hS => ?_)
        obtain ⟨rfl, hP⟩ := hp
        refine W.eq (g2 := F0 m 114 ls []) rfl ?_
        refine b_iinc (lv' := [(4, .int (z2 (((b : Nat) : Int) + 1))), (5, .ref (bx + 53 + b)), (0, .ref bx), (1, .int (z2 (u))), (2, .ref (bx + 2)), (3, .int (z2 (2)))]) hx hb dX4_passStretch_114 hl (k := 5) rfl (by decide) rfl (fun ls hl => ?_)
        refine lv_goto (tgt := 93) hx hb dX4_passStretch_117 (by decide) ?_
        exact ih (b + 1) _ _ _ (by omega) ⟨by omega, hP, hS, lv_sub hl [2, 3, 4, 5, 0] rfl⟩
    · skip
      refine lv_aload_n hx hb dX4_passStretch_61 rfl (lv_at hl 2 rfl) ?_
      refine lv_iload hx hb dX4_passStretch_62 (lv_at hl 4 rfl) ?_
      refine g_aald (n := 8) hx hb hG 4 rfl hP.2.1 o ⟨by omega, by omega, by decide⟩ dX4_passStretch_64 (v := .ref (bx + 5 + 6 * o)) rfl ?_
      refine lv_astore (lv' := [(5, .ref (bx + 5 + 6 * o)), (0, .ref bx), (1, .int (z2 (u))), (2, .ref (bx + 1)), (3, .int (z2 (8))), (4, .int (z2 (((o : Nat) : Int))))]) hx hb dX4_passStretch_65 hl (by decide) rfl (fun ls hl => ?_)
      refine lv_aload hx hb dX4_passStretch_67 (lv_at hl 0 rfl) ?_
      refine lv_aload_n hx hb dX4_passStretch_69 rfl (lv_at hl 1 rfl) ?_
      have b_70 : 0 ≤ ((pa2 (psA X u) o)) 6 0 ∧ ((pa2 (psA X u) o)) 6 0 ≤ 1000000 := hV.1 6 _ rfl
      refine g_get (C := RX4) (T := TX4) (N := 7) hx hb hts inX4 hown hG hP.1 rfl 6 (by decide) (by decide +kernel) rfl (v := .int (z2 (((pa2 (psA X u) o)) 6 0))) rfl dX4_passStretch_70 ?_
      refine g_run (vx_runV (As := [.int (z2 (((pa2 (psA X u) o)) 6 0))]) (rest := []) ⟨hx, hb, hml, hown, hts⟩ (k_stopEnded l D ks bx ml (pa2 (psA X u) o) _ hP hV (by omega) (((pa2 (psA X u) o)) 6 0) ⟨by omega, by omega⟩) (cwV 1 hts gX4_passStretch_X2_stopEndedBells rfl rfl rfl (by decide +kernel) ⟨Nat.le_of_ble_eq_true rfl, Nat.le_of_ble_eq_true rfl⟩) (g_preV (r := (RX2, TX2, 13)) hG hS rx_ge (hP.hs (by omega)) rfl) rfl rfl hl.1 rfl (lv_room (Nat.le_of_ble_eq_true rfl)) dX4_passStretch_73 ⟨Nat.le_of_ble_eq_true rfl, Nat.le_of_ble_eq_true rfl⟩) hS (fun _ h => h) (fun _ _ _ _ _ h => h.elim) (fun v H1 locs hp hz9 hk9 hS => ?_)
      obtain ⟨rfl, hP⟩ := hp
      refine W.eq (g2 := F0 m 76 ls []) rfl ?_
      refine b_iinc (lv' := [(4, .int (z2 (((o : Nat) : Int) + 1))), (5, .ref (bx + 5 + 6 * o)), (0, .ref bx), (1, .int (z2 (u))), (2, .ref (bx + 1)), (3, .int (z2 (8)))]) hx hb dX4_passStretch_76 hl (k := 5) rfl (by decide) rfl (fun ls hl => ?_)
      refine lv_goto (tgt := 55) hx hb dX4_passStretch_79 (by decide) ?_
      exact ih (o + 1) _ _ _ (by omega) ⟨by omega, hP, hS, lv_sub hl [2, 3, 4, 5, 0] rfl⟩
  · skip
    refine lv_aload_n hx hb dX4_passStretch_17 rfl (lv_at hl 2 rfl) ?_
    refine lv_iload hx hb dX4_passStretch_18 (lv_at hl 4 rfl) ?_
    refine g_aald (n := 8) hx hb hG 4 rfl hP.2.1 j ⟨by omega, by omega, by decide⟩ dX4_passStretch_20 (v := .ref (bx + 5 + 6 * j)) rfl ?_
    refine lv_astore (lv' := [(5, .ref (bx + 5 + 6 * j)), (0, .ref bx), (1, .int (z2 (u))), (2, .ref (bx + 1)), (3, .int (z2 (8))), (4, .int (z2 (((j : Nat) : Int))))]) hx hb dX4_passStretch_21 hl (by decide) rfl (fun ls hl => ?_)
    refine lv_aload hx hb dX4_passStretch_23 (lv_at hl 0 rfl) ?_
    refine lv_aload_n hx hb dX4_passStretch_25 rfl (lv_at hl 1 rfl) ?_
    have b_26 : 0 ≤ ((pa1 X u j)) 6 0 ∧ ((pa1 X u j)) 6 0 ≤ 1000000 := hV.1 6 _ rfl
    refine g_get (C := RX4) (T := TX4) (N := 7) hx hb hts inX4 hown hG hP.1 rfl 6 (by decide) (by decide +kernel) rfl (v := .int (z2 (((pa1 X u j)) 6 0))) rfl dX4_passStretch_26 ?_
    refine lv_iload_n hx hb dX4_passStretch_29 rfl (lv_at hl 2 rfl) ?_
    refine g_run (vx_runV (As := [.int (z2 (((pa1 X u j)) 6 0)), .int (z2 (u))]) (rest := []) ⟨hx, hb, hml, hown, hts⟩ (k_spend l D ks bx ml (pa1 X u j) _ hP hV (by omega) (((pa1 X u j)) 6 0) (u) ⟨⟨by omega, by omega⟩, by omega, by omega⟩) (cwV 2 hts gX4_passStretch_X2_spend rfl rfl rfl (by decide +kernel) ⟨Nat.le_of_ble_eq_true rfl, Nat.le_of_ble_eq_true rfl⟩) (g_preV (r := (RX2, TX2, 13)) hG hS rx_ge (hP.hs (by omega)) rfl) rfl rfl hl.1 rfl (lv_room (Nat.le_of_ble_eq_true rfl)) dX4_passStretch_30 ⟨Nat.le_of_ble_eq_true rfl, Nat.le_of_ble_eq_true rfl⟩) hS (fun _ h => h) (fun _ _ _ _ _ h => h.elim) (fun v H1 locs hp hz9 hk9 hS => ?_)
    obtain ⟨rfl, hP⟩ := hp
    refine W.eq (g2 := F0 m 33 ls []) rfl ?_
    refine b_iinc (lv' := [(4, .int (z2 (((j : Nat) : Int) + 1))), (5, .ref (bx + 5 + 6 * j)), (0, .ref bx), (1, .int (z2 (u))), (2, .ref (bx + 1)), (3, .int (z2 (8)))]) hx hb dX4_passStretch_33 hl (k := 5) rfl (by decide) rfl (fun ls hl => ?_)
    refine lv_goto (tgt := 11) hx hb dX4_passStretch_36 (by decide) ?_
    exact ih (j + 1) _ _ _ (by omega) ⟨by omega, hP, hS, lv_sub hl [2, 3, 4, 5, 0] rfl⟩
set_option maxHeartbeats 4000000 in
set_option maxRecDepth 100000 in
theorem k_pass (l : Launch) (D : va_G) (ks : Nat → ClassId) (bx : Nat) (ml : Nat → Nat) (X : Nat → Nat → Int) (H : Heap) (hP : PX D ks bx ml X H) (hV : VX X) (hst : l.stackTraces = false) (u : Int) (hu : -2147483648 ≤ u ∧ u < 2147483648) : KM l yX4_pass wsX4_pass ({ frames := 6, cells := 2, slots := 12, locals := 119 } : Room) D ks bx [.ref bx, .int (z2 u)] H (RX bx) (fun v H1 => ∃ j : Nat, (((1 ≤ u ∧ u ≤ 2000) ∧ X 6 0 + u ≤ 1000000) ∧ j ≤ u ∧ (j = u ∨ X 6 0 + u ≤ paX X (X 6 0 + u) j 6 0)) ∧ v = some (.int (z2 (paX X (X 6 0 + u) j 6 0))) ∧ PX D ks bx ml (paX X (X 6 0 + u) j) H1) (fun E H1 => TX H H1 ∧ ((E = "java/lang/IllegalArgumentException" ∧ (¬ (1 ≤ u ∧ u ≤ 2000))) ∨ (E = "java/lang/IllegalStateException" ∧ ((1 ≤ u ∧ u ≤ 2000) ∧ 1000000 < X 6 0 + u)))) := by
  refine KM.of (cc := cX4_pass) (maxL := 4) (ret := (some .int)) (by decide) rfl (Nat.le_of_ble_eq_true rfl) ?_
  intro p e s m below meth c hx hb hml hr hlocks hown hname hts hext hH0 hG ls hl
  subst hH0
  have hown : s.vm.findClass RX4 = some m.cls := hown
  have hS : va_S (AR (RX bx) s.heap.size) s.heap s.heap [] := va_S.rf
  have hl : lv_has ls 4 [(0, .ref bx), (1, .int (z2 (u)))] := hl
  have inX4 : ∀ w ∈ wsX40, w ∈ wsX4_pass := by decide +kernel
  have hw1 : ∀ w ∈ (vx_atS RX4 52 "java/lang/IllegalArgumentException" nm2).filter goodWord, w ∈ wsX4_pass := by decide +kernel
  have hw2 : ∀ w ∈ (vx_atS RX4 61 "java/lang/IllegalStateException" nm2).filter goodWord, w ∈ wsX4_pass := by decide +kernel
  have hbx : bx ≤ s.heap.size := Nat.le_of_lt (ca.lt hP.1)
  have b6 : 0 ≤ X 6 0 ∧ X 6 0 ≤ 1000000 := hV.1 6 0 rfl
  have hV0 := hV
  refine lv_iload_n hx hb dX4_pass_0 rfl (lv_at hl 1 rfl) ?_
  refine b_iconst hx hb dX4_pass_1 ?_
  refine b_icmp_lt (tgt := 12) hx hb dX4_pass_2 (by decide) ⟨⟨by omega, by omega⟩, ⟨by omega, by omega⟩⟩ (fun c_2 => ?_) (fun c_2 => ?_)
  · skip
    exact g_throw hx hb hst hts hown hG (by decide +kernel) (List.mem_of_getElem? (i := 18) rfl) (by decide +kernel) (by decide +kernel) hw1 thr_ng1 (List.mem_of_getElem? (i := 29) rfl) thr_go1 hS rx_ge hbx (hl.1.trans hml.symm) dX4_pass_12 dX4_pass_15 dX4_pass_16 dX4_pass_18 dX4_pass_21 hext ⟨Nat.le_of_ble_eq_true rfl, Nat.le_of_ble_eq_true rfl, Nat.le_of_ble_eq_true rfl, Nat.le_of_ble_eq_true rfl⟩ hlocks ⟨Nat.le_of_ble_eq_true rfl, Nat.le_of_ble_eq_true rfl⟩ (fun H1 hz9 hk9 => ⟨⟨hz9, hk9⟩, Or.inl (⟨rfl, by omega⟩)⟩)
  · skip
    refine lv_iload_n hx hb dX4_pass_5 rfl (lv_at hl 1 rfl) ?_
    refine b_sipush hx hb dX4_pass_6 (by decide +kernel) ?_
    refine b_icmp_le (tgt := 22) hx hb dX4_pass_9 (by decide) ⟨⟨by omega, by omega⟩, ⟨by omega, by omega⟩⟩ (fun c_9 => ?_) (fun c_9 => ?_)
    · skip
      refine lv_aload_n hx hb dX4_pass_22 rfl (lv_at hl 0 rfl) ?_
      have b_23 : 0 ≤ X 6 0 ∧ X 6 0 ≤ 1000000 := hV.1 6 _ rfl
      refine g_get (C := RX4) (T := TX4) (N := 7) hx hb hts inX4 hown hG hP.1 rfl 6 (by decide) (by decide +kernel) rfl (v := .int (z2 (X 6 0))) rfl dX4_pass_23 ?_
      refine lv_iload_n hx hb dX4_pass_26 rfl (lv_at hl 1 rfl) ?_
      refine b_iadd hx hb dX4_pass_27 ?_
      refine lv_ldc (v := z2 1000000) hx hb hown (hts _ (by decide +kernel)) dX4_pass_28 ?_
      refine b_icmp_le (tgt := 43) hx hb dX4_pass_30 (by decide) ⟨⟨by omega, by omega⟩, ⟨by omega, by omega⟩⟩ (fun c_30 => ?_) (fun c_30 => ?_)
      · skip
        refine lv_aload_n hx hb dX4_pass_43 rfl (lv_at hl 0 rfl) ?_
        have b_44 : 0 ≤ X 6 0 ∧ X 6 0 ≤ 1000000 := hV.1 6 _ rfl
        refine g_get (C := RX4) (T := TX4) (N := 7) hx hb hts inX4 hown hG hP.1 rfl 6 (by decide) (by decide +kernel) rfl (v := .int (z2 (X 6 0))) rfl dX4_pass_44 ?_
        refine lv_iload_n hx hb dX4_pass_47 rfl (lv_at hl 1 rfl) ?_
        refine b_iadd hx hb dX4_pass_48 ?_
        refine lv_istore_n (lv' := [(2, .int (z2 ((X 6 0) + u))), (0, .ref bx), (1, .int (z2 (u)))]) hx hb dX4_pass_49 rfl hl (by decide) rfl (fun ls hl => ?_)
        refine b_iconst hx hb dX4_pass_50 ?_
        refine lv_istore_n (lv' := [(3, .int (z2 (0))), (2, .int (z2 ((X 6 0) + u))), (0, .ref bx), (1, .int (z2 (u)))]) hx hb dX4_pass_51 rfl hl (by decide) rfl (fun ls hl => ?_)
        refine lp_ms (σ := Nat) (fun j H locs ls => j ≤ u.toNat ∧ PX D ks bx ml (paX X (X 6 0 + u) j) H ∧ va_S (AR (RX bx) s.heap.size) s.heap H locs ∧ lv_has ls 4 [(0, .ref bx), (1, .int (z2 (u))), (2, .int (z2 (X 6 0 + u))), (3, .int (z2 (((j : Nat) : Int))))]) (fun j => u.toNat - j) (fun j H locs ls hI ih => ?_) 0 ⟨by omega, hP, hS, lv_sub hl [2, 3, 1, 0] rfl⟩
        obtain ⟨hkN, hP, hS, hl⟩ := hI
        have hV := vx_pa hV0 (e := X 6 0 + u) (by omega) j
        refine lv_iload_n hx hb dX4_pass_52 rfl (lv_at hl 3 rfl) ?_
        refine lv_iload_n hx hb dX4_pass_53 rfl (lv_at hl 1 rfl) ?_
        refine b_icmp_ge (tgt := 80) hx hb dX4_pass_54 (by decide) ⟨⟨by omega, by omega⟩, ⟨by omega, by omega⟩⟩ (fun c_54 => ?_) (fun c_54 => ?_)
        · skip
          refine lv_aload_n hx hb dX4_pass_80 rfl (lv_at hl 0 rfl) ?_
          have b_81 : 0 ≤ ((paX X (X 6 0 + u) j)) 6 0 ∧ ((paX X (X 6 0 + u) j)) 6 0 ≤ 1000000 := hV.1 6 _ rfl
          refine g_get (C := RX4) (T := TX4) (N := 7) hx hb hts inX4 hown hG hP.1 rfl 6 (by decide) (by decide +kernel) rfl (v := .int (z2 (((paX X (X 6 0 + u) j)) 6 0))) rfl dX4_pass_81 ?_
          exact g_iret hx hb hr hlocks hS ⟨Nat.le_of_ble_eq_true rfl, Nat.le_of_ble_eq_true rfl⟩ (⟨j, by omega, rfl, hP⟩) dX4_pass_84
        · skip
          refine lv_aload_n hx hb dX4_pass_57 rfl (lv_at hl 0 rfl) ?_
          have b_58 : 0 ≤ ((paX X (X 6 0 + u) j)) 6 0 ∧ ((paX X (X 6 0 + u) j)) 6 0 ≤ 1000000 := hV.1 6 _ rfl
          refine g_get (C := RX4) (T := TX4) (N := 7) hx hb hts inX4 hown hG hP.1 rfl 6 (by decide) (by decide +kernel) rfl (v := .int (z2 (((paX X (X 6 0 + u) j)) 6 0))) rfl dX4_pass_58 ?_
          refine lv_iload_n hx hb dX4_pass_61 rfl (lv_at hl 2 rfl) ?_
          refine b_icmp_ge (tgt := 80) hx hb dX4_pass_62 (by decide) ⟨⟨by omega, by omega⟩, ⟨by omega, by omega⟩⟩ (fun c_62 => ?_) (fun c_62 => ?_)
          · skip
            refine lv_aload_n hx hb dX4_pass_80 rfl (lv_at hl 0 rfl) ?_
            have b_81 : 0 ≤ ((paX X (X 6 0 + u) j)) 6 0 ∧ ((paX X (X 6 0 + u) j)) 6 0 ≤ 1000000 := hV.1 6 _ rfl
            refine g_get (C := RX4) (T := TX4) (N := 7) hx hb hts inX4 hown hG hP.1 rfl 6 (by decide) (by decide +kernel) rfl (v := .int (z2 (((paX X (X 6 0 + u) j)) 6 0))) rfl dX4_pass_81 ?_
            exact g_iret hx hb hr hlocks hS ⟨Nat.le_of_ble_eq_true rfl, Nat.le_of_ble_eq_true rfl⟩ (⟨j, by omega, rfl, hP⟩) dX4_pass_84
          · skip
            refine lv_aload_n hx hb dX4_pass_65 rfl (lv_at hl 0 rfl) ?_
            refine lv_aload_n hx hb dX4_pass_66 rfl (lv_at hl 0 rfl) ?_
            refine lv_iload_n hx hb dX4_pass_67 rfl (lv_at hl 2 rfl) ?_
            refine g_run (vx_runV (As := [.int (z2 (X 6 0 + u))]) (rest := [.ref bx]) ⟨hx, hb, hml, hown, hts⟩ (k_nextChange l D ks bx ml (paX X (X 6 0 + u) j) _ hP hV (X 6 0 + u) (by omega) (by omega)) (cwV 1 hts gX4_pass_X4_nextChange rfl rfl rfl (by decide +kernel) ⟨Nat.le_of_ble_eq_true rfl, Nat.le_of_ble_eq_true rfl⟩) (g_preV (r := (RX4, TX4, 7)) hG hS rx_ge hP.1 rfl) rfl rfl hl.1 rfl (lv_room (Nat.le_of_ble_eq_true rfl)) dX4_pass_68 ⟨Nat.le_of_ble_eq_true rfl, Nat.le_of_ble_eq_true rfl⟩) hS (fun _ h => h) (fun _ _ _ _ _ h => h.elim) (fun v H1 locs hp hz9 hk9 hS => ?_)
            obtain ⟨rfl, hH9⟩ := hp
            obtain rfl := hH9.symm
            have nb_68 := ncS_b hV (e := X 6 0 + u) (by omega)
            refine W.eq (g2 := F0 m 71 ls [.int (z2 (ncS (paX X (X 6 0 + u) j) (X 6 0 + u))), .ref bx]) rfl ?_
            refine g_run (vx_runV (As := [.int (z2 (ncS (paX X (X 6 0 + u) j) (X 6 0 + u)))]) (rest := []) ⟨hx, hb, hml, hown, hts⟩ (k_passStretch l D ks bx ml (paX X (X 6 0 + u) j) _ hP hV (ncS (paX X (X 6 0 + u) j) (X 6 0 + u)) (by omega) (by omega)) (cwV 1 hts gX4_pass_X4_passStretch rfl rfl rfl (by decide +kernel) ⟨Nat.le_of_ble_eq_true rfl, Nat.le_of_ble_eq_true rfl⟩) (g_preV (r := (RX4, TX4, 7)) hG hS rx_ge hP.1 rfl) rfl rfl hl.1 rfl (lv_room (Nat.le_of_ble_eq_true rfl)) dX4_pass_71 ⟨Nat.le_of_ble_eq_true rfl, Nat.le_of_ble_eq_true rfl⟩) hS (fun _ h => h) (fun _ _ _ _ _ h => h.elim) (fun v H1 locs hp hz9 hk9 hS => ?_)
            obtain ⟨rfl, hP⟩ := hp
            refine W.eq (g2 := F0 m 74 ls []) rfl ?_
            refine b_iinc (lv' := [(3, .int (z2 (((j : Nat) : Int) + 1))), (0, .ref bx), (1, .int (z2 (u))), (2, .int (z2 (X 6 0 + u)))]) hx hb dX4_pass_74 hl (k := 3) rfl (by decide) rfl (fun ls hl => ?_)
            refine lv_goto (tgt := 52) hx hb dX4_pass_77 (by decide) ?_
            have e2 : paX X (X 6 0 + u) (j + 1) = psS (paX X (X 6 0 + u) j) (ncS (paX X (X 6 0 + u) j) (X 6 0 + u)) := if_pos (by omega)
            exact ih (j + 1) _ _ _ (by omega) ⟨by omega, (by rw [e2]; exact hP), hS, lv_sub hl [1, 2, 3, 0] rfl⟩
      · skip
        exact g_throw hx hb hst hts hown hG (by decide +kernel) (List.mem_of_getElem? (i := 19) rfl) (by decide +kernel) (by decide +kernel) hw2 thr_ng2 (List.mem_of_getElem? (i := 30) rfl) thr_go2 hS rx_ge hbx (hl.1.trans hml.symm) dX4_pass_33 dX4_pass_36 dX4_pass_37 dX4_pass_39 dX4_pass_42 hext ⟨Nat.le_of_ble_eq_true rfl, Nat.le_of_ble_eq_true rfl, Nat.le_of_ble_eq_true rfl, Nat.le_of_ble_eq_true rfl⟩ hlocks ⟨Nat.le_of_ble_eq_true rfl, Nat.le_of_ble_eq_true rfl⟩ (fun H1 hz9 hk9 => ⟨⟨hz9, hk9⟩, Or.inr (⟨rfl, by omega⟩)⟩)
    · skip
      exact g_throw hx hb hst hts hown hG (by decide +kernel) (List.mem_of_getElem? (i := 18) rfl) (by decide +kernel) (by decide +kernel) hw1 thr_ng1 (List.mem_of_getElem? (i := 29) rfl) thr_go1 hS rx_ge hbx (hl.1.trans hml.symm) dX4_pass_12 dX4_pass_15 dX4_pass_16 dX4_pass_18 dX4_pass_21 hext ⟨Nat.le_of_ble_eq_true rfl, Nat.le_of_ble_eq_true rfl, Nat.le_of_ble_eq_true rfl, Nat.le_of_ble_eq_true rfl⟩ hlocks ⟨Nat.le_of_ble_eq_true rfl, Nat.le_of_ble_eq_true rfl⟩ (fun H1 hz9 hk9 => ⟨⟨hz9, hk9⟩, Or.inl (⟨rfl, by omega⟩)⟩)
set_option maxHeartbeats 4000000 in
set_option maxRecDepth 100000 in
theorem k_time (l : Launch) (D : va_G) (ks : Nat → ClassId) (bx : Nat) (ml : Nat → Nat) (X : Nat → Nat → Int) (H : Heap) (hP : PX D ks bx ml X H) (hV : VX X) : KM l yX4_time wsX4_time ({ frames := 0, cells := 0, slots := 0, locals := 0 } : Room) D ks bx [.ref bx] H (RX bx) (fun v H1 => v = some (.int (z2 (X 6 0))) ∧ H1 = H) (fun _ _ => False) := by
  refine KM.of (cc := cX4_time) (maxL := 1) (ret := (some .int)) (by decide) rfl (Nat.le_of_ble_eq_true rfl) ?_
  intro p e s m below meth c hx hb hml hr hlocks hown hname hts hext hH0 hG ls hl
  subst hH0
  have hown : s.vm.findClass RX4 = some m.cls := hown
  have hS : va_S (AR (RX bx) s.heap.size) s.heap s.heap [] := va_S.rf
  have hl : lv_has ls 1 [(0, .ref bx)] := hl
  have inX4 : ∀ w ∈ wsX40, w ∈ wsX4_time := by decide +kernel
  refine lv_aload_n hx hb dX4_time_0 rfl (lv_at hl 0 rfl) ?_
  have b_1 : 0 ≤ X 6 0 ∧ X 6 0 ≤ 1000000 := hV.1 6 _ rfl
  refine g_get (C := RX4) (T := TX4) (N := 7) hx hb hts inX4 hown hG hP.1 rfl 6 (by decide) (by decide +kernel) rfl (v := .int (z2 (X 6 0))) rfl dX4_time_1 ?_
  exact g_iret hx hb hr hlocks hS ⟨Nat.le_of_ble_eq_true rfl, Nat.le_of_ble_eq_true rfl⟩ (⟨rfl, rfl⟩) dX4_time_4
set_option maxHeartbeats 4000000 in
set_option maxRecDepth 100000 in
theorem k_faults (l : Launch) (D : va_G) (ks : Nat → ClassId) (bx : Nat) (ml : Nat → Nat) (X : Nat → Nat → Int) (H : Heap) (hP : PX D ks bx ml X H) (hV : VX X) : KM l yX4_faults wsX4_faults ({ frames := 0, cells := 0, slots := 0, locals := 0 } : Room) D ks bx [.ref bx] H (RX bx) (fun v H1 => v = some (.int (z2 (X 5 0))) ∧ H1 = H) (fun _ _ => False) := by
  refine KM.of (cc := cX4_faults) (maxL := 1) (ret := (some .int)) (by decide) rfl (Nat.le_of_ble_eq_true rfl) ?_
  intro p e s m below meth c hx hb hml hr hlocks hown hname hts hext hH0 hG ls hl
  subst hH0
  have hown : s.vm.findClass RX4 = some m.cls := hown
  have hS : va_S (AR (RX bx) s.heap.size) s.heap s.heap [] := va_S.rf
  have hl : lv_has ls 1 [(0, .ref bx)] := hl
  have inX4 : ∀ w ∈ wsX40, w ∈ wsX4_faults := by decide +kernel
  refine lv_aload_n hx hb dX4_faults_0 rfl (lv_at hl 0 rfl) ?_
  have b_1 : 0 ≤ X 5 0 ∧ X 5 0 ≤ 100 := hV.1 5 _ rfl
  refine g_get (C := RX4) (T := TX4) (N := 7) hx hb hts inX4 hown hG hP.1 rfl 5 (by decide) (by decide +kernel) rfl (v := .int (z2 (X 5 0))) rfl dX4_faults_1 ?_
  exact g_iret hx hb hr hlocks hS ⟨Nat.le_of_ble_eq_true rfl, Nat.le_of_ble_eq_true rfl⟩ (⟨rfl, rfl⟩) dX4_faults_4
set_option maxHeartbeats 4000000 in
set_option maxRecDepth 100000 in
theorem k_ringing (l : Launch) (D : va_G) (ks : Nat → ClassId) (bx : Nat) (ml : Nat → Nat) (X : Nat → Nat → Int) (H : Heap) (hP : PX D ks bx ml X H) (hV : VX X) (hst : l.stackTraces = false) (u : Int) (hu : -2147483648 ≤ u ∧ u < 2147483648) : KM l yX4_ringing wsX4_ringing ({ frames := 8, cells := 1, slots := 6, locals := 132 } : Room) D ks bx [.ref bx, .int (z2 u)] H (RX bx) (fun v H1 => ∃ n : Nat, (u = n ∧ n < 8) ∧ v = some (.int (z2 (rsS X n))) ∧ H1 = H) (fun E H1 => TX H H1 ∧ ((E = "java/lang/IndexOutOfBoundsException" ∧ (¬ (0 ≤ u ∧ u < 8))))) := by
  refine KM.of (cc := cX4_ringing) (maxL := 2) (ret := (some .int)) (by decide) rfl (Nat.le_of_ble_eq_true rfl) ?_
  intro p e s m below meth c hx hb hml hr hlocks hown hname hts hext hH0 hG ls hl
  subst hH0
  have hown : s.vm.findClass RX4 = some m.cls := hown
  have hS : va_S (AR (RX bx) s.heap.size) s.heap s.heap [] := va_S.rf
  have hl : lv_has ls 2 [(0, .ref bx), (1, .int (z2 (u)))] := hl
  have hbx : bx ≤ s.heap.size := Nat.le_of_lt (ca.lt hP.1)
  refine lv_aload_n hx hb dX4_ringing_0 rfl (lv_at hl 0 rfl) ?_
  refine lv_iload_n hx hb dX4_ringing_1 rfl (lv_at hl 1 rfl) ?_
  refine g_run (vx_runV (As := [.int (z2 (u))]) (rest := []) ⟨hx, hb, hml, hown, hts⟩ (k_houseAt l D ks bx ml X _ hP hV hst (u) (by omega)) (cwV 1 hts gX4_ringing_X4_houseAt rfl rfl rfl (by decide +kernel) ⟨Nat.le_of_ble_eq_true rfl, Nat.le_of_ble_eq_true rfl⟩) (g_preV (r := (RX4, TX4, 7)) hG hS rx_ge hP.1 rfl) rfl rfl hl.1 rfl (lv_room (Nat.le_of_ble_eq_true rfl)) dX4_ringing_2 ⟨Nat.le_of_ble_eq_true rfl, Nat.le_of_ble_eq_true rfl⟩) hS (fun _ h => h) (fun E ce q9 H1 locs1 hp hz9 hk9 hS hce hcv hcl => g_out hext hlocks hS hce hcv hcl ⟨Nat.le_of_ble_eq_true rfl, Nat.le_of_ble_eq_true rfl⟩ (by obtain ⟨t9, e9, c9⟩ := hp; exact ⟨t9, ⟨e9, by omega⟩⟩)) (fun v H1 locs hp hz9 hk9 hS => ?_)
  obtain ⟨n, ⟨en_2, hn⟩, rfl, hH9⟩ := hp
  obtain rfl := hH9.symm
  refine W.eq (g2 := F0 m 5 ls [.ref (bx + 5 + 6 * n)]) rfl ?_
  refine g_run (vx_runV (As := []) (rest := []) ⟨hx, hb, hml, hown, hts⟩ (k_ringingSet l D ks bx ml X _ hP hV hn) (cwV 0 hts gX4_ringing_X2_ringingSet rfl rfl rfl (by decide +kernel) ⟨Nat.le_of_ble_eq_true rfl, Nat.le_of_ble_eq_true rfl⟩) (g_preV (r := (RX2, TX2, 13)) hG hS rx_ge (hP.hs hn) rfl) rfl rfl hl.1 rfl (lv_room (Nat.le_of_ble_eq_true rfl)) dX4_ringing_5 ⟨Nat.le_of_ble_eq_true rfl, Nat.le_of_ble_eq_true rfl⟩) hS (fun _ h => h) (fun _ _ _ _ _ h => h.elim) (fun v H1 locs hp hz9 hk9 hS => ?_)
  obtain ⟨rfl, hH9⟩ := hp
  obtain rfl := hH9.symm
  have rb_5 := rsS_b X n
  refine W.eq (g2 := F0 m 8 ls [.int (z2 (rsS X n))]) rfl ?_
  exact g_iret hx hb hr hlocks hS ⟨Nat.le_of_ble_eq_true rfl, Nat.le_of_ble_eq_true rfl⟩ (⟨n, by omega, rfl, rfl⟩) dX4_ringing_8
set_option maxHeartbeats 4000000 in
set_option maxRecDepth 100000 in
theorem k_isSound (l : Launch) (D : va_G) (ks : Nat → ClassId) (bx : Nat) (ml : Nat → Nat) (X : Nat → Nat → Int) (H : Heap) (hP : PX D ks bx ml X H) (hV : VX X) (hst : l.stackTraces = false) (u : Int) (hu : -2147483648 ≤ u ∧ u < 2147483648) : KM l yX4_isSound wsX4_isSound ({ frames := 8, cells := 1, slots := 6, locals := 132 } : Room) D ks bx [.ref bx, .int (z2 u)] H (RX bx) (fun v H1 => ∃ n : Nat, (u = n ∧ n < 8) ∧ v = some (.int (z2 (X 14 n))) ∧ H1 = H) (fun E H1 => TX H H1 ∧ ((E = "java/lang/IndexOutOfBoundsException" ∧ (¬ (0 ≤ u ∧ u < 8))))) := by
  refine KM.of (cc := cX4_isSound) (maxL := 2) (ret := (some .boolean)) (by decide) rfl (Nat.le_of_ble_eq_true rfl) ?_
  intro p e s m below meth c hx hb hml hr hlocks hown hname hts hext hH0 hG ls hl
  subst hH0
  have hown : s.vm.findClass RX4 = some m.cls := hown
  have hS : va_S (AR (RX bx) s.heap.size) s.heap s.heap [] := va_S.rf
  have hl : lv_has ls 2 [(0, .ref bx), (1, .int (z2 (u)))] := hl
  have inX2 : ∀ w ∈ wsX20, w ∈ wsX4_isSound := by decide +kernel
  have hbx : bx ≤ s.heap.size := Nat.le_of_lt (ca.lt hP.1)
  refine lv_aload_n hx hb dX4_isSound_0 rfl (lv_at hl 0 rfl) ?_
  refine lv_iload_n hx hb dX4_isSound_1 rfl (lv_at hl 1 rfl) ?_
  refine g_run (vx_runV (As := [.int (z2 (u))]) (rest := []) ⟨hx, hb, hml, hown, hts⟩ (k_houseAt l D ks bx ml X _ hP hV hst (u) (by omega)) (cwV 1 hts gX4_isSound_X4_houseAt rfl rfl rfl (by decide +kernel) ⟨Nat.le_of_ble_eq_true rfl, Nat.le_of_ble_eq_true rfl⟩) (g_preV (r := (RX4, TX4, 7)) hG hS rx_ge hP.1 rfl) rfl rfl hl.1 rfl (lv_room (Nat.le_of_ble_eq_true rfl)) dX4_isSound_2 ⟨Nat.le_of_ble_eq_true rfl, Nat.le_of_ble_eq_true rfl⟩) hS (fun _ h => h) (fun E ce q9 H1 locs1 hp hz9 hk9 hS hce hcv hcl => g_out hext hlocks hS hce hcv hcl ⟨Nat.le_of_ble_eq_true rfl, Nat.le_of_ble_eq_true rfl⟩ (by obtain ⟨t9, e9, c9⟩ := hp; exact ⟨t9, ⟨e9, by omega⟩⟩)) (fun v H1 locs hp hz9 hk9 hS => ?_)
  obtain ⟨n, ⟨en_2, hn⟩, rfl, hH9⟩ := hp
  obtain rfl := hH9.symm
  refine W.eq (g2 := F0 m 5 ls [.ref (bx + 5 + 6 * n)]) rfl ?_
  have b_5 : 0 ≤ X 14 n ∧ X 14 n ≤ 1 := hV.1 14 _ rfl
  refine g_getN (C := RX2) (T := TX2) (N := 13) hx hb hts inX2 hown hG (hP.hs hn) rfl 4 (by decide) (List.mem_of_getElem? (i := 8) rfl) rfl (v := .int (z2 (X 14 n))) rfl dX4_isSound_5 ?_
  have zn9 : narrow .boolean (.int (z2 (X 14 n))) = .int (z2 (X 14 n)) := by rcases (show X 14 n = 1 ∨ X 14 n = 0 by omega) with q | q <;> (rw [q]; decide +kernel)
  exact g_zret hx hb hr hlocks hS zn9 ⟨Nat.le_of_ble_eq_true rfl, Nat.le_of_ble_eq_true rfl⟩ (⟨n, by omega, rfl, rfl⟩) dX4_isSound_8
set_option maxHeartbeats 4000000 in
set_option maxRecDepth 100000 in
theorem k_points (l : Launch) (D : va_G) (ks : Nat → ClassId) (bx : Nat) (ml : Nat → Nat) (X : Nat → Nat → Int) (H : Heap) (hP : PX D ks bx ml X H) (hV : VX X) (hst : l.stackTraces = false) (u : Int) (hu : -2147483648 ≤ u ∧ u < 2147483648) : KM l yX4_points wsX4_points ({ frames := 8, cells := 1, slots := 6, locals := 132 } : Room) D ks bx [.ref bx, .int (z2 u)] H (RX bx) (fun v H1 => ∃ n : Nat, (u = n ∧ n < 8) ∧ v = some (.int (z2 (X 17 n))) ∧ H1 = H) (fun E H1 => TX H H1 ∧ ((E = "java/lang/IndexOutOfBoundsException" ∧ (¬ (0 ≤ u ∧ u < 8))))) := by
  refine KM.of (cc := cX4_points) (maxL := 2) (ret := (some .int)) (by decide) rfl (Nat.le_of_ble_eq_true rfl) ?_
  intro p e s m below meth c hx hb hml hr hlocks hown hname hts hext hH0 hG ls hl
  subst hH0
  have hown : s.vm.findClass RX4 = some m.cls := hown
  have hS : va_S (AR (RX bx) s.heap.size) s.heap s.heap [] := va_S.rf
  have hl : lv_has ls 2 [(0, .ref bx), (1, .int (z2 (u)))] := hl
  have inX2 : ∀ w ∈ wsX20, w ∈ wsX4_points := by decide +kernel
  have hbx : bx ≤ s.heap.size := Nat.le_of_lt (ca.lt hP.1)
  refine lv_aload_n hx hb dX4_points_0 rfl (lv_at hl 0 rfl) ?_
  refine lv_iload_n hx hb dX4_points_1 rfl (lv_at hl 1 rfl) ?_
  refine g_run (vx_runV (As := [.int (z2 (u))]) (rest := []) ⟨hx, hb, hml, hown, hts⟩ (k_houseAt l D ks bx ml X _ hP hV hst (u) (by omega)) (cwV 1 hts gX4_points_X4_houseAt rfl rfl rfl (by decide +kernel) ⟨Nat.le_of_ble_eq_true rfl, Nat.le_of_ble_eq_true rfl⟩) (g_preV (r := (RX4, TX4, 7)) hG hS rx_ge hP.1 rfl) rfl rfl hl.1 rfl (lv_room (Nat.le_of_ble_eq_true rfl)) dX4_points_2 ⟨Nat.le_of_ble_eq_true rfl, Nat.le_of_ble_eq_true rfl⟩) hS (fun _ h => h) (fun E ce q9 H1 locs1 hp hz9 hk9 hS hce hcv hcl => g_out hext hlocks hS hce hcv hcl ⟨Nat.le_of_ble_eq_true rfl, Nat.le_of_ble_eq_true rfl⟩ (by obtain ⟨t9, e9, c9⟩ := hp; exact ⟨t9, ⟨e9, by omega⟩⟩)) (fun v H1 locs hp hz9 hk9 hS => ?_)
  obtain ⟨n, ⟨en_2, hn⟩, rfl, hH9⟩ := hp
  obtain rfl := hH9.symm
  refine W.eq (g2 := F0 m 5 ls [.ref (bx + 5 + 6 * n)]) rfl ?_
  refine g_getN (C := RX2) (T := TX2) (N := 13) hx hb hts inX2 hown hG (hP.hs hn) rfl 7 (by decide) (List.mem_of_getElem? (i := 14) rfl) rfl (v := .int (z2 (X 17 n))) rfl dX4_points_5 ?_
  exact g_iret hx hb hr hlocks hS ⟨Nat.le_of_ble_eq_true rfl, Nat.le_of_ble_eq_true rfl⟩ (⟨n, by omega, rfl, rfl⟩) dX4_points_8
set_option maxHeartbeats 4000000 in
set_option maxRecDepth 100000 in
theorem k_secondsRung (l : Launch) (D : va_G) (ks : Nat → ClassId) (bx : Nat) (ml : Nat → Nat) (X : Nat → Nat → Int) (H : Heap) (hP : PX D ks bx ml X H) (hV : VX X) (hst : l.stackTraces = false) (u : Int) (hu : -2147483648 ≤ u ∧ u < 2147483648) : KM l yX4_secondsRung wsX4_secondsRung ({ frames := 8, cells := 1, slots := 6, locals := 132 } : Room) D ks bx [.ref bx, .int (z2 u)] H (RX bx) (fun v H1 => ∃ n : Nat, (u = n ∧ n < 8) ∧ v = some (.int (z2 (X 18 n))) ∧ H1 = H) (fun E H1 => TX H H1 ∧ ((E = "java/lang/IndexOutOfBoundsException" ∧ (¬ (0 ≤ u ∧ u < 8))))) := by
  refine KM.of (cc := cX4_secondsRung) (maxL := 2) (ret := (some .int)) (by decide) rfl (Nat.le_of_ble_eq_true rfl) ?_
  intro p e s m below meth c hx hb hml hr hlocks hown hname hts hext hH0 hG ls hl
  subst hH0
  have hown : s.vm.findClass RX4 = some m.cls := hown
  have hS : va_S (AR (RX bx) s.heap.size) s.heap s.heap [] := va_S.rf
  have hl : lv_has ls 2 [(0, .ref bx), (1, .int (z2 (u)))] := hl
  have inX2 : ∀ w ∈ wsX20, w ∈ wsX4_secondsRung := by decide +kernel
  have hbx : bx ≤ s.heap.size := Nat.le_of_lt (ca.lt hP.1)
  refine lv_aload_n hx hb dX4_secondsRung_0 rfl (lv_at hl 0 rfl) ?_
  refine lv_iload_n hx hb dX4_secondsRung_1 rfl (lv_at hl 1 rfl) ?_
  refine g_run (vx_runV (As := [.int (z2 (u))]) (rest := []) ⟨hx, hb, hml, hown, hts⟩ (k_houseAt l D ks bx ml X _ hP hV hst (u) (by omega)) (cwV 1 hts gX4_secondsRung_X4_houseAt rfl rfl rfl (by decide +kernel) ⟨Nat.le_of_ble_eq_true rfl, Nat.le_of_ble_eq_true rfl⟩) (g_preV (r := (RX4, TX4, 7)) hG hS rx_ge hP.1 rfl) rfl rfl hl.1 rfl (lv_room (Nat.le_of_ble_eq_true rfl)) dX4_secondsRung_2 ⟨Nat.le_of_ble_eq_true rfl, Nat.le_of_ble_eq_true rfl⟩) hS (fun _ h => h) (fun E ce q9 H1 locs1 hp hz9 hk9 hS hce hcv hcl => g_out hext hlocks hS hce hcv hcl ⟨Nat.le_of_ble_eq_true rfl, Nat.le_of_ble_eq_true rfl⟩ (by obtain ⟨t9, e9, c9⟩ := hp; exact ⟨t9, ⟨e9, by omega⟩⟩)) (fun v H1 locs hp hz9 hk9 hS => ?_)
  obtain ⟨n, ⟨en_2, hn⟩, rfl, hH9⟩ := hp
  obtain rfl := hH9.symm
  refine W.eq (g2 := F0 m 5 ls [.ref (bx + 5 + 6 * n)]) rfl ?_
  refine g_getN (C := RX2) (T := TX2) (N := 13) hx hb hts inX2 hown hG (hP.hs hn) rfl 8 (by decide) (List.mem_of_getElem? (i := 15) rfl) rfl (v := .int (z2 (X 18 n))) rfl dX4_secondsRung_5 ?_
  exact g_iret hx hb hr hlocks hS ⟨Nat.le_of_ble_eq_true rfl, Nat.le_of_ble_eq_true rfl⟩ (⟨n, by omega, rfl, rfl⟩) dX4_secondsRung_8
set_option maxHeartbeats 4000000 in
set_option maxRecDepth 100000 in
theorem k_quietBroken (l : Launch) (D : va_G) (ks : Nat → ClassId) (bx : Nat) (ml : Nat → Nat) (X : Nat → Nat → Int) (H : Heap) (hP : PX D ks bx ml X H) (hV : VX X) (hst : l.stackTraces = false) (u : Int) (hu : -2147483648 ≤ u ∧ u < 2147483648) : KM l yX4_quietBroken wsX4_quietBroken ({ frames := 8, cells := 1, slots := 6, locals := 132 } : Room) D ks bx [.ref bx, .int (z2 u)] H (RX bx) (fun v H1 => ∃ n : Nat, (u = n ∧ n < 8) ∧ v = some (.int (z2 (X 19 n))) ∧ H1 = H) (fun E H1 => TX H H1 ∧ ((E = "java/lang/IndexOutOfBoundsException" ∧ (¬ (0 ≤ u ∧ u < 8))))) := by
  refine KM.of (cc := cX4_quietBroken) (maxL := 2) (ret := (some .int)) (by decide) rfl (Nat.le_of_ble_eq_true rfl) ?_
  intro p e s m below meth c hx hb hml hr hlocks hown hname hts hext hH0 hG ls hl
  subst hH0
  have hown : s.vm.findClass RX4 = some m.cls := hown
  have hS : va_S (AR (RX bx) s.heap.size) s.heap s.heap [] := va_S.rf
  have hl : lv_has ls 2 [(0, .ref bx), (1, .int (z2 (u)))] := hl
  have inX2 : ∀ w ∈ wsX20, w ∈ wsX4_quietBroken := by decide +kernel
  have hbx : bx ≤ s.heap.size := Nat.le_of_lt (ca.lt hP.1)
  refine lv_aload_n hx hb dX4_quietBroken_0 rfl (lv_at hl 0 rfl) ?_
  refine lv_iload_n hx hb dX4_quietBroken_1 rfl (lv_at hl 1 rfl) ?_
  refine g_run (vx_runV (As := [.int (z2 (u))]) (rest := []) ⟨hx, hb, hml, hown, hts⟩ (k_houseAt l D ks bx ml X _ hP hV hst (u) (by omega)) (cwV 1 hts gX4_quietBroken_X4_houseAt rfl rfl rfl (by decide +kernel) ⟨Nat.le_of_ble_eq_true rfl, Nat.le_of_ble_eq_true rfl⟩) (g_preV (r := (RX4, TX4, 7)) hG hS rx_ge hP.1 rfl) rfl rfl hl.1 rfl (lv_room (Nat.le_of_ble_eq_true rfl)) dX4_quietBroken_2 ⟨Nat.le_of_ble_eq_true rfl, Nat.le_of_ble_eq_true rfl⟩) hS (fun _ h => h) (fun E ce q9 H1 locs1 hp hz9 hk9 hS hce hcv hcl => g_out hext hlocks hS hce hcv hcl ⟨Nat.le_of_ble_eq_true rfl, Nat.le_of_ble_eq_true rfl⟩ (by obtain ⟨t9, e9, c9⟩ := hp; exact ⟨t9, ⟨e9, by omega⟩⟩)) (fun v H1 locs hp hz9 hk9 hS => ?_)
  obtain ⟨n, ⟨en_2, hn⟩, rfl, hH9⟩ := hp
  obtain rfl := hH9.symm
  refine W.eq (g2 := F0 m 5 ls [.ref (bx + 5 + 6 * n)]) rfl ?_
  refine g_getN (C := RX2) (T := TX2) (N := 13) hx hb hts inX2 hown hG (hP.hs hn) rfl 9 (by decide) (List.mem_of_getElem? (i := 16) rfl) rfl (v := .int (z2 (X 19 n))) rfl dX4_quietBroken_5 ?_
  exact g_iret hx hb hr hlocks hS ⟨Nat.le_of_ble_eq_true rfl, Nat.le_of_ble_eq_true rfl⟩ (⟨n, by omega, rfl, rfl⟩) dX4_quietBroken_8
set_option maxHeartbeats 4000000 in
set_option maxRecDepth 100000 in
theorem k_hushed (l : Launch) (D : va_G) (ks : Nat → ClassId) (bx : Nat) (ml : Nat → Nat) (X : Nat → Nat → Int) (H : Heap) (hP : PX D ks bx ml X H) (hV : VX X) (hst : l.stackTraces = false) (u : Int) (hu : -2147483648 ≤ u ∧ u < 2147483648) : KM l yX4_hushed wsX4_hushed ({ frames := 8, cells := 1, slots := 6, locals := 132 } : Room) D ks bx [.ref bx, .int (z2 u)] H (RX bx) (fun v H1 => ∃ n : Nat, (u = n ∧ n < 8) ∧ v = some (.int (z2 (X 20 n))) ∧ H1 = H) (fun E H1 => TX H H1 ∧ ((E = "java/lang/IndexOutOfBoundsException" ∧ (¬ (0 ≤ u ∧ u < 8))))) := by
  refine KM.of (cc := cX4_hushed) (maxL := 2) (ret := (some .int)) (by decide) rfl (Nat.le_of_ble_eq_true rfl) ?_
  intro p e s m below meth c hx hb hml hr hlocks hown hname hts hext hH0 hG ls hl
  subst hH0
  have hown : s.vm.findClass RX4 = some m.cls := hown
  have hS : va_S (AR (RX bx) s.heap.size) s.heap s.heap [] := va_S.rf
  have hl : lv_has ls 2 [(0, .ref bx), (1, .int (z2 (u)))] := hl
  have inX2 : ∀ w ∈ wsX20, w ∈ wsX4_hushed := by decide +kernel
  have hbx : bx ≤ s.heap.size := Nat.le_of_lt (ca.lt hP.1)
  refine lv_aload_n hx hb dX4_hushed_0 rfl (lv_at hl 0 rfl) ?_
  refine lv_iload_n hx hb dX4_hushed_1 rfl (lv_at hl 1 rfl) ?_
  refine g_run (vx_runV (As := [.int (z2 (u))]) (rest := []) ⟨hx, hb, hml, hown, hts⟩ (k_houseAt l D ks bx ml X _ hP hV hst (u) (by omega)) (cwV 1 hts gX4_hushed_X4_houseAt rfl rfl rfl (by decide +kernel) ⟨Nat.le_of_ble_eq_true rfl, Nat.le_of_ble_eq_true rfl⟩) (g_preV (r := (RX4, TX4, 7)) hG hS rx_ge hP.1 rfl) rfl rfl hl.1 rfl (lv_room (Nat.le_of_ble_eq_true rfl)) dX4_hushed_2 ⟨Nat.le_of_ble_eq_true rfl, Nat.le_of_ble_eq_true rfl⟩) hS (fun _ h => h) (fun E ce q9 H1 locs1 hp hz9 hk9 hS hce hcv hcl => g_out hext hlocks hS hce hcv hcl ⟨Nat.le_of_ble_eq_true rfl, Nat.le_of_ble_eq_true rfl⟩ (by obtain ⟨t9, e9, c9⟩ := hp; exact ⟨t9, ⟨e9, by omega⟩⟩)) (fun v H1 locs hp hz9 hk9 hS => ?_)
  obtain ⟨n, ⟨en_2, hn⟩, rfl, hH9⟩ := hp
  obtain rfl := hH9.symm
  refine W.eq (g2 := F0 m 5 ls [.ref (bx + 5 + 6 * n)]) rfl ?_
  refine g_getN (C := RX2) (T := TX2) (N := 13) hx hb hts inX2 hown hG (hP.hs hn) rfl 10 (by decide) (List.mem_of_getElem? (i := 9) rfl) rfl (v := .int (z2 (X 20 n))) rfl dX4_hushed_5 ?_
  exact g_iret hx hb hr hlocks hS ⟨Nat.le_of_ble_eq_true rfl, Nat.le_of_ble_eq_true rfl⟩ (⟨n, by omega, rfl, rfl⟩) dX4_hushed_8
set_option maxHeartbeats 4000000 in
set_option maxRecDepth 100000 in
theorem k_ringsLeft (l : Launch) (D : va_G) (ks : Nat → ClassId) (bx : Nat) (ml : Nat → Nat) (X : Nat → Nat → Int) (H : Heap) (hP : PX D ks bx ml X H) (hV : VX X) (hst : l.stackTraces = false) (u v2 : Int) (hu : -2147483648 ≤ u ∧ u < 2147483648) (hv2 : -2147483648 ≤ v2 ∧ v2 < 2147483648) : KM l yX4_ringsLeft wsX4_ringsLeft ({ frames := 8, cells := 2, slots := 12, locals := 132 } : Room) D ks bx [.ref bx, .int (z2 u), .int (z2 v2)] H (RX bx) (fun v H1 => ∃ n k : Nat, ((u = n ∧ n < 8) ∧ v2 = k ∧ (k : Int) < X 4 0) ∧ v = some (.int (z2 (if X 36 k = n then -1 else X 23 (12 * n + k)))) ∧ H1 = H) (fun E H1 => TX H H1 ∧ ((E = "java/lang/IndexOutOfBoundsException" ∧ (¬ ((0 ≤ u ∧ u < 8) ∧ (0 ≤ v2 ∧ v2 < X 4 0)))))) := by
  refine KM.of (cc := cX4_ringsLeft) (maxL := 4) (ret := (some .int)) (by decide) rfl (Nat.le_of_ble_eq_true rfl) ?_
  intro p e s m below meth c hx hb hml hr hlocks hown hname hts hext hH0 hG ls hl
  subst hH0
  have hown : s.vm.findClass RX4 = some m.cls := hown
  have hS : va_S (AR (RX bx) s.heap.size) s.heap s.heap [] := va_S.rf
  have hl : lv_has ls 4 [(0, .ref bx), (1, .int (z2 (u))), (2, .int (z2 (v2)))] := hl
  have inX2 : ∀ w ∈ wsX20, w ∈ wsX4_ringsLeft := by decide +kernel
  have inX3 : ∀ w ∈ wsX30, w ∈ wsX4_ringsLeft := by decide +kernel
  have hbx : bx ≤ s.heap.size := Nat.le_of_lt (ca.lt hP.1)
  have b4 : 0 ≤ X 4 0 ∧ X 4 0 ≤ 12 := hV.1 4 0 rfl
  refine lv_aload_n hx hb dX4_ringsLeft_0 rfl (lv_at hl 0 rfl) ?_
  refine lv_iload_n hx hb dX4_ringsLeft_1 rfl (lv_at hl 1 rfl) ?_
  refine g_run (vx_runV (As := [.int (z2 (u))]) (rest := []) ⟨hx, hb, hml, hown, hts⟩ (k_houseAt l D ks bx ml X _ hP hV hst (u) (by omega)) (cwV 1 hts gX4_ringsLeft_X4_houseAt rfl rfl rfl (by decide +kernel) ⟨Nat.le_of_ble_eq_true rfl, Nat.le_of_ble_eq_true rfl⟩) (g_preV (r := (RX4, TX4, 7)) hG hS rx_ge hP.1 rfl) rfl rfl hl.1 rfl (lv_room (Nat.le_of_ble_eq_true rfl)) dX4_ringsLeft_2 ⟨Nat.le_of_ble_eq_true rfl, Nat.le_of_ble_eq_true rfl⟩) hS (fun _ h => h) (fun E ce q9 H1 locs1 hp hz9 hk9 hS hce hcv hcl => g_out hext hlocks hS hce hcv hcl ⟨Nat.le_of_ble_eq_true rfl, Nat.le_of_ble_eq_true rfl⟩ (by obtain ⟨t9, e9, c9⟩ := hp; exact ⟨t9, ⟨e9, by omega⟩⟩)) (fun v H1 locs hp hz9 hk9 hS => ?_)
  obtain ⟨n, ⟨en_2, hn⟩, rfl, hH9⟩ := hp
  obtain rfl := hH9.symm
  refine W.eq (g2 := F0 m 5 ls [.ref (bx + 5 + 6 * n)]) rfl ?_
  refine lv_astore_n (lv' := [(3, .ref (bx + 5 + 6 * n)), (0, .ref bx), (1, .int (z2 (u))), (2, .int (z2 (v2)))]) hx hb dX4_ringsLeft_5 rfl hl (by decide) rfl (fun ls hl => ?_)
  refine lv_aload_n hx hb dX4_ringsLeft_6 rfl (lv_at hl 1 rfl) ?_
  refine lv_iload_n hx hb dX4_ringsLeft_7 rfl (lv_at hl 3 rfl) ?_
  refine g_run (vx_runV (As := [.int (z2 (v2))]) (rest := []) ⟨hx, hb, hml, hown, hts⟩ (k_melodyAt l D ks bx ml X _ hP hV hst (v2) (by omega)) (cwV 1 hts gX4_ringsLeft_X4_melodyAt rfl rfl rfl (by decide +kernel) ⟨Nat.le_of_ble_eq_true rfl, Nat.le_of_ble_eq_true rfl⟩) (g_preV (r := (RX4, TX4, 7)) hG hS rx_ge hP.1 rfl) rfl rfl hl.1 rfl (lv_room (Nat.le_of_ble_eq_true rfl)) dX4_ringsLeft_8 ⟨Nat.le_of_ble_eq_true rfl, Nat.le_of_ble_eq_true rfl⟩) hS (fun _ h => h) (fun E ce q9 H1 locs1 hp hz9 hk9 hS hce hcv hcl => g_out hext hlocks hS hce hcv hcl ⟨Nat.le_of_ble_eq_true rfl, Nat.le_of_ble_eq_true rfl⟩ (by obtain ⟨t9, e9, c9⟩ := hp; exact ⟨t9, ⟨e9, by omega⟩⟩)) (fun v H1 locs hp hz9 hk9 hS => ?_)
  obtain ⟨k, ⟨ek_8, hk⟩, rfl, hH9⟩ := hp
  obtain rfl := hH9.symm
  refine W.eq (g2 := F0 m 11 ls [.ref (ml k)]) rfl ?_
  have b_11 : 0 ≤ X 36 k ∧ X 36 k ≤ 7 := hV.1 36 _ rfl
  refine g_getN (C := RX3) (T := TX3) (N := 4) hx hb hts inX3 hown hG (hP.me hk) rfl 1 (by decide) (List.mem_of_getElem? (i := 0) rfl) rfl (v := .int (z2 (X 36 k))) rfl dX4_ringsLeft_11 ?_
  refine lv_iload_n hx hb dX4_ringsLeft_14 rfl (lv_at hl 2 rfl) ?_
  refine b_icmp_ne (tgt := 22) hx hb dX4_ringsLeft_15 (by decide) ⟨⟨by omega, by omega⟩, ⟨by omega, by omega⟩⟩ (fun c_15 => ?_) (fun c_15 => ?_)
  · skip
    refine lv_aload_n hx hb dX4_ringsLeft_22 rfl (lv_at hl 0 rfl) ?_
    refine g_getN (C := RX2) (T := TX2) (N := 13) hx hb hts inX2 hown hG (hP.hs hn) rfl 3 (by decide) (List.mem_of_getElem? (i := 1) rfl) rfl (v := .ref (bx + 5 + 6 * n + 2)) rfl dX4_ringsLeft_23 ?_
    refine lv_iload_n hx hb dX4_ringsLeft_26 rfl (lv_at hl 3 rfl) ?_
    have b_27 : 0 ≤ X 23 (12 * n + k) ∧ X 23 (12 * n + k) ≤ 1000 := hV.1 23 _ rfl
    refine g_iald (n := 12) hx hb hG (hP.ra hn) k ⟨by omega, by omega, by decide⟩ dX4_ringsLeft_27 ?_
    refine W.eq (g2 := F0 m 28 ls (.int (z2 (X 23 (12 * n + k))) :: [])) rfl ?_
    exact g_iret hx hb hr hlocks hS ⟨Nat.le_of_ble_eq_true rfl, Nat.le_of_ble_eq_true rfl⟩ (⟨n, k, by omega, congrArg (fun z => some (Value.int (z2 z))) (by first | rw [if_pos (by omega)] | rw [if_neg (by omega)]), rfl⟩) dX4_ringsLeft_28
  · skip
    refine b_iconst hx hb dX4_ringsLeft_18 ?_
    refine lv_goto (tgt := 28) hx hb dX4_ringsLeft_19 (by decide) ?_
    exact g_iret hx hb hr hlocks hS ⟨Nat.le_of_ble_eq_true rfl, Nat.le_of_ble_eq_true rfl⟩ (⟨n, k, by omega, congrArg (fun z => some (Value.int (z2 z))) (by first | rw [if_pos (by omega)] | rw [if_neg (by omega)]), rfl⟩) dX4_ringsLeft_28
set_option maxHeartbeats 4000000 in
set_option maxRecDepth 100000 in
theorem k_faultAt (l : Launch) (D : va_G) (ks : Nat → ClassId) (bx : Nat) (ml : Nat → Nat) (X : Nat → Nat → Int) (H : Heap) (hP : PX D ks bx ml X H) (hV : VX X) (hst : l.stackTraces = false) (u : Int) (hu : -2147483648 ≤ u ∧ u < 2147483648) : KM l yX4_faultAt wsX4_faultAt ({ frames := 6, cells := 1, slots := 6, locals := 90 } : Room) D ks bx [.ref bx, .int (z2 u)] H (RX bx) (fun v H1 => (0 ≤ u ∧ u < X 5 0) ∧ v = some (.int (z2 (X 7 (u).toNat))) ∧ H1 = H) (fun E H1 => TX H H1 ∧ ((E = "java/lang/IndexOutOfBoundsException" ∧ (¬ (0 ≤ u ∧ u < X 5 0))))) := by
  refine KM.of (cc := cX4_faultAt) (maxL := 2) (ret := (some .int)) (by decide) rfl (Nat.le_of_ble_eq_true rfl) ?_
  intro p e s m below meth c hx hb hml hr hlocks hown hname hts hext hH0 hG ls hl
  subst hH0
  have hown : s.vm.findClass RX4 = some m.cls := hown
  have hS : va_S (AR (RX bx) s.heap.size) s.heap s.heap [] := va_S.rf
  have hl : lv_has ls 2 [(0, .ref bx), (1, .int (z2 (u)))] := hl
  have inX4 : ∀ w ∈ wsX40, w ∈ wsX4_faultAt := by decide +kernel
  have hw0 : ∀ w ∈ (vx_atS RX4 76 "java/lang/IndexOutOfBoundsException" nm2).filter goodWord, w ∈ wsX4_faultAt := by decide +kernel
  have hbx : bx ≤ s.heap.size := Nat.le_of_lt (ca.lt hP.1)
  refine lv_iload_n hx hb dX4_faultAt_0 rfl (lv_at hl 1 rfl) ?_
  refine b_if_lt (tgt := 12) hx hb dX4_faultAt_1 (by decide) ⟨by omega, by omega⟩ (fun c_1 => ?_) (fun c_1 => ?_)
  · skip
    exact g_throw hx hb hst hts hown hG (by decide +kernel) (List.mem_of_getElem? (i := 20) rfl) (by decide +kernel) (by decide +kernel) hw0 thr_ng0 (List.mem_of_getElem? (i := 28) rfl) thr_go0 hS rx_ge hbx (hl.1.trans hml.symm) dX4_faultAt_12 dX4_faultAt_15 dX4_faultAt_16 dX4_faultAt_18 dX4_faultAt_21 hext ⟨Nat.le_of_ble_eq_true rfl, Nat.le_of_ble_eq_true rfl, Nat.le_of_ble_eq_true rfl, Nat.le_of_ble_eq_true rfl⟩ hlocks ⟨Nat.le_of_ble_eq_true rfl, Nat.le_of_ble_eq_true rfl⟩ (fun H1 hz9 hk9 => ⟨⟨hz9, hk9⟩, ⟨rfl, by omega⟩⟩)
  · skip
    refine lv_iload_n hx hb dX4_faultAt_4 rfl (lv_at hl 1 rfl) ?_
    refine lv_aload_n hx hb dX4_faultAt_5 rfl (lv_at hl 0 rfl) ?_
    have b_6 : 0 ≤ X 5 0 ∧ X 5 0 ≤ 100 := hV.1 5 _ rfl
    refine g_get (C := RX4) (T := TX4) (N := 7) hx hb hts inX4 hown hG hP.1 rfl 5 (by decide) (by decide +kernel) rfl (v := .int (z2 (X 5 0))) rfl dX4_faultAt_6 ?_
    refine b_icmp_lt (tgt := 22) hx hb dX4_faultAt_9 (by decide) ⟨⟨by omega, by omega⟩, ⟨by omega, by omega⟩⟩ (fun c_9 => ?_) (fun c_9 => ?_)
    · skip
      refine lv_aload_n hx hb dX4_faultAt_22 rfl (lv_at hl 0 rfl) ?_
      refine g_get (C := RX4) (T := TX4) (N := 7) hx hb hts inX4 hown hG hP.1 rfl 3 (by decide) (by decide +kernel) rfl (v := .ref (bx + 4)) rfl dX4_faultAt_23 ?_
      refine lv_iload_n hx hb dX4_faultAt_26 rfl (lv_at hl 1 rfl) ?_
      refine g_iald (n := 100) hx hb hG hP.2.2.2.2.1 ((u).toNat) ⟨by omega, by omega, by decide⟩ dX4_faultAt_27 ?_
      refine W.eq (g2 := F0 m 28 ls (.int (z2 (X 7 ((u).toNat))) :: [])) rfl ?_
      exact g_iret hx hb hr hlocks hS ⟨Nat.le_of_ble_eq_true rfl, Nat.le_of_ble_eq_true rfl⟩ (⟨by omega, rfl, rfl⟩) dX4_faultAt_28
    · skip
      exact g_throw hx hb hst hts hown hG (by decide +kernel) (List.mem_of_getElem? (i := 20) rfl) (by decide +kernel) (by decide +kernel) hw0 thr_ng0 (List.mem_of_getElem? (i := 28) rfl) thr_go0 hS rx_ge hbx (hl.1.trans hml.symm) dX4_faultAt_12 dX4_faultAt_15 dX4_faultAt_16 dX4_faultAt_18 dX4_faultAt_21 hext ⟨Nat.le_of_ble_eq_true rfl, Nat.le_of_ble_eq_true rfl, Nat.le_of_ble_eq_true rfl, Nat.le_of_ble_eq_true rfl⟩ hlocks ⟨Nat.le_of_ble_eq_true rfl, Nat.le_of_ble_eq_true rfl⟩ (fun H1 hz9 hk9 => ⟨⟨hz9, hk9⟩, ⟨rfl, by omega⟩⟩)
