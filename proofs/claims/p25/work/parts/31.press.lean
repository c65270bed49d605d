/-! THE LAW's presses. -/
set_option maxHeartbeats 4000000 in
set_option maxRecDepth 100000 in
theorem w_presses (l : Launch) (D : va_G) (ks : Nat → ClassId) (bx : Nat) (ml : Nat → Nat) (X : Nat → Nat → Int) (H : Heap) (hP : PX D ks bx ml X H) (hst : l.stackTraces = false) (N : Nat) (hN : N ≤ 60) (hL : LV N X) (n b : Nat) (hn : n < 8) (hb3 : b < 3) : KM l yL_presses wsL_presses ({ frames := 11, cells := 16, slots := 96, locals := 203 } : Room) D ks bx [.ref bx, .int (z2 ((n : Nat) : Int)), .int (z2 ((b : Nat) : Int))] H (RX bx) (fun v H1 => v = some (.int (z2 1)) ∧ ∃ Y : Nat → Nat → Int, LV (N + 1) Y ∧ Y 4 0 = X 4 0 ∧ PX D ks bx ml Y H1) (fun _ _ => False) := by
  refine KM.of (cc := cL_presses) (maxL := 8) (ret := (some .boolean)) (by decide) rfl (Nat.le_of_ble_eq_true rfl) ?_
  intro p e s m below meth c hx hb hml hr hlocks hown hname hts hext hH0 hG ls hl
  subst hH0
  have hown : s.vm.findClass RL = some m.cls := hown
  have hS : va_S (AR (RX bx) s.heap.size) s.heap s.heap [] := va_S.rf
  have hl : lv_has ls 8 [(0, .ref bx), (1, .int (z2 (((n : Nat) : Int)))), (2, .int (z2 (((b : Nat) : Int))))] := hl
  obtain ⟨hV, hT, hY⟩ := id hL
  have b7 := (hY.2.2.2.2.1 n hn).2
  have b14 : 0 ≤ X 14 n ∧ X 14 n ≤ 1 := hV.1 14 n rfl
  have brs := rs_b X n
  refine lv_aload_n hx hb dL_presses_0 rfl (lv_at hl 0 rfl) ?_
  refine lv_iload_n hx hb dL_presses_1 rfl (lv_at hl 1 rfl) ?_
  refine g_run (vx_runV (As := [.int (z2 (((n : Nat) : Int)))]) (rest := []) ⟨hx, hb, hml, hown, hts⟩ (k_ringing l D ks bx ml X _ hP hV hst (((n : Nat) : Int)) ⟨by omega, by omega⟩) (cwV 1 hts gL_presses_X4_ringing rfl rfl rfl (by decide +kernel) ⟨Nat.le_of_ble_eq_true rfl, Nat.le_of_ble_eq_true rfl⟩) (g_preV (r := (RX4, TX4, 7)) hG hS rx_ge hP.1 rfl) rfl rfl hl.1 rfl (lv_room (Nat.le_of_ble_eq_true rfl)) dL_presses_2 ⟨Nat.le_of_ble_eq_true rfl, Nat.le_of_ble_eq_true rfl⟩) hS (fun _ h => h) (fun E ce q9 H1 locs1 hp hz9 hk9 hS hce hcv hcl => by obtain ⟨-, e9⟩ := hp; exfalso; have h9 := e9.2; omega) (fun v H locs hp hz9 hk9 hS => ?_)
  obtain ⟨n9, ⟨hn9, hn8⟩, rfl, hH9⟩ := hp
  obtain rfl := hH9.symm
  obtain rfl : n = n9 := by omega
  refine W.eq (g2 := F0 m 5 ls [.int (z2 (rsS X n))]) rfl ?_
  refine lv_istore_n (lv' := [(3, .int (z2 (rsS X n))), (0, .ref bx), (1, .int (z2 (((n : Nat) : Int)))), (2, .int (z2 (((b : Nat) : Int))))]) hx hb dL_presses_5 rfl hl (by decide) rfl (fun ls hl => ?_)
  refine lv_aload_n hx hb dL_presses_6 rfl (lv_at hl 1 rfl) ?_
  refine lv_iload_n hx hb dL_presses_7 rfl (lv_at hl 2 rfl) ?_
  refine g_run (vx_runV (As := [.int (z2 (((n : Nat) : Int)))]) (rest := []) ⟨hx, hb, hml, hown, hts⟩ (k_hushed l D ks bx ml X _ hP hV hst (((n : Nat) : Int)) ⟨by omega, by omega⟩) (cwV 1 hts gL_presses_X4_hushed rfl rfl rfl (by decide +kernel) ⟨Nat.le_of_ble_eq_true rfl, Nat.le_of_ble_eq_true rfl⟩) (g_preV (r := (RX4, TX4, 7)) hG hS rx_ge hP.1 rfl) rfl rfl hl.1 rfl (lv_room (Nat.le_of_ble_eq_true rfl)) dL_presses_8 ⟨Nat.le_of_ble_eq_true rfl, Nat.le_of_ble_eq_true rfl⟩) hS (fun _ h => h) (fun E ce q9 H1 locs1 hp hz9 hk9 hS hce hcv hcl => by obtain ⟨-, e9⟩ := hp; exfalso; have h9 := e9.2; omega) (fun v H locs hp hz9 hk9 hS => ?_)
  obtain ⟨n9, ⟨hn9, hn8⟩, rfl, hH9⟩ := hp
  obtain rfl := hH9.symm
  obtain rfl : n = n9 := by omega
  refine W.eq (g2 := F0 m 11 ls [.int (z2 (X 20 n))]) rfl ?_
  refine lv_istore (lv' := [(4, .int (z2 (X 20 n))), (3, .int (z2 (rsS X n))), (0, .ref bx), (1, .int (z2 (((n : Nat) : Int)))), (2, .int (z2 (((b : Nat) : Int))))]) hx hb dL_presses_11 hl (by decide) rfl (fun ls hl => ?_)
  refine lv_aload_n hx hb dL_presses_13 rfl (lv_at hl 2 rfl) ?_
  refine lv_iload_n hx hb dL_presses_14 rfl (lv_at hl 3 rfl) ?_
  refine g_run (vx_runV (As := [.int (z2 (((n : Nat) : Int)))]) (rest := []) ⟨hx, hb, hml, hown, hts⟩ (k_isSound l D ks bx ml X _ hP hV hst (((n : Nat) : Int)) ⟨by omega, by omega⟩) (cwV 1 hts gL_presses_X4_isSound rfl rfl rfl (by decide +kernel) ⟨Nat.le_of_ble_eq_true rfl, Nat.le_of_ble_eq_true rfl⟩) (g_preV (r := (RX4, TX4, 7)) hG hS rx_ge hP.1 rfl) rfl rfl hl.1 rfl (lv_room (Nat.le_of_ble_eq_true rfl)) dL_presses_15 ⟨Nat.le_of_ble_eq_true rfl, Nat.le_of_ble_eq_true rfl⟩) hS (fun _ h => h) (fun E ce q9 H1 locs1 hp hz9 hk9 hS hce hcv hcl => by obtain ⟨-, e9⟩ := hp; exfalso; have h9 := e9.2; omega) (fun v H locs hp hz9 hk9 hS => ?_)
  obtain ⟨n9, ⟨hn9, hn8⟩, rfl, hH9⟩ := hp
  obtain rfl := hH9.symm
  obtain rfl : n = n9 := by omega
  refine W.eq (g2 := F0 m 18 ls [.int (z2 (X 14 n))]) rfl ?_
  refine lv_istore (lv' := [(5, .int (z2 (X 14 n))), (4, .int (z2 (X 20 n))), (3, .int (z2 (rsS X n))), (0, .ref bx), (1, .int (z2 (((n : Nat) : Int)))), (2, .int (z2 (((b : Nat) : Int))))]) hx hb dL_presses_18 hl (by decide) rfl (fun ls hl => ?_)
  refine lv_aload_n hx hb dL_presses_20 rfl (lv_at hl 3 rfl) ?_
  refine lv_iload_n hx hb dL_presses_21 rfl (lv_at hl 4 rfl) ?_
  refine lv_iload_n hx hb dL_presses_22 rfl (lv_at hl 5 rfl) ?_
  refine g_run (vx_runSX (As := [.ref bx, .int (z2 (((n : Nat) : Int))), .int (z2 (((b : Nat) : Int)))]) (rest := []) ⟨hx, hb, hml, hown, hts⟩ (w_press l D ks bx ml X _ hP hV hst n b hn hb3) (vx_cwSW 3 hts gL_presses_L_press rfl rfl rfl (by decide +kernel) ⟨Nat.le_of_ble_eq_true rfl, Nat.le_of_ble_eq_true rfl⟩) (g_preS hG hS rx_ge) rfl rfl hl.1 rfl (lv_room (Nat.le_of_ble_eq_true rfl)) dL_presses_23 ⟨Nat.le_of_ble_eq_true rfl, Nat.le_of_ble_eq_true rfl⟩) hS (fun _ h => h) (fun _ _ _ _ _ h => h.elim) (fun v H locs hp hz9 hk9 hS => ?_)
  rcases hp with ⟨p1, rfl, hP9⟩ | ⟨k, p1, rfl, hP9⟩
  · have hP := hP9
    refine W.eq (g2 := F0 m 26 ls [.int (z2 (-3))]) rfl ?_
    refine lv_istore (lv' := [(6, .int (z2 ((-3)))), (5, .int (z2 (X 14 n))), (4, .int (z2 (X 20 n))), (3, .int (z2 (rsS X n))), (0, .ref bx), (1, .int (z2 (((n : Nat) : Int)))), (2, .int (z2 (((b : Nat) : Int))))]) hx hb dL_presses_26 hl (by decide) rfl (fun ls hl => ?_)
    refine lv_aload_n hx hb dL_presses_28 rfl (lv_at hl 4 rfl) ?_
    refine lv_iload_n hx hb dL_presses_29 rfl (lv_at hl 5 rfl) ?_
    refine g_run (vx_runV (As := [.int (z2 (((n : Nat) : Int)))]) (rest := []) ⟨hx, hb, hml, hown, hts⟩ (k_hushed l D ks bx ml X _ hP hV hst (((n : Nat) : Int)) ⟨by omega, by omega⟩) (cwV 1 hts gL_presses_X4_hushed rfl rfl rfl (by decide +kernel) ⟨Nat.le_of_ble_eq_true rfl, Nat.le_of_ble_eq_true rfl⟩) (g_preV (r := (RX4, TX4, 7)) hG hS rx_ge hP.1 rfl) rfl rfl hl.1 rfl (lv_room (Nat.le_of_ble_eq_true rfl)) dL_presses_30 ⟨Nat.le_of_ble_eq_true rfl, Nat.le_of_ble_eq_true rfl⟩) hS (fun _ h => h) (fun E ce q9 H1 locs1 hp hz9 hk9 hS hce hcv hcl => by obtain ⟨-, e9⟩ := hp; exfalso; have h9 := e9.2; omega) (fun v H locs hp hz9 hk9 hS => ?_)
    obtain ⟨n9, ⟨hn9, hn8⟩, rfl, hH9⟩ := hp
    obtain rfl := hH9.symm
    obtain rfl : n = n9 := by omega
    refine W.eq (g2 := F0 m 33 ls [.int (z2 (X 20 n))]) rfl ?_
    refine lv_iload hx hb dL_presses_33 (lv_at hl 2 rfl) ?_
    refine lv_iload hx hb dL_presses_35 (lv_at hl 0 rfl) ?_
    refine b_iconst hx hb dL_presses_37 ?_
    refine b_icmp_ne (tgt := 45) hx hb dL_presses_38 (by decide) ⟨⟨by omega, by omega⟩, ⟨by omega, by omega⟩⟩ (fun _ => ?_) (fun c => absurd c (by omega))
    refine b_iconst hx hb dL_presses_45 ?_
    refine b_iadd hx hb dL_presses_46 ?_
    refine b_icmp_ne (tgt := 78) hx hb dL_presses_47 (by decide) ⟨⟨by omega, by omega⟩, ⟨by omega, by omega⟩⟩ (fun c => absurd c (by omega)) (fun _ => ?_)
    refine lv_aload_n hx hb dL_presses_50 rfl (lv_at hl 4 rfl) ?_
    refine lv_iload_n hx hb dL_presses_51 rfl (lv_at hl 5 rfl) ?_
    refine g_run (vx_runV (As := [.int (z2 (((n : Nat) : Int)))]) (rest := []) ⟨hx, hb, hml, hown, hts⟩ (k_isSound l D ks bx ml X _ hP hV hst (((n : Nat) : Int)) ⟨by omega, by omega⟩) (cwV 1 hts gL_presses_X4_isSound rfl rfl rfl (by decide +kernel) ⟨Nat.le_of_ble_eq_true rfl, Nat.le_of_ble_eq_true rfl⟩) (g_preV (r := (RX4, TX4, 7)) hG hS rx_ge hP.1 rfl) rfl rfl hl.1 rfl (lv_room (Nat.le_of_ble_eq_true rfl)) dL_presses_52 ⟨Nat.le_of_ble_eq_true rfl, Nat.le_of_ble_eq_true rfl⟩) hS (fun _ h => h) (fun E ce q9 H1 locs1 hp hz9 hk9 hS hce hcv hcl => by obtain ⟨-, e9⟩ := hp; exfalso; have h9 := e9.2; omega) (fun v H locs hp hz9 hk9 hS => ?_)
    obtain ⟨n9, ⟨hn9, hn8⟩, rfl, hH9⟩ := hp
    obtain rfl := hH9.symm
    obtain rfl : n = n9 := by omega
    refine W.eq (g2 := F0 m 55 ls [.int (z2 (X 14 n))]) rfl ?_
    refine lv_iload hx hb dL_presses_55 (lv_at hl 1 rfl) ?_
    refine b_if_eq (tgt := 70) hx hb dL_presses_57 (by decide) ⟨by omega, by omega⟩ (fun c_57 => ?_) (fun c_57 => ?_)
    · skip
      refine b_iconst hx hb dL_presses_70 ?_
      refine b_icmp_ne (tgt := 78) hx hb dL_presses_71 (by decide) ⟨⟨by omega, by omega⟩, ⟨by omega, by omega⟩⟩ (fun c => absurd c (by omega)) (fun _ => ?_)
      refine b_iconst hx hb dL_presses_74 ?_
      refine lv_goto (tgt := 79) hx hb dL_presses_75 (by decide) ?_
      refine lv_istore (lv' := [(7, .int (z2 (1))), (6, .int (z2 ((-3)))), (5, .int (z2 (X 14 n))), (4, .int (z2 (X 20 n))), (3, .int (z2 (rsS X n))), (0, .ref bx), (1, .int (z2 (((n : Nat) : Int)))), (2, .int (z2 (((b : Nat) : Int))))]) hx hb dL_presses_79 hl (by decide) rfl (fun ls hl => ?_)
      refine lv_iload hx hb dL_presses_81 (lv_at hl 0 rfl) ?_
      refine b_if_eq (tgt := 155) hx hb dL_presses_83 (by decide) ⟨by omega, by omega⟩ (fun c => absurd c (by omega)) (fun _ => ?_)
      refine lv_iload hx hb dL_presses_86 (lv_at hl 1 rfl) ?_
      refine b_iconst hx hb dL_presses_88 ?_
      refine b_icmp_ne (tgt := 125) hx hb dL_presses_89 (by decide) ⟨⟨by omega, by omega⟩, ⟨by omega, by omega⟩⟩ (fun _ => ?_) (fun c => absurd c (by omega))
      refine lv_iload hx hb dL_presses_125 (lv_at hl 1 rfl) ?_
      refine b_iconst hx hb dL_presses_127 ?_
      refine b_icmp_ne (tgt := 142) hx hb dL_presses_128 (by decide) ⟨⟨by omega, by omega⟩, ⟨by omega, by omega⟩⟩ (fun _ => ?_) (fun c => absurd c (by omega))
      refine lv_aload_n hx hb dL_presses_142 rfl (lv_at hl 5 rfl) ?_
      refine lv_iload_n hx hb dL_presses_143 rfl (lv_at hl 6 rfl) ?_
      refine g_run (vx_runV (As := [.int (z2 (((n : Nat) : Int)))]) (rest := []) ⟨hx, hb, hml, hown, hts⟩ (k_ringing l D ks bx ml X _ hP hV hst (((n : Nat) : Int)) ⟨by omega, by omega⟩) (cwV 1 hts gL_presses_X4_ringing rfl rfl rfl (by decide +kernel) ⟨Nat.le_of_ble_eq_true rfl, Nat.le_of_ble_eq_true rfl⟩) (g_preV (r := (RX4, TX4, 7)) hG hS rx_ge hP.1 rfl) rfl rfl hl.1 rfl (lv_room (Nat.le_of_ble_eq_true rfl)) dL_presses_144 ⟨Nat.le_of_ble_eq_true rfl, Nat.le_of_ble_eq_true rfl⟩) hS (fun _ h => h) (fun E ce q9 H1 locs1 hp hz9 hk9 hS hce hcv hcl => by obtain ⟨-, e9⟩ := hp; exfalso; have h9 := e9.2; omega) (fun v H locs hp hz9 hk9 hS => ?_)
      obtain ⟨n9, ⟨hn9, hn8⟩, rfl, hH9⟩ := hp
      obtain rfl := hH9.symm
      obtain rfl : n = n9 := by omega
      refine W.eq (g2 := F0 m 147 ls [.int (z2 (rsS X n))]) rfl ?_
      refine lv_iload_n hx hb dL_presses_147 rfl (lv_at hl 4 rfl) ?_
      refine b_icmp_ne (tgt := 155) hx hb dL_presses_148 (by decide) ⟨⟨by omega, by omega⟩, ⟨by omega, by omega⟩⟩ (fun c => absurd c (by omega)) (fun _ => ?_)
      refine b_iconst hx hb dL_presses_151 ?_
      refine lv_goto (tgt := 156) hx hb dL_presses_152 (by decide) ?_
      exact g_zret hx hb hr hlocks hS (by decide +kernel) ⟨Nat.le_of_ble_eq_true rfl, Nat.le_of_ble_eq_true rfl⟩ (⟨rfl, X, lv_N hL (by omega), rfl, hP⟩) dL_presses_156
    · skip
      refine lv_iload hx hb dL_presses_60 (lv_at hl 0 rfl) ?_
      refine b_iconst hx hb dL_presses_62 ?_
      refine b_icmp_eq (tgt := 70) hx hb dL_presses_63 (by decide) ⟨⟨by omega, by omega⟩, ⟨by omega, by omega⟩⟩ (fun c => absurd c (by omega)) (fun _ => ?_)
      refine b_iconst hx hb dL_presses_66 ?_
      refine lv_goto (tgt := 71) hx hb dL_presses_67 (by decide) ?_
      refine b_icmp_ne (tgt := 78) hx hb dL_presses_71 (by decide) ⟨⟨by omega, by omega⟩, ⟨by omega, by omega⟩⟩ (fun c => absurd c (by omega)) (fun _ => ?_)
      refine b_iconst hx hb dL_presses_74 ?_
      refine lv_goto (tgt := 79) hx hb dL_presses_75 (by decide) ?_
      refine lv_istore (lv' := [(7, .int (z2 (1))), (6, .int (z2 ((-3)))), (5, .int (z2 (X 14 n))), (4, .int (z2 (X 20 n))), (3, .int (z2 (rsS X n))), (0, .ref bx), (1, .int (z2 (((n : Nat) : Int)))), (2, .int (z2 (((b : Nat) : Int))))]) hx hb dL_presses_79 hl (by decide) rfl (fun ls hl => ?_)
      refine lv_iload hx hb dL_presses_81 (lv_at hl 0 rfl) ?_
      refine b_if_eq (tgt := 155) hx hb dL_presses_83 (by decide) ⟨by omega, by omega⟩ (fun c => absurd c (by omega)) (fun _ => ?_)
      refine lv_iload hx hb dL_presses_86 (lv_at hl 1 rfl) ?_
      refine b_iconst hx hb dL_presses_88 ?_
      refine b_icmp_ne (tgt := 125) hx hb dL_presses_89 (by decide) ⟨⟨by omega, by omega⟩, ⟨by omega, by omega⟩⟩ (fun _ => ?_) (fun c => absurd c (by omega))
      refine lv_iload hx hb dL_presses_125 (lv_at hl 1 rfl) ?_
      refine b_iconst hx hb dL_presses_127 ?_
      refine b_icmp_ne (tgt := 142) hx hb dL_presses_128 (by decide) ⟨⟨by omega, by omega⟩, ⟨by omega, by omega⟩⟩ (fun _ => ?_) (fun c => absurd c (by omega))
      refine lv_aload_n hx hb dL_presses_142 rfl (lv_at hl 5 rfl) ?_
      refine lv_iload_n hx hb dL_presses_143 rfl (lv_at hl 6 rfl) ?_
      refine g_run (vx_runV (As := [.int (z2 (((n : Nat) : Int)))]) (rest := []) ⟨hx, hb, hml, hown, hts⟩ (k_ringing l D ks bx ml X _ hP hV hst (((n : Nat) : Int)) ⟨by omega, by omega⟩) (cwV 1 hts gL_presses_X4_ringing rfl rfl rfl (by decide +kernel) ⟨Nat.le_of_ble_eq_true rfl, Nat.le_of_ble_eq_true rfl⟩) (g_preV (r := (RX4, TX4, 7)) hG hS rx_ge hP.1 rfl) rfl rfl hl.1 rfl (lv_room (Nat.le_of_ble_eq_true rfl)) dL_presses_144 ⟨Nat.le_of_ble_eq_true rfl, Nat.le_of_ble_eq_true rfl⟩) hS (fun _ h => h) (fun E ce q9 H1 locs1 hp hz9 hk9 hS hce hcv hcl => by obtain ⟨-, e9⟩ := hp; exfalso; have h9 := e9.2; omega) (fun v H locs hp hz9 hk9 hS => ?_)
      obtain ⟨n9, ⟨hn9, hn8⟩, rfl, hH9⟩ := hp
      obtain rfl := hH9.symm
      obtain rfl : n = n9 := by omega
      refine W.eq (g2 := F0 m 147 ls [.int (z2 (rsS X n))]) rfl ?_
      refine lv_iload_n hx hb dL_presses_147 rfl (lv_at hl 4 rfl) ?_
      refine b_icmp_ne (tgt := 155) hx hb dL_presses_148 (by decide) ⟨⟨by omega, by omega⟩, ⟨by omega, by omega⟩⟩ (fun c => absurd c (by omega)) (fun _ => ?_)
      refine b_iconst hx hb dL_presses_151 ?_
      refine lv_goto (tgt := 156) hx hb dL_presses_152 (by decide) ?_
      exact g_zret hx hb hr hlocks hS (by decide +kernel) ⟨Nat.le_of_ble_eq_true rfl, Nat.le_of_ble_eq_true rfl⟩ (⟨rfl, X, lv_N hL (by omega), rfl, hP⟩) dL_presses_156
  · obtain ⟨⟨qa, qb⟩, q20, q3, qn3, qs, q1, qr⟩ := pr_facts hL hb3 p1
    have hL1 := pr_lv hL hn hb3 p1
    obtain ⟨Y, hYe⟩ : ∃ Y, Y = prX X n b k := ⟨_, rfl⟩
    rw [← hYe] at hP9 q20 q3 qn3 q1 qr hL1
    obtain ⟨z, hze⟩ : ∃ z, z = prV X n b k := ⟨_, rfl⟩
    rw [← hze] at qa qb q20 q3 qn3 qs q1 qr
    rw [← hze]
    have hP := hP9
    have hY4 : Y 4 0 = X 4 0 := by rw [hYe]; exact pr_4 X n b k
    have brY := rs_b Y n
    have bY7 := (hL1.2.2.2.2.2.2.1 n hn).2
    have bY14 : 0 ≤ Y 14 n ∧ Y 14 n ≤ 1 := hL1.1.1 14 n rfl
    clear hYe hze
    have hz4 : z = 0 ∨ z = 1 ∨ z = 2 ∨ z = 3 := by omega
    rcases hz4 with rfl | rfl | rfl | rfl
    · skip
      rw [if_neg (by decide)] at q20
      have g14 := qn3 (by decide)
      have grs := qr (by decide) (by decide)
      refine W.eq (g2 := F0 m 26 ls [.int (z2 (0))]) rfl ?_
      refine lv_istore (lv' := [(6, .int (z2 (0))), (5, .int (z2 (X 14 n))), (4, .int (z2 (X 20 n))), (3, .int (z2 (rsS X n))), (0, .ref bx), (1, .int (z2 (((n : Nat) : Int)))), (2, .int (z2 (((b : Nat) : Int))))]) hx hb dL_presses_26 hl (by decide) rfl (fun ls hl => ?_)
      refine lv_aload_n hx hb dL_presses_28 rfl (lv_at hl 4 rfl) ?_
      refine lv_iload_n hx hb dL_presses_29 rfl (lv_at hl 5 rfl) ?_
      refine g_run (vx_runV (As := [.int (z2 (((n : Nat) : Int)))]) (rest := []) ⟨hx, hb, hml, hown, hts⟩ (k_hushed l D ks bx ml Y _ hP hL1.1 hst (((n : Nat) : Int)) ⟨by omega, by omega⟩) (cwV 1 hts gL_presses_X4_hushed rfl rfl rfl (by decide +kernel) ⟨Nat.le_of_ble_eq_true rfl, Nat.le_of_ble_eq_true rfl⟩) (g_preV (r := (RX4, TX4, 7)) hG hS rx_ge hP.1 rfl) rfl rfl hl.1 rfl (lv_room (Nat.le_of_ble_eq_true rfl)) dL_presses_30 ⟨Nat.le_of_ble_eq_true rfl, Nat.le_of_ble_eq_true rfl⟩) hS (fun _ h => h) (fun E ce q9 H1 locs1 hp hz9 hk9 hS hce hcv hcl => by obtain ⟨-, e9⟩ := hp; exfalso; have h9 := e9.2; omega) (fun v H locs hp hz9 hk9 hS => ?_)
      obtain ⟨n9, ⟨hn9, hn8⟩, rfl, hH9⟩ := hp
      obtain rfl := hH9.symm
      obtain rfl : n = n9 := by omega
      refine W.eq (g2 := F0 m 33 ls [.int (z2 (Y 20 n))]) rfl ?_
      refine lv_iload hx hb dL_presses_33 (lv_at hl 2 rfl) ?_
      refine lv_iload hx hb dL_presses_35 (lv_at hl 0 rfl) ?_
      refine b_iconst hx hb dL_presses_37 ?_
      refine b_icmp_ne (tgt := 45) hx hb dL_presses_38 (by decide) ⟨⟨by omega, by omega⟩, ⟨by omega, by omega⟩⟩ (fun _ => ?_) (fun c => absurd c (by omega))
      refine b_iconst hx hb dL_presses_45 ?_
      refine b_iadd hx hb dL_presses_46 ?_
      refine b_icmp_ne (tgt := 78) hx hb dL_presses_47 (by decide) ⟨⟨by omega, by omega⟩, ⟨by omega, by omega⟩⟩ (fun c => absurd c (by omega)) (fun _ => ?_)
      refine lv_aload_n hx hb dL_presses_50 rfl (lv_at hl 4 rfl) ?_
      refine lv_iload_n hx hb dL_presses_51 rfl (lv_at hl 5 rfl) ?_
      refine g_run (vx_runV (As := [.int (z2 (((n : Nat) : Int)))]) (rest := []) ⟨hx, hb, hml, hown, hts⟩ (k_isSound l D ks bx ml Y _ hP hL1.1 hst (((n : Nat) : Int)) ⟨by omega, by omega⟩) (cwV 1 hts gL_presses_X4_isSound rfl rfl rfl (by decide +kernel) ⟨Nat.le_of_ble_eq_true rfl, Nat.le_of_ble_eq_true rfl⟩) (g_preV (r := (RX4, TX4, 7)) hG hS rx_ge hP.1 rfl) rfl rfl hl.1 rfl (lv_room (Nat.le_of_ble_eq_true rfl)) dL_presses_52 ⟨Nat.le_of_ble_eq_true rfl, Nat.le_of_ble_eq_true rfl⟩) hS (fun _ h => h) (fun E ce q9 H1 locs1 hp hz9 hk9 hS hce hcv hcl => by obtain ⟨-, e9⟩ := hp; exfalso; have h9 := e9.2; omega) (fun v H locs hp hz9 hk9 hS => ?_)
      obtain ⟨n9, ⟨hn9, hn8⟩, rfl, hH9⟩ := hp
      obtain rfl := hH9.symm
      obtain rfl : n = n9 := by omega
      refine W.eq (g2 := F0 m 55 ls [.int (z2 (Y 14 n))]) rfl ?_
      refine lv_iload hx hb dL_presses_55 (lv_at hl 1 rfl) ?_
      refine b_if_eq (tgt := 70) hx hb dL_presses_57 (by decide) ⟨by omega, by omega⟩ (fun c_57 => ?_) (fun c_57 => ?_)
      · skip
        refine b_iconst hx hb dL_presses_70 ?_
        refine b_icmp_ne (tgt := 78) hx hb dL_presses_71 (by decide) ⟨⟨by omega, by omega⟩, ⟨by omega, by omega⟩⟩ (fun c => absurd c (by omega)) (fun _ => ?_)
        refine b_iconst hx hb dL_presses_74 ?_
        refine lv_goto (tgt := 79) hx hb dL_presses_75 (by decide) ?_
        refine lv_istore (lv' := [(7, .int (z2 (1))), (6, .int (z2 (0))), (5, .int (z2 (X 14 n))), (4, .int (z2 (X 20 n))), (3, .int (z2 (rsS X n))), (0, .ref bx), (1, .int (z2 (((n : Nat) : Int)))), (2, .int (z2 (((b : Nat) : Int))))]) hx hb dL_presses_79 hl (by decide) rfl (fun ls hl => ?_)
        refine lv_iload hx hb dL_presses_81 (lv_at hl 0 rfl) ?_
        refine b_if_eq (tgt := 155) hx hb dL_presses_83 (by decide) ⟨by omega, by omega⟩ (fun c => absurd c (by omega)) (fun _ => ?_)
        refine lv_iload hx hb dL_presses_86 (lv_at hl 1 rfl) ?_
        refine b_iconst hx hb dL_presses_88 ?_
        refine b_icmp_ne (tgt := 125) hx hb dL_presses_89 (by decide) ⟨⟨by omega, by omega⟩, ⟨by omega, by omega⟩⟩ (fun _ => ?_) (fun c => absurd c (by omega))
        refine lv_iload hx hb dL_presses_125 (lv_at hl 1 rfl) ?_
        refine b_iconst hx hb dL_presses_127 ?_
        refine b_icmp_ne (tgt := 142) hx hb dL_presses_128 (by decide) ⟨⟨by omega, by omega⟩, ⟨by omega, by omega⟩⟩ (fun _ => ?_) (fun c => absurd c (by omega))
        refine lv_aload_n hx hb dL_presses_142 rfl (lv_at hl 5 rfl) ?_
        refine lv_iload_n hx hb dL_presses_143 rfl (lv_at hl 6 rfl) ?_
        refine g_run (vx_runV (As := [.int (z2 (((n : Nat) : Int)))]) (rest := []) ⟨hx, hb, hml, hown, hts⟩ (k_ringing l D ks bx ml Y _ hP hL1.1 hst (((n : Nat) : Int)) ⟨by omega, by omega⟩) (cwV 1 hts gL_presses_X4_ringing rfl rfl rfl (by decide +kernel) ⟨Nat.le_of_ble_eq_true rfl, Nat.le_of_ble_eq_true rfl⟩) (g_preV (r := (RX4, TX4, 7)) hG hS rx_ge hP.1 rfl) rfl rfl hl.1 rfl (lv_room (Nat.le_of_ble_eq_true rfl)) dL_presses_144 ⟨Nat.le_of_ble_eq_true rfl, Nat.le_of_ble_eq_true rfl⟩) hS (fun _ h => h) (fun E ce q9 H1 locs1 hp hz9 hk9 hS hce hcv hcl => by obtain ⟨-, e9⟩ := hp; exfalso; have h9 := e9.2; omega) (fun v H locs hp hz9 hk9 hS => ?_)
        obtain ⟨n9, ⟨hn9, hn8⟩, rfl, hH9⟩ := hp
        obtain rfl := hH9.symm
        obtain rfl : n = n9 := by omega
        refine W.eq (g2 := F0 m 147 ls [.int (z2 (rsS Y n))]) rfl ?_
        refine lv_iload_n hx hb dL_presses_147 rfl (lv_at hl 4 rfl) ?_
        refine b_icmp_ne (tgt := 155) hx hb dL_presses_148 (by decide) ⟨⟨by omega, by omega⟩, ⟨by omega, by omega⟩⟩ (fun c => absurd c (by omega)) (fun _ => ?_)
        refine b_iconst hx hb dL_presses_151 ?_
        refine lv_goto (tgt := 156) hx hb dL_presses_152 (by decide) ?_
        exact g_zret hx hb hr hlocks hS (by decide +kernel) ⟨Nat.le_of_ble_eq_true rfl, Nat.le_of_ble_eq_true rfl⟩ (⟨rfl, Y, hL1, hY4, hP⟩) dL_presses_156
      · skip
        refine lv_iload hx hb dL_presses_60 (lv_at hl 0 rfl) ?_
        refine b_iconst hx hb dL_presses_62 ?_
        refine b_icmp_eq (tgt := 70) hx hb dL_presses_63 (by decide) ⟨⟨by omega, by omega⟩, ⟨by omega, by omega⟩⟩ (fun c => absurd c (by omega)) (fun _ => ?_)
        refine b_iconst hx hb dL_presses_66 ?_
        refine lv_goto (tgt := 71) hx hb dL_presses_67 (by decide) ?_
        refine b_icmp_ne (tgt := 78) hx hb dL_presses_71 (by decide) ⟨⟨by omega, by omega⟩, ⟨by omega, by omega⟩⟩ (fun c => absurd c (by omega)) (fun _ => ?_)
        refine b_iconst hx hb dL_presses_74 ?_
        refine lv_goto (tgt := 79) hx hb dL_presses_75 (by decide) ?_
        refine lv_istore (lv' := [(7, .int (z2 (1))), (6, .int (z2 (0))), (5, .int (z2 (X 14 n))), (4, .int (z2 (X 20 n))), (3, .int (z2 (rsS X n))), (0, .ref bx), (1, .int (z2 (((n : Nat) : Int)))), (2, .int (z2 (((b : Nat) : Int))))]) hx hb dL_presses_79 hl (by decide) rfl (fun ls hl => ?_)
        refine lv_iload hx hb dL_presses_81 (lv_at hl 0 rfl) ?_
        refine b_if_eq (tgt := 155) hx hb dL_presses_83 (by decide) ⟨by omega, by omega⟩ (fun c => absurd c (by omega)) (fun _ => ?_)
        refine lv_iload hx hb dL_presses_86 (lv_at hl 1 rfl) ?_
        refine b_iconst hx hb dL_presses_88 ?_
        refine b_icmp_ne (tgt := 125) hx hb dL_presses_89 (by decide) ⟨⟨by omega, by omega⟩, ⟨by omega, by omega⟩⟩ (fun _ => ?_) (fun c => absurd c (by omega))
        refine lv_iload hx hb dL_presses_125 (lv_at hl 1 rfl) ?_
        refine b_iconst hx hb dL_presses_127 ?_
        refine b_icmp_ne (tgt := 142) hx hb dL_presses_128 (by decide) ⟨⟨by omega, by omega⟩, ⟨by omega, by omega⟩⟩ (fun _ => ?_) (fun c => absurd c (by omega))
        refine lv_aload_n hx hb dL_presses_142 rfl (lv_at hl 5 rfl) ?_
        refine lv_iload_n hx hb dL_presses_143 rfl (lv_at hl 6 rfl) ?_
        refine g_run (vx_runV (As := [.int (z2 (((n : Nat) : Int)))]) (rest := []) ⟨hx, hb, hml, hown, hts⟩ (k_ringing l D ks bx ml Y _ hP hL1.1 hst (((n : Nat) : Int)) ⟨by omega, by omega⟩) (cwV 1 hts gL_presses_X4_ringing rfl rfl rfl (by decide +kernel) ⟨Nat.le_of_ble_eq_true rfl, Nat.le_of_ble_eq_true rfl⟩) (g_preV (r := (RX4, TX4, 7)) hG hS rx_ge hP.1 rfl) rfl rfl hl.1 rfl (lv_room (Nat.le_of_ble_eq_true rfl)) dL_presses_144 ⟨Nat.le_of_ble_eq_true rfl, Nat.le_of_ble_eq_true rfl⟩) hS (fun _ h => h) (fun E ce q9 H1 locs1 hp hz9 hk9 hS hce hcv hcl => by obtain ⟨-, e9⟩ := hp; exfalso; have h9 := e9.2; omega) (fun v H locs hp hz9 hk9 hS => ?_)
        obtain ⟨n9, ⟨hn9, hn8⟩, rfl, hH9⟩ := hp
        obtain rfl := hH9.symm
        obtain rfl : n = n9 := by omega
        refine W.eq (g2 := F0 m 147 ls [.int (z2 (rsS Y n))]) rfl ?_
        refine lv_iload_n hx hb dL_presses_147 rfl (lv_at hl 4 rfl) ?_
        refine b_icmp_ne (tgt := 155) hx hb dL_presses_148 (by decide) ⟨⟨by omega, by omega⟩, ⟨by omega, by omega⟩⟩ (fun c => absurd c (by omega)) (fun _ => ?_)
        refine b_iconst hx hb dL_presses_151 ?_
        refine lv_goto (tgt := 156) hx hb dL_presses_152 (by decide) ?_
        exact g_zret hx hb hr hlocks hS (by decide +kernel) ⟨Nat.le_of_ble_eq_true rfl, Nat.le_of_ble_eq_true rfl⟩ (⟨rfl, Y, hL1, hY4, hP⟩) dL_presses_156
    · skip
      rw [if_neg (by decide)] at q20
      have g14 := qn3 (by decide)
      have gs := qs (by decide)
      obtain ⟨g1, g2, g3, g4⟩ := q1 rfl
      refine W.eq (g2 := F0 m 26 ls [.int (z2 (1))]) rfl ?_
      refine lv_istore (lv' := [(6, .int (z2 (1))), (5, .int (z2 (X 14 n))), (4, .int (z2 (X 20 n))), (3, .int (z2 (rsS X n))), (0, .ref bx), (1, .int (z2 (((n : Nat) : Int)))), (2, .int (z2 (((b : Nat) : Int))))]) hx hb dL_presses_26 hl (by decide) rfl (fun ls hl => ?_)
      refine lv_aload_n hx hb dL_presses_28 rfl (lv_at hl 4 rfl) ?_
      refine lv_iload_n hx hb dL_presses_29 rfl (lv_at hl 5 rfl) ?_
      refine g_run (vx_runV (As := [.int (z2 (((n : Nat) : Int)))]) (rest := []) ⟨hx, hb, hml, hown, hts⟩ (k_hushed l D ks bx ml Y _ hP hL1.1 hst (((n : Nat) : Int)) ⟨by omega, by omega⟩) (cwV 1 hts gL_presses_X4_hushed rfl rfl rfl (by decide +kernel) ⟨Nat.le_of_ble_eq_true rfl, Nat.le_of_ble_eq_true rfl⟩) (g_preV (r := (RX4, TX4, 7)) hG hS rx_ge hP.1 rfl) rfl rfl hl.1 rfl (lv_room (Nat.le_of_ble_eq_true rfl)) dL_presses_30 ⟨Nat.le_of_ble_eq_true rfl, Nat.le_of_ble_eq_true rfl⟩) hS (fun _ h => h) (fun E ce q9 H1 locs1 hp hz9 hk9 hS hce hcv hcl => by obtain ⟨-, e9⟩ := hp; exfalso; have h9 := e9.2; omega) (fun v H locs hp hz9 hk9 hS => ?_)
      obtain ⟨n9, ⟨hn9, hn8⟩, rfl, hH9⟩ := hp
      obtain rfl := hH9.symm
      obtain rfl : n = n9 := by omega
      refine W.eq (g2 := F0 m 33 ls [.int (z2 (Y 20 n))]) rfl ?_
      refine lv_iload hx hb dL_presses_33 (lv_at hl 2 rfl) ?_
      refine lv_iload hx hb dL_presses_35 (lv_at hl 0 rfl) ?_
      refine b_iconst hx hb dL_presses_37 ?_
      refine b_icmp_ne (tgt := 45) hx hb dL_presses_38 (by decide) ⟨⟨by omega, by omega⟩, ⟨by omega, by omega⟩⟩ (fun _ => ?_) (fun c => absurd c (by omega))
      refine b_iconst hx hb dL_presses_45 ?_
      refine b_iadd hx hb dL_presses_46 ?_
      refine b_icmp_ne (tgt := 78) hx hb dL_presses_47 (by decide) ⟨⟨by omega, by omega⟩, ⟨by omega, by omega⟩⟩ (fun c => absurd c (by omega)) (fun _ => ?_)
      refine lv_aload_n hx hb dL_presses_50 rfl (lv_at hl 4 rfl) ?_
      refine lv_iload_n hx hb dL_presses_51 rfl (lv_at hl 5 rfl) ?_
      refine g_run (vx_runV (As := [.int (z2 (((n : Nat) : Int)))]) (rest := []) ⟨hx, hb, hml, hown, hts⟩ (k_isSound l D ks bx ml Y _ hP hL1.1 hst (((n : Nat) : Int)) ⟨by omega, by omega⟩) (cwV 1 hts gL_presses_X4_isSound rfl rfl rfl (by decide +kernel) ⟨Nat.le_of_ble_eq_true rfl, Nat.le_of_ble_eq_true rfl⟩) (g_preV (r := (RX4, TX4, 7)) hG hS rx_ge hP.1 rfl) rfl rfl hl.1 rfl (lv_room (Nat.le_of_ble_eq_true rfl)) dL_presses_52 ⟨Nat.le_of_ble_eq_true rfl, Nat.le_of_ble_eq_true rfl⟩) hS (fun _ h => h) (fun E ce q9 H1 locs1 hp hz9 hk9 hS hce hcv hcl => by obtain ⟨-, e9⟩ := hp; exfalso; have h9 := e9.2; omega) (fun v H locs hp hz9 hk9 hS => ?_)
      obtain ⟨n9, ⟨hn9, hn8⟩, rfl, hH9⟩ := hp
      obtain rfl := hH9.symm
      obtain rfl : n = n9 := by omega
      refine W.eq (g2 := F0 m 55 ls [.int (z2 (Y 14 n))]) rfl ?_
      refine lv_iload hx hb dL_presses_55 (lv_at hl 1 rfl) ?_
      refine b_if_eq (tgt := 70) hx hb dL_presses_57 (by decide) ⟨by omega, by omega⟩ (fun c => absurd c (by omega)) (fun _ => ?_)
      refine lv_iload hx hb dL_presses_60 (lv_at hl 0 rfl) ?_
      refine b_iconst hx hb dL_presses_62 ?_
      refine b_icmp_eq (tgt := 70) hx hb dL_presses_63 (by decide) ⟨⟨by omega, by omega⟩, ⟨by omega, by omega⟩⟩ (fun c => absurd c (by omega)) (fun _ => ?_)
      refine b_iconst hx hb dL_presses_66 ?_
      refine lv_goto (tgt := 71) hx hb dL_presses_67 (by decide) ?_
      refine b_icmp_ne (tgt := 78) hx hb dL_presses_71 (by decide) ⟨⟨by omega, by omega⟩, ⟨by omega, by omega⟩⟩ (fun c => absurd c (by omega)) (fun _ => ?_)
      refine b_iconst hx hb dL_presses_74 ?_
      refine lv_goto (tgt := 79) hx hb dL_presses_75 (by decide) ?_
      refine lv_istore (lv' := [(7, .int (z2 (1))), (6, .int (z2 (1))), (5, .int (z2 (X 14 n))), (4, .int (z2 (X 20 n))), (3, .int (z2 (rsS X n))), (0, .ref bx), (1, .int (z2 (((n : Nat) : Int)))), (2, .int (z2 (((b : Nat) : Int))))]) hx hb dL_presses_79 hl (by decide) rfl (fun ls hl => ?_)
      refine lv_iload hx hb dL_presses_81 (lv_at hl 0 rfl) ?_
      refine b_if_eq (tgt := 155) hx hb dL_presses_83 (by decide) ⟨by omega, by omega⟩ (fun c => absurd c (by omega)) (fun _ => ?_)
      refine lv_iload hx hb dL_presses_86 (lv_at hl 1 rfl) ?_
      refine b_iconst hx hb dL_presses_88 ?_
      refine b_icmp_ne (tgt := 125) hx hb dL_presses_89 (by decide) ⟨⟨by omega, by omega⟩, ⟨by omega, by omega⟩⟩ (fun c => absurd c (by omega)) (fun _ => ?_)
      refine lv_iload_n hx hb dL_presses_92 rfl (lv_at hl 4 rfl) ?_
      refine lv_iload_n hx hb dL_presses_93 rfl (lv_at hl 7 rfl) ?_
      refine lv_ishr hx hb dL_presses_94 ?_
      refine b_iconst hx hb dL_presses_95 ?_
      refine lv_iand hx hb dL_presses_96 ?_
      refine b_top (v := 0) (bit_0 hb3 g1) ?_
      refine b_if_ne (tgt := 155) hx hb dL_presses_97 (by decide) ⟨by omega, by omega⟩ (fun c => absurd c (by omega)) (fun _ => ?_)
      refine lv_aload_n hx hb dL_presses_100 rfl (lv_at hl 5 rfl) ?_
      refine lv_iload_n hx hb dL_presses_101 rfl (lv_at hl 6 rfl) ?_
      refine g_run (vx_runV (As := [.int (z2 (((n : Nat) : Int)))]) (rest := []) ⟨hx, hb, hml, hown, hts⟩ (k_ringing l D ks bx ml Y _ hP hL1.1 hst (((n : Nat) : Int)) ⟨by omega, by omega⟩) (cwV 1 hts gL_presses_X4_ringing rfl rfl rfl (by decide +kernel) ⟨Nat.le_of_ble_eq_true rfl, Nat.le_of_ble_eq_true rfl⟩) (g_preV (r := (RX4, TX4, 7)) hG hS rx_ge hP.1 rfl) rfl rfl hl.1 rfl (lv_room (Nat.le_of_ble_eq_true rfl)) dL_presses_102 ⟨Nat.le_of_ble_eq_true rfl, Nat.le_of_ble_eq_true rfl⟩) hS (fun _ h => h) (fun E ce q9 H1 locs1 hp hz9 hk9 hS hce hcv hcl => by obtain ⟨-, e9⟩ := hp; exfalso; have h9 := e9.2; omega) (fun v H locs hp hz9 hk9 hS => ?_)
      obtain ⟨n9, ⟨hn9, hn8⟩, rfl, hH9⟩ := hp
      obtain rfl := hH9.symm
      obtain rfl : n = n9 := by omega
      refine W.eq (g2 := F0 m 105 ls [.int (z2 (rsS Y n))]) rfl ?_
      refine lv_iload_n hx hb dL_presses_105 rfl (lv_at hl 4 rfl) ?_
      refine b_iconst hx hb dL_presses_106 ?_
      refine lv_iload_n hx hb dL_presses_107 rfl (lv_at hl 7 rfl) ?_
      refine lv_ishl hx hb dL_presses_108 ?_
      refine lv_ior hx hb dL_presses_109 ?_
      refine b_top (v := rsS Y n) (bit_1 hb3 g1 g2 g4) ?_
      refine b_icmp_ne (tgt := 155) hx hb dL_presses_110 (by decide) ⟨⟨by omega, by omega⟩, ⟨by omega, by omega⟩⟩ (fun c => absurd c (by omega)) (fun _ => ?_)
      refine lv_aload_n hx hb dL_presses_113 rfl (lv_at hl 5 rfl) ?_
      refine lv_iload_n hx hb dL_presses_114 rfl (lv_at hl 6 rfl) ?_
      refine lv_iload_n hx hb dL_presses_115 rfl (lv_at hl 7 rfl) ?_
      refine g_run (vx_runSX (As := [.ref bx, .int (z2 (((n : Nat) : Int))), .int (z2 (((b : Nat) : Int)))]) (rest := []) ⟨hx, hb, hml, hown, hts⟩ (w_press l D ks bx ml Y _ hP hL1.1 hst n b hn hb3) (vx_cwSW 3 hts gL_presses_L_press rfl rfl rfl (by decide +kernel) ⟨Nat.le_of_ble_eq_true rfl, Nat.le_of_ble_eq_true rfl⟩) (g_preS hG hS rx_ge) rfl rfl hl.1 rfl (lv_room (Nat.le_of_ble_eq_true rfl)) dL_presses_116 ⟨Nat.le_of_ble_eq_true rfl, Nat.le_of_ble_eq_true rfl⟩) hS (fun _ h => h) (fun _ _ _ _ _ h => h.elim) (fun v H locs hp hz9 hk9 hS => ?_)
      rcases hp with ⟨p2, -, -⟩ | ⟨k2, p2, rfl, hP9⟩
      · exact absurd p2 (by omega)
      have hz2 := pr_none (X := Y) (n := n) (b := b) (k := k2) (by omega)
      rw [hz2.2] at hP9
      rw [hz2.1]
      have hP := hP9
      refine W.eq (g2 := F0 m 119 ls [.int (z2 (0))]) rfl ?_
      refine b_if_ne (tgt := 155) hx hb dL_presses_119 (by decide) ⟨by omega, by omega⟩ (fun c => absurd c (by omega)) (fun _ => ?_)
      refine lv_goto (tgt := 151) hx hb dL_presses_122 (by decide) ?_
      refine b_iconst hx hb dL_presses_151 ?_
      refine lv_goto (tgt := 156) hx hb dL_presses_152 (by decide) ?_
      exact g_zret hx hb hr hlocks hS (by decide +kernel) ⟨Nat.le_of_ble_eq_true rfl, Nat.le_of_ble_eq_true rfl⟩ (⟨rfl, Y, hL1, hY4, hP⟩) dL_presses_156
    · skip
      rw [if_pos rfl] at q20
      have g14 := qn3 (by decide)
      have gs := qs (by decide)
      have grs := qr (by decide) (by decide)
      refine W.eq (g2 := F0 m 26 ls [.int (z2 (2))]) rfl ?_
      refine lv_istore (lv' := [(6, .int (z2 (2))), (5, .int (z2 (X 14 n))), (4, .int (z2 (X 20 n))), (3, .int (z2 (rsS X n))), (0, .ref bx), (1, .int (z2 (((n : Nat) : Int)))), (2, .int (z2 (((b : Nat) : Int))))]) hx hb dL_presses_26 hl (by decide) rfl (fun ls hl => ?_)
      refine lv_aload_n hx hb dL_presses_28 rfl (lv_at hl 4 rfl) ?_
      refine lv_iload_n hx hb dL_presses_29 rfl (lv_at hl 5 rfl) ?_
      refine g_run (vx_runV (As := [.int (z2 (((n : Nat) : Int)))]) (rest := []) ⟨hx, hb, hml, hown, hts⟩ (k_hushed l D ks bx ml Y _ hP hL1.1 hst (((n : Nat) : Int)) ⟨by omega, by omega⟩) (cwV 1 hts gL_presses_X4_hushed rfl rfl rfl (by decide +kernel) ⟨Nat.le_of_ble_eq_true rfl, Nat.le_of_ble_eq_true rfl⟩) (g_preV (r := (RX4, TX4, 7)) hG hS rx_ge hP.1 rfl) rfl rfl hl.1 rfl (lv_room (Nat.le_of_ble_eq_true rfl)) dL_presses_30 ⟨Nat.le_of_ble_eq_true rfl, Nat.le_of_ble_eq_true rfl⟩) hS (fun _ h => h) (fun E ce q9 H1 locs1 hp hz9 hk9 hS hce hcv hcl => by obtain ⟨-, e9⟩ := hp; exfalso; have h9 := e9.2; omega) (fun v H locs hp hz9 hk9 hS => ?_)
      obtain ⟨n9, ⟨hn9, hn8⟩, rfl, hH9⟩ := hp
      obtain rfl := hH9.symm
      obtain rfl : n = n9 := by omega
      refine W.eq (g2 := F0 m 33 ls [.int (z2 (Y 20 n))]) rfl ?_
      refine lv_iload hx hb dL_presses_33 (lv_at hl 2 rfl) ?_
      refine lv_iload hx hb dL_presses_35 (lv_at hl 0 rfl) ?_
      refine b_iconst hx hb dL_presses_37 ?_
      refine b_icmp_ne (tgt := 45) hx hb dL_presses_38 (by decide) ⟨⟨by omega, by omega⟩, ⟨by omega, by omega⟩⟩ (fun c => absurd c (by omega)) (fun _ => ?_)
      refine b_iconst hx hb dL_presses_41 ?_
      refine lv_goto (tgt := 46) hx hb dL_presses_42 (by decide) ?_
      refine b_iadd hx hb dL_presses_46 ?_
      refine b_icmp_ne (tgt := 78) hx hb dL_presses_47 (by decide) ⟨⟨by omega, by omega⟩, ⟨by omega, by omega⟩⟩ (fun c => absurd c (by omega)) (fun _ => ?_)
      refine lv_aload_n hx hb dL_presses_50 rfl (lv_at hl 4 rfl) ?_
      refine lv_iload_n hx hb dL_presses_51 rfl (lv_at hl 5 rfl) ?_
      refine g_run (vx_runV (As := [.int (z2 (((n : Nat) : Int)))]) (rest := []) ⟨hx, hb, hml, hown, hts⟩ (k_isSound l D ks bx ml Y _ hP hL1.1 hst (((n : Nat) : Int)) ⟨by omega, by omega⟩) (cwV 1 hts gL_presses_X4_isSound rfl rfl rfl (by decide +kernel) ⟨Nat.le_of_ble_eq_true rfl, Nat.le_of_ble_eq_true rfl⟩) (g_preV (r := (RX4, TX4, 7)) hG hS rx_ge hP.1 rfl) rfl rfl hl.1 rfl (lv_room (Nat.le_of_ble_eq_true rfl)) dL_presses_52 ⟨Nat.le_of_ble_eq_true rfl, Nat.le_of_ble_eq_true rfl⟩) hS (fun _ h => h) (fun E ce q9 H1 locs1 hp hz9 hk9 hS hce hcv hcl => by obtain ⟨-, e9⟩ := hp; exfalso; have h9 := e9.2; omega) (fun v H locs hp hz9 hk9 hS => ?_)
      obtain ⟨n9, ⟨hn9, hn8⟩, rfl, hH9⟩ := hp
      obtain rfl := hH9.symm
      obtain rfl : n = n9 := by omega
      refine W.eq (g2 := F0 m 55 ls [.int (z2 (Y 14 n))]) rfl ?_
      refine lv_iload hx hb dL_presses_55 (lv_at hl 1 rfl) ?_
      refine b_if_eq (tgt := 70) hx hb dL_presses_57 (by decide) ⟨by omega, by omega⟩ (fun c => absurd c (by omega)) (fun _ => ?_)
      refine lv_iload hx hb dL_presses_60 (lv_at hl 0 rfl) ?_
      refine b_iconst hx hb dL_presses_62 ?_
      refine b_icmp_eq (tgt := 70) hx hb dL_presses_63 (by decide) ⟨⟨by omega, by omega⟩, ⟨by omega, by omega⟩⟩ (fun c => absurd c (by omega)) (fun _ => ?_)
      refine b_iconst hx hb dL_presses_66 ?_
      refine lv_goto (tgt := 71) hx hb dL_presses_67 (by decide) ?_
      refine b_icmp_ne (tgt := 78) hx hb dL_presses_71 (by decide) ⟨⟨by omega, by omega⟩, ⟨by omega, by omega⟩⟩ (fun c => absurd c (by omega)) (fun _ => ?_)
      refine b_iconst hx hb dL_presses_74 ?_
      refine lv_goto (tgt := 79) hx hb dL_presses_75 (by decide) ?_
      refine lv_istore (lv' := [(7, .int (z2 (1))), (6, .int (z2 (2))), (5, .int (z2 (X 14 n))), (4, .int (z2 (X 20 n))), (3, .int (z2 (rsS X n))), (0, .ref bx), (1, .int (z2 (((n : Nat) : Int)))), (2, .int (z2 (((b : Nat) : Int))))]) hx hb dL_presses_79 hl (by decide) rfl (fun ls hl => ?_)
      refine lv_iload hx hb dL_presses_81 (lv_at hl 0 rfl) ?_
      refine b_if_eq (tgt := 155) hx hb dL_presses_83 (by decide) ⟨by omega, by omega⟩ (fun c => absurd c (by omega)) (fun _ => ?_)
      refine lv_iload hx hb dL_presses_86 (lv_at hl 1 rfl) ?_
      refine b_iconst hx hb dL_presses_88 ?_
      refine b_icmp_ne (tgt := 125) hx hb dL_presses_89 (by decide) ⟨⟨by omega, by omega⟩, ⟨by omega, by omega⟩⟩ (fun _ => ?_) (fun c => absurd c (by omega))
      refine lv_iload hx hb dL_presses_125 (lv_at hl 1 rfl) ?_
      refine b_iconst hx hb dL_presses_127 ?_
      refine b_icmp_ne (tgt := 142) hx hb dL_presses_128 (by decide) ⟨⟨by omega, by omega⟩, ⟨by omega, by omega⟩⟩ (fun _ => ?_) (fun c => absurd c (by omega))
      refine lv_aload_n hx hb dL_presses_142 rfl (lv_at hl 5 rfl) ?_
      refine lv_iload_n hx hb dL_presses_143 rfl (lv_at hl 6 rfl) ?_
      refine g_run (vx_runV (As := [.int (z2 (((n : Nat) : Int)))]) (rest := []) ⟨hx, hb, hml, hown, hts⟩ (k_ringing l D ks bx ml Y _ hP hL1.1 hst (((n : Nat) : Int)) ⟨by omega, by omega⟩) (cwV 1 hts gL_presses_X4_ringing rfl rfl rfl (by decide +kernel) ⟨Nat.le_of_ble_eq_true rfl, Nat.le_of_ble_eq_true rfl⟩) (g_preV (r := (RX4, TX4, 7)) hG hS rx_ge hP.1 rfl) rfl rfl hl.1 rfl (lv_room (Nat.le_of_ble_eq_true rfl)) dL_presses_144 ⟨Nat.le_of_ble_eq_true rfl, Nat.le_of_ble_eq_true rfl⟩) hS (fun _ h => h) (fun E ce q9 H1 locs1 hp hz9 hk9 hS hce hcv hcl => by obtain ⟨-, e9⟩ := hp; exfalso; have h9 := e9.2; omega) (fun v H locs hp hz9 hk9 hS => ?_)
      obtain ⟨n9, ⟨hn9, hn8⟩, rfl, hH9⟩ := hp
      obtain rfl := hH9.symm
      obtain rfl : n = n9 := by omega
      refine W.eq (g2 := F0 m 147 ls [.int (z2 (rsS Y n))]) rfl ?_
      refine lv_iload_n hx hb dL_presses_147 rfl (lv_at hl 4 rfl) ?_
      refine b_icmp_ne (tgt := 155) hx hb dL_presses_148 (by decide) ⟨⟨by omega, by omega⟩, ⟨by omega, by omega⟩⟩ (fun c => absurd c (by omega)) (fun _ => ?_)
      refine b_iconst hx hb dL_presses_151 ?_
      refine lv_goto (tgt := 156) hx hb dL_presses_152 (by decide) ?_
      exact g_zret hx hb hr hlocks hS (by decide +kernel) ⟨Nat.le_of_ble_eq_true rfl, Nat.le_of_ble_eq_true rfl⟩ (⟨rfl, Y, hL1, hY4, hP⟩) dL_presses_156
    · skip
      rw [if_neg (by decide)] at q20
      have g14 := (q3 rfl).1
      have grs := (q3 rfl).2
      have gs := qs (by decide)
      refine W.eq (g2 := F0 m 26 ls [.int (z2 (3))]) rfl ?_
      refine lv_istore (lv' := [(6, .int (z2 (3))), (5, .int (z2 (X 14 n))), (4, .int (z2 (X 20 n))), (3, .int (z2 (rsS X n))), (0, .ref bx), (1, .int (z2 (((n : Nat) : Int)))), (2, .int (z2 (((b : Nat) : Int))))]) hx hb dL_presses_26 hl (by decide) rfl (fun ls hl => ?_)
      refine lv_aload_n hx hb dL_presses_28 rfl (lv_at hl 4 rfl) ?_
      refine lv_iload_n hx hb dL_presses_29 rfl (lv_at hl 5 rfl) ?_
      refine g_run (vx_runV (As := [.int (z2 (((n : Nat) : Int)))]) (rest := []) ⟨hx, hb, hml, hown, hts⟩ (k_hushed l D ks bx ml Y _ hP hL1.1 hst (((n : Nat) : Int)) ⟨by omega, by omega⟩) (cwV 1 hts gL_presses_X4_hushed rfl rfl rfl (by decide +kernel) ⟨Nat.le_of_ble_eq_true rfl, Nat.le_of_ble_eq_true rfl⟩) (g_preV (r := (RX4, TX4, 7)) hG hS rx_ge hP.1 rfl) rfl rfl hl.1 rfl (lv_room (Nat.le_of_ble_eq_true rfl)) dL_presses_30 ⟨Nat.le_of_ble_eq_true rfl, Nat.le_of_ble_eq_true rfl⟩) hS (fun _ h => h) (fun E ce q9 H1 locs1 hp hz9 hk9 hS hce hcv hcl => by obtain ⟨-, e9⟩ := hp; exfalso; have h9 := e9.2; omega) (fun v H locs hp hz9 hk9 hS => ?_)
      obtain ⟨n9, ⟨hn9, hn8⟩, rfl, hH9⟩ := hp
      obtain rfl := hH9.symm
      obtain rfl : n = n9 := by omega
      refine W.eq (g2 := F0 m 33 ls [.int (z2 (Y 20 n))]) rfl ?_
      refine lv_iload hx hb dL_presses_33 (lv_at hl 2 rfl) ?_
      refine lv_iload hx hb dL_presses_35 (lv_at hl 0 rfl) ?_
      refine b_iconst hx hb dL_presses_37 ?_
      refine b_icmp_ne (tgt := 45) hx hb dL_presses_38 (by decide) ⟨⟨by omega, by omega⟩, ⟨by omega, by omega⟩⟩ (fun _ => ?_) (fun c => absurd c (by omega))
      refine b_iconst hx hb dL_presses_45 ?_
      refine b_iadd hx hb dL_presses_46 ?_
      refine b_icmp_ne (tgt := 78) hx hb dL_presses_47 (by decide) ⟨⟨by omega, by omega⟩, ⟨by omega, by omega⟩⟩ (fun c => absurd c (by omega)) (fun _ => ?_)
      refine lv_aload_n hx hb dL_presses_50 rfl (lv_at hl 4 rfl) ?_
      refine lv_iload_n hx hb dL_presses_51 rfl (lv_at hl 5 rfl) ?_
      refine g_run (vx_runV (As := [.int (z2 (((n : Nat) : Int)))]) (rest := []) ⟨hx, hb, hml, hown, hts⟩ (k_isSound l D ks bx ml Y _ hP hL1.1 hst (((n : Nat) : Int)) ⟨by omega, by omega⟩) (cwV 1 hts gL_presses_X4_isSound rfl rfl rfl (by decide +kernel) ⟨Nat.le_of_ble_eq_true rfl, Nat.le_of_ble_eq_true rfl⟩) (g_preV (r := (RX4, TX4, 7)) hG hS rx_ge hP.1 rfl) rfl rfl hl.1 rfl (lv_room (Nat.le_of_ble_eq_true rfl)) dL_presses_52 ⟨Nat.le_of_ble_eq_true rfl, Nat.le_of_ble_eq_true rfl⟩) hS (fun _ h => h) (fun E ce q9 H1 locs1 hp hz9 hk9 hS hce hcv hcl => by obtain ⟨-, e9⟩ := hp; exfalso; have h9 := e9.2; omega) (fun v H locs hp hz9 hk9 hS => ?_)
      obtain ⟨n9, ⟨hn9, hn8⟩, rfl, hH9⟩ := hp
      obtain rfl := hH9.symm
      obtain rfl : n = n9 := by omega
      refine W.eq (g2 := F0 m 55 ls [.int (z2 (Y 14 n))]) rfl ?_
      refine lv_iload hx hb dL_presses_55 (lv_at hl 1 rfl) ?_
      refine b_if_eq (tgt := 70) hx hb dL_presses_57 (by decide) ⟨by omega, by omega⟩ (fun c => absurd c (by omega)) (fun _ => ?_)
      refine lv_iload hx hb dL_presses_60 (lv_at hl 0 rfl) ?_
      refine b_iconst hx hb dL_presses_62 ?_
      refine b_icmp_eq (tgt := 70) hx hb dL_presses_63 (by decide) ⟨⟨by omega, by omega⟩, ⟨by omega, by omega⟩⟩ (fun _ => ?_) (fun c => absurd c (by omega))
      refine b_iconst hx hb dL_presses_70 ?_
      refine b_icmp_ne (tgt := 78) hx hb dL_presses_71 (by decide) ⟨⟨by omega, by omega⟩, ⟨by omega, by omega⟩⟩ (fun c => absurd c (by omega)) (fun _ => ?_)
      refine b_iconst hx hb dL_presses_74 ?_
      refine lv_goto (tgt := 79) hx hb dL_presses_75 (by decide) ?_
      refine lv_istore (lv' := [(7, .int (z2 (1))), (6, .int (z2 (3))), (5, .int (z2 (X 14 n))), (4, .int (z2 (X 20 n))), (3, .int (z2 (rsS X n))), (0, .ref bx), (1, .int (z2 (((n : Nat) : Int)))), (2, .int (z2 (((b : Nat) : Int))))]) hx hb dL_presses_79 hl (by decide) rfl (fun ls hl => ?_)
      refine lv_iload hx hb dL_presses_81 (lv_at hl 0 rfl) ?_
      refine b_if_eq (tgt := 155) hx hb dL_presses_83 (by decide) ⟨by omega, by omega⟩ (fun c => absurd c (by omega)) (fun _ => ?_)
      refine lv_iload hx hb dL_presses_86 (lv_at hl 1 rfl) ?_
      refine b_iconst hx hb dL_presses_88 ?_
      refine b_icmp_ne (tgt := 125) hx hb dL_presses_89 (by decide) ⟨⟨by omega, by omega⟩, ⟨by omega, by omega⟩⟩ (fun _ => ?_) (fun c => absurd c (by omega))
      refine lv_iload hx hb dL_presses_125 (lv_at hl 1 rfl) ?_
      refine b_iconst hx hb dL_presses_127 ?_
      refine b_icmp_ne (tgt := 142) hx hb dL_presses_128 (by decide) ⟨⟨by omega, by omega⟩, ⟨by omega, by omega⟩⟩ (fun c => absurd c (by omega)) (fun _ => ?_)
      refine lv_aload_n hx hb dL_presses_131 rfl (lv_at hl 5 rfl) ?_
      refine lv_iload_n hx hb dL_presses_132 rfl (lv_at hl 6 rfl) ?_
      refine g_run (vx_runV (As := [.int (z2 (((n : Nat) : Int)))]) (rest := []) ⟨hx, hb, hml, hown, hts⟩ (k_ringing l D ks bx ml Y _ hP hL1.1 hst (((n : Nat) : Int)) ⟨by omega, by omega⟩) (cwV 1 hts gL_presses_X4_ringing rfl rfl rfl (by decide +kernel) ⟨Nat.le_of_ble_eq_true rfl, Nat.le_of_ble_eq_true rfl⟩) (g_preV (r := (RX4, TX4, 7)) hG hS rx_ge hP.1 rfl) rfl rfl hl.1 rfl (lv_room (Nat.le_of_ble_eq_true rfl)) dL_presses_133 ⟨Nat.le_of_ble_eq_true rfl, Nat.le_of_ble_eq_true rfl⟩) hS (fun _ h => h) (fun E ce q9 H1 locs1 hp hz9 hk9 hS hce hcv hcl => by obtain ⟨-, e9⟩ := hp; exfalso; have h9 := e9.2; omega) (fun v H locs hp hz9 hk9 hS => ?_)
      obtain ⟨n9, ⟨hn9, hn8⟩, rfl, hH9⟩ := hp
      obtain rfl := hH9.symm
      obtain rfl : n = n9 := by omega
      refine W.eq (g2 := F0 m 136 ls [.int (z2 (rsS Y n))]) rfl ?_
      refine b_if_ne (tgt := 155) hx hb dL_presses_136 (by decide) ⟨by omega, by omega⟩ (fun c => absurd c (by omega)) (fun _ => ?_)
      refine lv_goto (tgt := 151) hx hb dL_presses_139 (by decide) ?_
      refine b_iconst hx hb dL_presses_151 ?_
      refine lv_goto (tgt := 156) hx hb dL_presses_152 (by decide) ?_
      exact g_zret hx hb hr hlocks hS (by decide +kernel) ⟨Nat.le_of_ble_eq_true rfl, Nat.le_of_ble_eq_true rfl⟩ (⟨rfl, Y, hL1, hY4, hP⟩) dL_presses_156
