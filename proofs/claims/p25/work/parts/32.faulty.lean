/-! THE LAW's faulty. -/
set_option maxHeartbeats 4000000 in
set_option maxRecDepth 100000 in
theorem w_faulty (l : Launch) (D : va_G) (ks : Nat → ClassId) (bx : Nat) (ml : Nat → Nat) (X : Nat → Nat → Int) (H : Heap) (hP : PX D ks bx ml X H) (hst : l.stackTraces = false) (N : Nat) (hL : LV N X) (n : Nat) (hn : n < 8) : KM l yL_faulty wsL_faulty ({ frames := 10, cells := 20, slots := 120, locals := 181 } : Room) D ks bx [.ref bx, .int (z2 ((n : Nat) : Int))] H (RX bx) (fun v H1 => v = some (.int (z2 1)) ∧ ∃ Y : Nat → Nat → Int, LV N Y ∧ Y 4 0 = X 4 0 ∧ PX D ks bx ml Y H1) (fun _ _ => False) := by
  refine KM.of (cc := cL_faulty) (maxL := 8) (ret := (some .boolean)) (by decide) rfl (Nat.le_of_ble_eq_true rfl) ?_
  intro p e s m below meth c hx hb hml hr hlocks hown hname hts hext hH0 hG ls hl
  subst hH0
  have hown : s.vm.findClass RL = some m.cls := hown
  have hS : va_S (AR (RX bx) s.heap.size) s.heap s.heap [] := va_S.rf
  have hl : lv_has ls 8 [(0, .ref bx), (1, .int (z2 (((n : Nat) : Int))))] := hl
  obtain ⟨hV, hT, hY⟩ := id hL
  have b14 : 0 ≤ X 14 n ∧ X 14 n ≤ 1 := hV.1 14 n rfl
  have b5 : 0 ≤ X 5 0 ∧ X 5 0 ≤ 100 := hV.1 5 0 rfl
  have b6 : 0 ≤ X 6 0 ∧ X 6 0 ≤ 1000000 := hV.1 6 0 rfl
  refine lv_aload_n hx hb dL_faulty_0 rfl (lv_at hl 0 rfl) ?_
  refine g_run (vx_runV (As := []) (rest := []) ⟨hx, hb, hml, hown, hts⟩ (k_faults l D ks bx ml X _ hP hV) (cwV 0 hts gL_faulty_X4_faults rfl rfl rfl (by decide +kernel) ⟨Nat.le_of_ble_eq_true rfl, Nat.le_of_ble_eq_true rfl⟩) (g_preV (r := (RX4, TX4, 7)) hG hS rx_ge hP.1 rfl) rfl rfl hl.1 rfl (lv_room (Nat.le_of_ble_eq_true rfl)) dL_faulty_1 ⟨Nat.le_of_ble_eq_true rfl, Nat.le_of_ble_eq_true rfl⟩) hS (fun _ h => h) (fun _ _ _ _ _ h => h.elim) (fun v H locs hp hz9 hk9 hS => ?_)
  obtain ⟨rfl, hH9⟩ := hp
  obtain rfl := hH9.symm
  refine W.eq (g2 := F0 m 4 ls [.int (z2 (X 5 0))]) rfl ?_
  refine lv_istore_n (lv' := [(2, .int (z2 (X 5 0))), (0, .ref bx), (1, .int (z2 (((n : Nat) : Int))))]) hx hb dL_faulty_4 rfl hl (by decide) rfl (fun ls hl => ?_)
  refine b_iconst hx hb dL_faulty_5 ?_
  refine lv_istore_n (lv' := [(3, .int (z2 (0))), (2, .int (z2 (X 5 0))), (0, .ref bx), (1, .int (z2 (((n : Nat) : Int))))]) hx hb dL_faulty_6 rfl hl (by decide) rfl (fun ls hl => ?_)
  refine b_iconst hx hb dL_faulty_7 ?_
  refine lv_istore (lv' := [(4, .int (z2 (0))), (3, .int (z2 (0))), (2, .int (z2 (X 5 0))), (0, .ref bx), (1, .int (z2 (((n : Nat) : Int))))]) hx hb dL_faulty_8 hl (by decide) rfl (fun ls hl => ?_)
  refine lv_aload_n hx hb dL_faulty_10 rfl (lv_at hl 3 rfl) ?_
  refine lv_iload_n hx hb dL_faulty_11 rfl (lv_at hl 4 rfl) ?_
  refine g_run (vx_runV (As := [.int (z2 (((n : Nat) : Int)))]) (rest := []) ⟨hx, hb, hml, hown, hts⟩ (k_isSound l D ks bx ml X _ hP hV hst (((n : Nat) : Int)) ⟨by omega, by omega⟩) (cwV 1 hts gL_faulty_X4_isSound rfl rfl rfl (by decide +kernel) ⟨Nat.le_of_ble_eq_true rfl, Nat.le_of_ble_eq_true rfl⟩) (g_preV (r := (RX4, TX4, 7)) hG hS rx_ge hP.1 rfl) rfl rfl hl.1 rfl (lv_room (Nat.le_of_ble_eq_true rfl)) dL_faulty_12 ⟨Nat.le_of_ble_eq_true rfl, Nat.le_of_ble_eq_true rfl⟩) hS (fun _ h => h) (fun E ce q9 H1 locs1 hp hz9 hk9 hS hce hcv hcl => by obtain ⟨-, e9⟩ := hp; exfalso; have h9 := e9.2; omega) (fun v H locs hp hz9 hk9 hS => ?_)
  obtain ⟨n9, ⟨hn9, hn8⟩, rfl, hH9⟩ := hp
  obtain rfl := hH9.symm
  obtain rfl : n = n9 := by omega
  refine W.eq (g2 := F0 m 15 ls [.int (z2 (X 14 n))]) rfl ?_
  refine lv_istore (lv' := [(5, .int (z2 (X 14 n))), (4, .int (z2 (0))), (3, .int (z2 (0))), (2, .int (z2 (X 5 0))), (0, .ref bx), (1, .int (z2 (((n : Nat) : Int))))]) hx hb dL_faulty_15 hl (by decide) rfl (fun ls hl => ?_)
  refine lv_iload_n hx hb dL_faulty_17 rfl (lv_at hl 5 rfl) ?_
  refine b_iconst hx hb dL_faulty_18 ?_
  refine b_idiv hx hb ⟨⟨by omega, by omega⟩, by omega, by omega⟩ dL_faulty_19 ?_
  refine b_iconst hx hb dL_faulty_20 ?_
  refine b_imul hx hb dL_faulty_21 ?_
  refine b_top (v := ((4 * (n / 4) + 0 : Nat) : Int)) (congrArg z2 (by omega)) ?_
  refine lv_istore (lv' := [(6, .int (z2 (((4 * (n / 4) + 0 : Nat) : Int)))), (5, .int (z2 (X 14 n))), (4, .int (z2 (0))), (3, .int (z2 (0))), (2, .int (z2 (X 5 0))), (0, .ref bx), (1, .int (z2 (((n : Nat) : Int))))]) hx hb dL_faulty_22 hl (by decide) rfl (fun ls hl => ?_)
  refine W.widen (k := 1) (n := 6) (by show 0 + 0 + 1 ≤ 1; omega) (by show 0 + 0 + 6 ≤ 6; omega) ?_
  refine lp_k (4) (fun j H locs ls => PX D ks bx ml X H ∧ va_S (AR (RX bx) s.heap.size) s.heap H locs ∧ lv_has ls 8 [(6, .int (z2 (((4 * (n / 4) + j : Nat) : Int)))), (5, .int (z2 (X 14 n))), (4, .int (z2 (0))), (3, .int (z2 (SB X n j))), (2, .int (z2 (X 5 0))), (1, .int (z2 (((n : Nat) : Int)))), (0, .ref bx)]) 1 6 1 6 (fun j H locs ls hkN hI ih => ?_) _ _ _ ⟨hP, hS, lv_sub hl [0, 1, 2, 3, 4, 6, 5] rfl⟩
  obtain ⟨hP, hS, hl⟩ := hI
  have bj := SB_b X n j
  have bc := cn_b X (4 * (n / 4) + j)
  have brs := rs_b X (4 * (n / 4) + j)
  refine lv_iload hx hb dL_faulty_24 (lv_at hl 0 rfl) ?_
  refine lv_iload_n hx hb dL_faulty_26 rfl (lv_at hl 5 rfl) ?_
  refine b_iconst hx hb dL_faulty_27 ?_
  refine b_idiv hx hb ⟨⟨by omega, by omega⟩, by omega, by omega⟩ dL_faulty_28 ?_
  refine b_iconst hx hb dL_faulty_29 ?_
  refine b_imul hx hb dL_faulty_30 ?_
  refine b_iconst hx hb dL_faulty_31 ?_
  refine b_iadd hx hb dL_faulty_32 ?_
  refine b_icmp_ge (tgt := 64) hx hb dL_faulty_33 (by decide) ⟨⟨by omega, by omega⟩, ⟨by omega, by omega⟩⟩ (fun c_33 => ?_) (fun c_33 => ?_)
  · skip
    refine W.widen (k := 8) (n := 48) (by show (1 + j * 1) ≤ 8; omega) (by show (6 + j * 6) ≤ 48; omega) ?_
    obtain rfl : j = 4 := by omega
    have hl : lv_has ls 8 [(5, .int (z2 (X 14 n))), (4, .int (z2 (0))), (3, .int (z2 (SB X n 4))), (2, .int (z2 (X 5 0))), (1, .int (z2 (((n : Nat) : Int)))), (0, .ref bx)] := lv_sub hl [1, 2, 3, 4, 5, 6] rfl
    have bSX := SB_b X n 4
    refine lv_aload_n hx hb dL_faulty_64 rfl (lv_at hl 5 rfl) ?_
    refine lv_iload_n hx hb dL_faulty_65 rfl (lv_at hl 4 rfl) ?_
    refine g_run (vx_runSX (As := [.ref bx, .int (z2 (((n : Nat) : Int)))]) (rest := []) ⟨hx, hb, hml, hown, hts⟩ (w_fault l D ks bx ml X _ hP hV hst n hn) (vx_cwSW 2 hts gL_faulty_L_fault rfl rfl rfl (by decide +kernel) ⟨Nat.le_of_ble_eq_true rfl, Nat.le_of_ble_eq_true rfl⟩) (g_preS hG hS rx_ge) rfl rfl hl.1 rfl (lv_room (Nat.le_of_ble_eq_true rfl)) dL_faulty_66 ⟨Nat.le_of_ble_eq_true rfl, Nat.le_of_ble_eq_true rfl⟩) hS (fun _ h => h) (fun _ _ _ _ _ h => h.elim) (fun v H locs hp hz9 hk9 hS => ?_)
    rcases hp with ⟨p1, rfl, hP9⟩ | ⟨p1, p2, rfl, hP9⟩
    · have hP := hP9
      refine W.eq (g2 := F0 m 69 ls [.int (z2 ((-3)))]) rfl ?_
      refine lv_istore (lv' := [(6, .int (z2 ((-3)))), (5, .int (z2 (X 14 n))), (4, .int (z2 (0))), (3, .int (z2 (SB X n 4))), (2, .int (z2 (X 5 0))), (1, .int (z2 (((n : Nat) : Int)))), (0, .ref bx)]) hx hb dL_faulty_69 hl (by decide) rfl (fun ls hl => ?_)
      refine lv_iload_n hx hb dL_faulty_71 rfl (lv_at hl 5 rfl) ?_
      refine b_iconst hx hb dL_faulty_72 ?_
      refine b_idiv hx hb ⟨⟨by omega, by omega⟩, by omega, by omega⟩ dL_faulty_73 ?_
      refine b_iconst hx hb dL_faulty_74 ?_
      refine b_imul hx hb dL_faulty_75 ?_
      refine b_top (v := ((4 * (n / 4) + 0 : Nat) : Int)) (congrArg z2 (by omega)) ?_
      refine lv_istore (lv' := [(7, .int (z2 (((4 * (n / 4) + 0 : Nat) : Int)))), (6, .int (z2 ((-3)))), (5, .int (z2 (X 14 n))), (4, .int (z2 (0))), (3, .int (z2 (SB X n 4))), (2, .int (z2 (X 5 0))), (1, .int (z2 (((n : Nat) : Int)))), (0, .ref bx)]) hx hb dL_faulty_76 hl (by decide) rfl (fun ls hl => ?_)
      refine W.widen (k := 12) (n := 72) (by show 8 + 3 ≤ 12; omega) (by show 48 + 18 ≤ 72; omega) ?_
      refine lp_k (4) (fun i H locs ls => PX D ks bx ml X H ∧ va_S (AR (RX bx) s.heap.size) s.heap H locs ∧ lv_has ls 8 [(7, .int (z2 (((4 * (n / 4) + i : Nat) : Int)))), (6, .int (z2 ((-3)))), (5, .int (z2 (X 14 n))), (4, .int (z2 (SB X n i))), (3, .int (z2 (SB X n 4))), (2, .int (z2 (X 5 0))), (1, .int (z2 (((n : Nat) : Int)))), (0, .ref bx)]) 12 72 1 6 (fun i H locs ls hkN hI ih => ?_) _ _ _ ⟨hP, hS, lv_sub hl [0, 1, 2, 3, 4, 5, 6, 7] rfl⟩
      obtain ⟨hP, hS, hl⟩ := hI
      have bi := SB_b X n i
      have bc := cn_b X (4 * (n / 4) + i)
      have brs := rs_b X (4 * (n / 4) + i)
      refine lv_iload hx hb dL_faulty_78 (lv_at hl 0 rfl) ?_
      refine lv_iload_n hx hb dL_faulty_80 rfl (lv_at hl 6 rfl) ?_
      refine b_iconst hx hb dL_faulty_81 ?_
      refine b_idiv hx hb ⟨⟨by omega, by omega⟩, by omega, by omega⟩ dL_faulty_82 ?_
      refine b_iconst hx hb dL_faulty_83 ?_
      refine b_imul hx hb dL_faulty_84 ?_
      refine b_iconst hx hb dL_faulty_85 ?_
      refine b_iadd hx hb dL_faulty_86 ?_
      refine b_icmp_ge (tgt := 120) hx hb dL_faulty_87 (by decide) ⟨⟨by omega, by omega⟩, ⟨by omega, by omega⟩⟩ (fun c_87 => ?_) (fun c_87 => ?_)
      · skip
        refine W.widen (k := 17) (n := 102) (by show (12 + i * 1) ≤ 17; omega) (by show (72 + i * 6) ≤ 102; omega) ?_
        obtain rfl : i = 4 := by omega
        have hl : lv_has ls 8 [(6, .int (z2 ((-3)))), (5, .int (z2 (X 14 n))), (4, .int (z2 (SB X n 4))), (3, .int (z2 (SB X n 4))), (2, .int (z2 (X 5 0))), (1, .int (z2 (((n : Nat) : Int)))), (0, .ref bx)] := lv_sub hl [1, 2, 3, 4, 5, 6, 7] rfl
        refine lv_iload hx hb dL_faulty_120 (lv_at hl 0 rfl) ?_
        refine b_bipush hx hb dL_faulty_122 (by decide +kernel) ?_
        refine b_icmp_ne (tgt := 154) hx hb dL_faulty_124 (by decide) ⟨⟨by omega, by omega⟩, ⟨by omega, by omega⟩⟩ (fun c => absurd c (by omega)) (fun _ => ?_)
        refine lv_aload_n hx hb dL_faulty_127 rfl (lv_at hl 6 rfl) ?_
        refine g_run (vx_runV (As := []) (rest := []) ⟨hx, hb, hml, hown, hts⟩ (k_faults l D ks bx ml X _ hP hV) (cwV 0 hts gL_faulty_X4_faults rfl rfl rfl (by decide +kernel) ⟨Nat.le_of_ble_eq_true rfl, Nat.le_of_ble_eq_true rfl⟩) (g_preV (r := (RX4, TX4, 7)) hG hS rx_ge hP.1 rfl) rfl rfl hl.1 rfl (lv_room (Nat.le_of_ble_eq_true rfl)) dL_faulty_128 ⟨Nat.le_of_ble_eq_true rfl, Nat.le_of_ble_eq_true rfl⟩) hS (fun _ h => h) (fun _ _ _ _ _ h => h.elim) (fun v H locs hp hz9 hk9 hS => ?_)
        obtain ⟨rfl, hH9⟩ := hp
        obtain rfl := hH9.symm
        refine W.eq (g2 := F0 m 131 ls [.int (z2 (X 5 0))]) rfl ?_
        refine lv_iload_n hx hb dL_faulty_131 rfl (lv_at hl 4 rfl) ?_
        refine b_icmp_ne (tgt := 150) hx hb dL_faulty_132 (by decide) ⟨⟨by omega, by omega⟩, ⟨by omega, by omega⟩⟩ (fun c => absurd c (by omega)) (fun _ => ?_)
        refine lv_iload hx hb dL_faulty_135 (lv_at hl 1 rfl) ?_
        refine b_if_eq (tgt := 146) hx hb dL_faulty_137 (by decide) ⟨by omega, by omega⟩ (fun c_137 => ?_) (fun c_137 => ?_)
        · skip
          refine b_iconst hx hb dL_faulty_146 ?_
          refine lv_goto (tgt := 208) hx hb dL_faulty_147 (by decide) ?_
          exact g_zret hx hb hr hlocks hS (by decide +kernel) ⟨Nat.le_of_ble_eq_true rfl, Nat.le_of_ble_eq_true rfl⟩ (⟨rfl, X, hL, rfl, hP⟩) dL_faulty_208
        · skip
          refine lv_iload_n hx hb dL_faulty_140 rfl (lv_at hl 4 rfl) ?_
          refine b_bipush hx hb dL_faulty_141 (by decide +kernel) ?_
          refine b_icmp_ne (tgt := 150) hx hb dL_faulty_143 (by decide) ⟨⟨by omega, by omega⟩, ⟨by omega, by omega⟩⟩ (fun c => absurd c (by omega)) (fun _ => ?_)
          refine b_iconst hx hb dL_faulty_146 ?_
          refine lv_goto (tgt := 208) hx hb dL_faulty_147 (by decide) ?_
          exact g_zret hx hb hr hlocks hS (by decide +kernel) ⟨Nat.le_of_ble_eq_true rfl, Nat.le_of_ble_eq_true rfl⟩ (⟨rfl, X, hL, rfl, hP⟩) dL_faulty_208
      · skip
        refine lv_iload hx hb dL_faulty_90 (lv_at hl 3 rfl) ?_
        refine lv_iload hx hb dL_faulty_92 (lv_at hl 0 rfl) ?_
        refine lv_iload_n hx hb dL_faulty_94 rfl (lv_at hl 6 rfl) ?_
        refine b_icmp_ne (tgt := 102) hx hb dL_faulty_95 (by decide) ⟨⟨by omega, by omega⟩, ⟨by omega, by omega⟩⟩ (fun c_95 => ?_) (fun c_95 => ?_)
        · skip
          refine lv_aload_n hx hb dL_faulty_102 rfl (lv_at hl 7 rfl) ?_
          refine lv_iload hx hb dL_faulty_103 (lv_at hl 0 rfl) ?_
          refine g_run (vx_runV (As := [.int (z2 (((4 * (n / 4) + i : Nat) : Int)))]) (rest := [.int (z2 (SB X n i))]) ⟨hx, hb, hml, hown, hts⟩ (k_ringing l D ks bx ml X _ hP hV hst (((4 * (n / 4) + i : Nat) : Int)) ⟨by omega, by omega⟩) (cwV 1 hts gL_faulty_X4_ringing rfl rfl rfl (by decide +kernel) ⟨Nat.le_of_ble_eq_true rfl, Nat.le_of_ble_eq_true rfl⟩) (g_preV (r := (RX4, TX4, 7)) hG hS rx_ge hP.1 rfl) rfl rfl hl.1 rfl (lv_room (Nat.le_of_ble_eq_true rfl)) dL_faulty_105 ⟨by show (12 + i * 1) + 1 ≤ 20; omega, by show (72 + i * 6) + 6 ≤ 120; omega⟩) hS (fun _ h => h) (fun E ce q9 H1 locs1 hp hz9 hk9 hS hce hcv hcl => by obtain ⟨-, e9⟩ := hp; exfalso; have h9 := e9.2; omega) (fun v H locs hp hz9 hk9 hS => ?_)
          obtain ⟨n9, ⟨hn9, hn8⟩, rfl, hH9⟩ := hp
          obtain rfl := hH9.symm
          obtain rfl : n9 = (4 * (n / 4) + i) := by omega
          refine W.eq (g2 := F0 m 108 ls [.int (z2 (rsS X (4 * (n / 4) + i))), .int (z2 (SB X n i))]) rfl ?_
          obtain ⟨r, hr0, hr8, -, -, -, hcn⟩ := rs_nat X (4 * (n / 4) + i)
          rw [hr0]
          refine g_run (vx_runS (As := [.int (z2 (((r : Nat) : Int)))]) (rest := [.int (z2 (SB X n i))]) ⟨hx, hb, hml, hown, hts⟩ (w_bits l D ks bx _ r hr8) (cwS 1 hts gL_faulty_L_bits rfl rfl rfl (by decide +kernel) ⟨Nat.le_of_ble_eq_true rfl, Nat.le_of_ble_eq_true rfl⟩) (g_preS hG hS rx_ge) rfl rfl hl.1 rfl (lv_room (Nat.le_of_ble_eq_true rfl)) dL_faulty_108 ⟨by show (12 + i * 1) + 1 + 0 ≤ 20; omega, by show (72 + i * 6) + 6 + 0 ≤ 120; omega⟩) hS (fun _ h => h) (fun _ _ _ _ _ h => h.elim) (fun v H locs hp hz9 hk9 hS => ?_)
          obtain ⟨rfl, hH9⟩ := hp
          obtain rfl := hH9.symm
          rw [show (((r % 2 : Nat) : Int) + ((r / 2 % 2 : Nat) : Int) + ((r / 4 % 2 : Nat) : Int)) = cn X (4 * (n / 4) + i) by omega]
          refine W.eq (g2 := F0 m 111 ls [.int (z2 (cn X (4 * (n / 4) + i))), .int (z2 (SB X n i))]) rfl ?_
          refine b_iadd hx hb dL_faulty_111 ?_
          refine lv_istore (lv' := [(4, .int (z2 ((SB X n i) + (cn X (4 * (n / 4) + i))))), (7, .int (z2 (((4 * (n / 4) + i : Nat) : Int)))), (6, .int (z2 ((-3)))), (5, .int (z2 (X 14 n))), (3, .int (z2 (SB X n 4))), (2, .int (z2 (X 5 0))), (1, .int (z2 (((n : Nat) : Int)))), (0, .ref bx)]) hx hb dL_faulty_112 hl (by decide) rfl (fun ls hl => ?_)
          refine b_iinc (lv' := [(7, .int (z2 (((4 * (n / 4) + i : Nat) : Int) + 1))), (4, .int (z2 ((SB X n i) + (cn X (4 * (n / 4) + i))))), (6, .int (z2 ((-3)))), (5, .int (z2 (X 14 n))), (3, .int (z2 (SB X n 4))), (2, .int (z2 (X 5 0))), (1, .int (z2 (((n : Nat) : Int)))), (0, .ref bx)]) hx hb dL_faulty_114 hl (k := 1) rfl (by decide) rfl (fun ls hl => ?_)
          refine lv_goto (tgt := 78) hx hb dL_faulty_117 (by decide) ?_
          refine W.widen (k := 12 + i * 1 + 1) (n := 72 + i * 6 + 6) (by show (12 + i * 1) + 1 + 0 ≤ 12 + i * 1 + 1; omega) (by show (72 + i * 6) + 6 + 0 ≤ 72 + i * 6 + 6; omega) ?_
          exact ih (by omega) _ _ _ ⟨hP, hS, by rw [show SB X n (i + 1) = SB X n i + cn X (4 * (n / 4) + i) from by rw [SB, if_neg (by omega)]]; exact lv_sub hl [0, 2, 3, 1, 4, 5, 6, 7] rfl⟩
        · skip
          refine b_iconst hx hb dL_faulty_98 ?_
          refine lv_goto (tgt := 111) hx hb dL_faulty_99 (by decide) ?_
          refine b_iadd hx hb dL_faulty_111 ?_
          refine lv_istore (lv' := [(4, .int (z2 ((SB X n i) + 0))), (7, .int (z2 (((4 * (n / 4) + i : Nat) : Int)))), (6, .int (z2 ((-3)))), (5, .int (z2 (X 14 n))), (3, .int (z2 (SB X n 4))), (2, .int (z2 (X 5 0))), (1, .int (z2 (((n : Nat) : Int)))), (0, .ref bx)]) hx hb dL_faulty_112 hl (by decide) rfl (fun ls hl => ?_)
          refine b_iinc (lv' := [(7, .int (z2 (((4 * (n / 4) + i : Nat) : Int) + 1))), (4, .int (z2 ((SB X n i) + 0))), (6, .int (z2 ((-3)))), (5, .int (z2 (X 14 n))), (3, .int (z2 (SB X n 4))), (2, .int (z2 (X 5 0))), (1, .int (z2 (((n : Nat) : Int)))), (0, .ref bx)]) hx hb dL_faulty_114 hl (k := 1) rfl (by decide) rfl (fun ls hl => ?_)
          refine lv_goto (tgt := 78) hx hb dL_faulty_117 (by decide) ?_
          refine W.widen (k := 12 + i * 1 + 1) (n := 72 + i * 6 + 6) (by show (12 + i * 1) ≤ 12 + i * 1 + 1; omega) (by show (72 + i * 6) ≤ 72 + i * 6 + 6; omega) ?_
          exact ih (by omega) _ _ _ ⟨hP, hS, by rw [show SB X n (i + 1) = SB X n i + 0 from by rw [SB, if_pos (by omega)]]; exact lv_sub hl [0, 2, 3, 1, 4, 5, 6, 7] rfl⟩
    · obtain ⟨r1, r2, r3, r4⟩ := fr_facts (X := X) (n := n) (u := ((n : Nat) : Int)) hV
      have r5 := fr_sum X hn ((n : Nat) : Int)
      have hL1 := fr_lv hL (u := ((n : Nat) : Int)) rfl hn p2
      obtain ⟨Y, hYe⟩ : ∃ Y, Y = faR X n ((n : Nat) : Int) := ⟨_, rfl⟩
      rw [← hYe] at hP9 r1 r2 r3 r4 r5 hL1
      have hY4 : Y 4 0 = X 4 0 := by rw [hYe]; exact fr_4 X n _
      clear hYe
      have hP := hP9
      have bN := faN_b X n 8
      have bSY := SB_b Y n 4
      refine W.eq (g2 := F0 m 69 ls [.int (z2 (faN X n 8))]) rfl ?_
      refine lv_istore (lv' := [(6, .int (z2 (faN X n 8))), (5, .int (z2 (X 14 n))), (4, .int (z2 (0))), (3, .int (z2 (SB X n 4))), (2, .int (z2 (X 5 0))), (1, .int (z2 (((n : Nat) : Int)))), (0, .ref bx)]) hx hb dL_faulty_69 hl (by decide) rfl (fun ls hl => ?_)
      refine lv_iload_n hx hb dL_faulty_71 rfl (lv_at hl 5 rfl) ?_
      refine b_iconst hx hb dL_faulty_72 ?_
      refine b_idiv hx hb ⟨⟨by omega, by omega⟩, by omega, by omega⟩ dL_faulty_73 ?_
      refine b_iconst hx hb dL_faulty_74 ?_
      refine b_imul hx hb dL_faulty_75 ?_
      refine b_top (v := ((4 * (n / 4) + 0 : Nat) : Int)) (congrArg z2 (by omega)) ?_
      refine lv_istore (lv' := [(7, .int (z2 (((4 * (n / 4) + 0 : Nat) : Int)))), (6, .int (z2 (faN X n 8))), (5, .int (z2 (X 14 n))), (4, .int (z2 (0))), (3, .int (z2 (SB X n 4))), (2, .int (z2 (X 5 0))), (1, .int (z2 (((n : Nat) : Int)))), (0, .ref bx)]) hx hb dL_faulty_76 hl (by decide) rfl (fun ls hl => ?_)
      refine W.widen (k := 12) (n := 72) (by show 8 + 3 ≤ 12; omega) (by show 48 + 18 ≤ 72; omega) ?_
      refine lp_k (4) (fun i H locs ls => PX D ks bx ml Y H ∧ va_S (AR (RX bx) s.heap.size) s.heap H locs ∧ lv_has ls 8 [(7, .int (z2 (((4 * (n / 4) + i : Nat) : Int)))), (6, .int (z2 (faN X n 8))), (5, .int (z2 (X 14 n))), (4, .int (z2 (SB Y n i))), (3, .int (z2 (SB X n 4))), (2, .int (z2 (X 5 0))), (1, .int (z2 (((n : Nat) : Int)))), (0, .ref bx)]) 12 72 1 6 (fun i H locs ls hkN hI ih => ?_) _ _ _ ⟨hP, hS, lv_sub hl [0, 1, 2, 3, 4, 5, 6, 7] rfl⟩
      obtain ⟨hP, hS, hl⟩ := hI
      have bi := SB_b Y n i
      have bc := cn_b Y (4 * (n / 4) + i)
      have brs := rs_b Y (4 * (n / 4) + i)
      refine lv_iload hx hb dL_faulty_78 (lv_at hl 0 rfl) ?_
      refine lv_iload_n hx hb dL_faulty_80 rfl (lv_at hl 6 rfl) ?_
      refine b_iconst hx hb dL_faulty_81 ?_
      refine b_idiv hx hb ⟨⟨by omega, by omega⟩, by omega, by omega⟩ dL_faulty_82 ?_
      refine b_iconst hx hb dL_faulty_83 ?_
      refine b_imul hx hb dL_faulty_84 ?_
      refine b_iconst hx hb dL_faulty_85 ?_
      refine b_iadd hx hb dL_faulty_86 ?_
      refine b_icmp_ge (tgt := 120) hx hb dL_faulty_87 (by decide) ⟨⟨by omega, by omega⟩, ⟨by omega, by omega⟩⟩ (fun c_87 => ?_) (fun c_87 => ?_)
      · skip
        refine W.widen (k := 17) (n := 102) (by show (12 + i * 1) ≤ 17; omega) (by show (72 + i * 6) ≤ 102; omega) ?_
        obtain rfl : i = 4 := by omega
        have hl : lv_has ls 8 [(6, .int (z2 (faN X n 8))), (5, .int (z2 (X 14 n))), (4, .int (z2 (SB Y n 4))), (3, .int (z2 (SB X n 4))), (2, .int (z2 (X 5 0))), (1, .int (z2 (((n : Nat) : Int)))), (0, .ref bx)] := lv_sub hl [1, 2, 3, 4, 5, 6, 7] rfl
        refine lv_iload hx hb dL_faulty_120 (lv_at hl 0 rfl) ?_
        refine b_bipush hx hb dL_faulty_122 (by decide +kernel) ?_
        refine b_icmp_ne (tgt := 154) hx hb dL_faulty_124 (by decide) ⟨⟨by omega, by omega⟩, ⟨by omega, by omega⟩⟩ (fun _ => ?_) (fun c => absurd c (by omega))
        refine lv_iload hx hb dL_faulty_154 (lv_at hl 1 rfl) ?_
        refine b_if_eq (tgt := 207) hx hb dL_faulty_156 (by decide) ⟨by omega, by omega⟩ (fun c => absurd c (by omega)) (fun _ => ?_)
        refine lv_iload hx hb dL_faulty_159 (lv_at hl 2 rfl) ?_
        refine lv_iload_n hx hb dL_faulty_161 rfl (lv_at hl 3 rfl) ?_
        refine b_isub hx hb dL_faulty_162 ?_
        refine lv_iload hx hb dL_faulty_163 (lv_at hl 0 rfl) ?_
        refine b_icmp_ne (tgt := 207) hx hb dL_faulty_165 (by decide) ⟨⟨by omega, by omega⟩, ⟨by omega, by omega⟩⟩ (fun c => absurd c (by omega)) (fun _ => ?_)
        refine lv_aload_n hx hb dL_faulty_168 rfl (lv_at hl 6 rfl) ?_
        refine lv_iload_n hx hb dL_faulty_169 rfl (lv_at hl 5 rfl) ?_
        refine g_run (vx_runV (As := [.int (z2 (((n : Nat) : Int)))]) (rest := []) ⟨hx, hb, hml, hown, hts⟩ (k_isSound l D ks bx ml Y _ hP hL1.1 hst (((n : Nat) : Int)) ⟨by omega, by omega⟩) (cwV 1 hts gL_faulty_X4_isSound rfl rfl rfl (by decide +kernel) ⟨Nat.le_of_ble_eq_true rfl, Nat.le_of_ble_eq_true rfl⟩) (g_preV (r := (RX4, TX4, 7)) hG hS rx_ge hP.1 rfl) rfl rfl hl.1 rfl (lv_room (Nat.le_of_ble_eq_true rfl)) dL_faulty_170 ⟨Nat.le_of_ble_eq_true rfl, Nat.le_of_ble_eq_true rfl⟩) hS (fun _ h => h) (fun E ce q9 H1 locs1 hp hz9 hk9 hS hce hcv hcl => by obtain ⟨-, e9⟩ := hp; exfalso; have h9 := e9.2; omega) (fun v H locs hp hz9 hk9 hS => ?_)
        obtain ⟨n9, ⟨hn9, hn8⟩, rfl, hH9⟩ := hp
        obtain rfl := hH9.symm
        obtain rfl : n = n9 := by omega
        refine W.eq (g2 := F0 m 173 ls [.int (z2 (Y 14 n))]) rfl ?_
        refine b_if_ne (tgt := 207) hx hb dL_faulty_173 (by decide) ⟨by omega, by omega⟩ (fun c => absurd c (by omega)) (fun _ => ?_)
        refine lv_aload_n hx hb dL_faulty_176 rfl (lv_at hl 6 rfl) ?_
        refine g_run (vx_runV (As := []) (rest := []) ⟨hx, hb, hml, hown, hts⟩ (k_faults l D ks bx ml Y _ hP hL1.1) (cwV 0 hts gL_faulty_X4_faults rfl rfl rfl (by decide +kernel) ⟨Nat.le_of_ble_eq_true rfl, Nat.le_of_ble_eq_true rfl⟩) (g_preV (r := (RX4, TX4, 7)) hG hS rx_ge hP.1 rfl) rfl rfl hl.1 rfl (lv_room (Nat.le_of_ble_eq_true rfl)) dL_faulty_177 ⟨Nat.le_of_ble_eq_true rfl, Nat.le_of_ble_eq_true rfl⟩) hS (fun _ h => h) (fun _ _ _ _ _ h => h.elim) (fun v H locs hp hz9 hk9 hS => ?_)
        obtain ⟨rfl, hH9⟩ := hp
        obtain rfl := hH9.symm
        refine W.eq (g2 := F0 m 180 ls [.int (z2 (Y 5 0))]) rfl ?_
        refine lv_iload_n hx hb dL_faulty_180 rfl (lv_at hl 4 rfl) ?_
        refine b_iconst hx hb dL_faulty_181 ?_
        refine b_iadd hx hb dL_faulty_182 ?_
        refine b_icmp_ne (tgt := 207) hx hb dL_faulty_183 (by decide) ⟨⟨by omega, by omega⟩, ⟨by omega, by omega⟩⟩ (fun c => absurd c (by omega)) (fun _ => ?_)
        refine lv_aload_n hx hb dL_faulty_186 rfl (lv_at hl 6 rfl) ?_
        refine lv_iload_n hx hb dL_faulty_187 rfl (lv_at hl 4 rfl) ?_
        refine g_run (vx_runV (As := [.int (z2 (X 5 0))]) (rest := []) ⟨hx, hb, hml, hown, hts⟩ (k_faultAt l D ks bx ml Y _ hP hL1.1 hst (X 5 0) ⟨by omega, by omega⟩) (cwV 1 hts gL_faulty_X4_faultAt rfl rfl rfl (by decide +kernel) ⟨Nat.le_of_ble_eq_true rfl, Nat.le_of_ble_eq_true rfl⟩) (g_preV (r := (RX4, TX4, 7)) hG hS rx_ge hP.1 rfl) rfl rfl hl.1 rfl (lv_room (Nat.le_of_ble_eq_true rfl)) dL_faulty_188 ⟨Nat.le_of_ble_eq_true rfl, Nat.le_of_ble_eq_true rfl⟩) hS (fun _ h => h) (fun E ce q9 H1 locs1 hp hz9 hk9 hS hce hcv hcl => by obtain ⟨-, e9⟩ := hp; exfalso; have h9 := e9.2; omega) (fun v H locs hp hz9 hk9 hS => ?_)
        obtain ⟨-, rfl, hH9⟩ := hp
        obtain rfl := hH9.symm
        refine W.eq (g2 := F0 m 191 ls [.int (z2 (Y 7 (X 5 0).toNat))]) rfl ?_
        refine b_bipush hx hb dL_faulty_191 (by decide +kernel) ?_
        refine lv_aload_n hx hb dL_faulty_193 rfl (lv_at hl 6 rfl) ?_
        refine g_run (vx_runV (As := []) (rest := [.int (z2 (10)), .int (z2 (Y 7 (X 5 0).toNat))]) ⟨hx, hb, hml, hown, hts⟩ (k_time l D ks bx ml Y _ hP hL1.1) (cwV 0 hts gL_faulty_X4_time rfl rfl rfl (by decide +kernel) ⟨Nat.le_of_ble_eq_true rfl, Nat.le_of_ble_eq_true rfl⟩) (g_preV (r := (RX4, TX4, 7)) hG hS rx_ge hP.1 rfl) rfl rfl hl.1 rfl (lv_room (Nat.le_of_ble_eq_true rfl)) dL_faulty_194 ⟨Nat.le_of_ble_eq_true rfl, Nat.le_of_ble_eq_true rfl⟩) hS (fun _ h => h) (fun _ _ _ _ _ h => h.elim) (fun v H locs hp hz9 hk9 hS => ?_)
        obtain ⟨rfl, hH9⟩ := hp
        obtain rfl := hH9.symm
        refine W.eq (g2 := F0 m 197 ls [.int (z2 (Y 6 0)), .int (z2 (10)), .int (z2 (Y 7 (X 5 0).toNat))]) rfl ?_
        refine b_imul hx hb dL_faulty_197 ?_
        refine lv_iload_n hx hb dL_faulty_198 rfl (lv_at hl 5 rfl) ?_
        refine b_iadd hx hb dL_faulty_199 ?_
        refine b_icmp_ne (tgt := 207) hx hb dL_faulty_200 (by decide) ⟨⟨by omega, by omega⟩, ⟨by omega, by omega⟩⟩ (fun c => absurd c (by omega)) (fun _ => ?_)
        refine b_iconst hx hb dL_faulty_203 ?_
        refine lv_goto (tgt := 208) hx hb dL_faulty_204 (by decide) ?_
        exact g_zret hx hb hr hlocks hS (by decide +kernel) ⟨Nat.le_of_ble_eq_true rfl, Nat.le_of_ble_eq_true rfl⟩ (⟨rfl, Y, hL1, hY4, hP⟩) dL_faulty_208
      · skip
        refine lv_iload hx hb dL_faulty_90 (lv_at hl 3 rfl) ?_
        refine lv_iload hx hb dL_faulty_92 (lv_at hl 0 rfl) ?_
        refine lv_iload_n hx hb dL_faulty_94 rfl (lv_at hl 6 rfl) ?_
        refine b_icmp_ne (tgt := 102) hx hb dL_faulty_95 (by decide) ⟨⟨by omega, by omega⟩, ⟨by omega, by omega⟩⟩ (fun c_95 => ?_) (fun c_95 => ?_)
        · skip
          refine lv_aload_n hx hb dL_faulty_102 rfl (lv_at hl 7 rfl) ?_
          refine lv_iload hx hb dL_faulty_103 (lv_at hl 0 rfl) ?_
          refine g_run (vx_runV (As := [.int (z2 (((4 * (n / 4) + i : Nat) : Int)))]) (rest := [.int (z2 (SB Y n i))]) ⟨hx, hb, hml, hown, hts⟩ (k_ringing l D ks bx ml Y _ hP hL1.1 hst (((4 * (n / 4) + i : Nat) : Int)) ⟨by omega, by omega⟩) (cwV 1 hts gL_faulty_X4_ringing rfl rfl rfl (by decide +kernel) ⟨Nat.le_of_ble_eq_true rfl, Nat.le_of_ble_eq_true rfl⟩) (g_preV (r := (RX4, TX4, 7)) hG hS rx_ge hP.1 rfl) rfl rfl hl.1 rfl (lv_room (Nat.le_of_ble_eq_true rfl)) dL_faulty_105 ⟨by show (12 + i * 1) + 1 ≤ 20; omega, by show (72 + i * 6) + 6 ≤ 120; omega⟩) hS (fun _ h => h) (fun E ce q9 H1 locs1 hp hz9 hk9 hS hce hcv hcl => by obtain ⟨-, e9⟩ := hp; exfalso; have h9 := e9.2; omega) (fun v H locs hp hz9 hk9 hS => ?_)
          obtain ⟨n9, ⟨hn9, hn8⟩, rfl, hH9⟩ := hp
          obtain rfl := hH9.symm
          obtain rfl : n9 = (4 * (n / 4) + i) := by omega
          refine W.eq (g2 := F0 m 108 ls [.int (z2 (rsS Y (4 * (n / 4) + i))), .int (z2 (SB Y n i))]) rfl ?_
          obtain ⟨r, hr0, hr8, -, -, -, hcn⟩ := rs_nat Y (4 * (n / 4) + i)
          rw [hr0]
          refine g_run (vx_runS (As := [.int (z2 (((r : Nat) : Int)))]) (rest := [.int (z2 (SB Y n i))]) ⟨hx, hb, hml, hown, hts⟩ (w_bits l D ks bx _ r hr8) (cwS 1 hts gL_faulty_L_bits rfl rfl rfl (by decide +kernel) ⟨Nat.le_of_ble_eq_true rfl, Nat.le_of_ble_eq_true rfl⟩) (g_preS hG hS rx_ge) rfl rfl hl.1 rfl (lv_room (Nat.le_of_ble_eq_true rfl)) dL_faulty_108 ⟨by show (12 + i * 1) + 1 + 0 ≤ 20; omega, by show (72 + i * 6) + 6 + 0 ≤ 120; omega⟩) hS (fun _ h => h) (fun _ _ _ _ _ h => h.elim) (fun v H locs hp hz9 hk9 hS => ?_)
          obtain ⟨rfl, hH9⟩ := hp
          obtain rfl := hH9.symm
          rw [show (((r % 2 : Nat) : Int) + ((r / 2 % 2 : Nat) : Int) + ((r / 4 % 2 : Nat) : Int)) = cn Y (4 * (n / 4) + i) by omega]
          refine W.eq (g2 := F0 m 111 ls [.int (z2 (cn Y (4 * (n / 4) + i))), .int (z2 (SB Y n i))]) rfl ?_
          refine b_iadd hx hb dL_faulty_111 ?_
          refine lv_istore (lv' := [(4, .int (z2 ((SB Y n i) + (cn Y (4 * (n / 4) + i))))), (7, .int (z2 (((4 * (n / 4) + i : Nat) : Int)))), (6, .int (z2 (faN X n 8))), (5, .int (z2 (X 14 n))), (3, .int (z2 (SB X n 4))), (2, .int (z2 (X 5 0))), (1, .int (z2 (((n : Nat) : Int)))), (0, .ref bx)]) hx hb dL_faulty_112 hl (by decide) rfl (fun ls hl => ?_)
          refine b_iinc (lv' := [(7, .int (z2 (((4 * (n / 4) + i : Nat) : Int) + 1))), (4, .int (z2 ((SB Y n i) + (cn Y (4 * (n / 4) + i))))), (6, .int (z2 (faN X n 8))), (5, .int (z2 (X 14 n))), (3, .int (z2 (SB X n 4))), (2, .int (z2 (X 5 0))), (1, .int (z2 (((n : Nat) : Int)))), (0, .ref bx)]) hx hb dL_faulty_114 hl (k := 1) rfl (by decide) rfl (fun ls hl => ?_)
          refine lv_goto (tgt := 78) hx hb dL_faulty_117 (by decide) ?_
          refine W.widen (k := 12 + i * 1 + 1) (n := 72 + i * 6 + 6) (by show (12 + i * 1) + 1 + 0 ≤ 12 + i * 1 + 1; omega) (by show (72 + i * 6) + 6 + 0 ≤ 72 + i * 6 + 6; omega) ?_
          exact ih (by omega) _ _ _ ⟨hP, hS, by rw [show SB Y n (i + 1) = SB Y n i + cn Y (4 * (n / 4) + i) from by rw [SB, if_neg (by omega)]]; exact lv_sub hl [0, 2, 3, 1, 4, 5, 6, 7] rfl⟩
        · skip
          refine b_iconst hx hb dL_faulty_98 ?_
          refine lv_goto (tgt := 111) hx hb dL_faulty_99 (by decide) ?_
          refine b_iadd hx hb dL_faulty_111 ?_
          refine lv_istore (lv' := [(4, .int (z2 ((SB Y n i) + 0))), (7, .int (z2 (((4 * (n / 4) + i : Nat) : Int)))), (6, .int (z2 (faN X n 8))), (5, .int (z2 (X 14 n))), (3, .int (z2 (SB X n 4))), (2, .int (z2 (X 5 0))), (1, .int (z2 (((n : Nat) : Int)))), (0, .ref bx)]) hx hb dL_faulty_112 hl (by decide) rfl (fun ls hl => ?_)
          refine b_iinc (lv' := [(7, .int (z2 (((4 * (n / 4) + i : Nat) : Int) + 1))), (4, .int (z2 ((SB Y n i) + 0))), (6, .int (z2 (faN X n 8))), (5, .int (z2 (X 14 n))), (3, .int (z2 (SB X n 4))), (2, .int (z2 (X 5 0))), (1, .int (z2 (((n : Nat) : Int)))), (0, .ref bx)]) hx hb dL_faulty_114 hl (k := 1) rfl (by decide) rfl (fun ls hl => ?_)
          refine lv_goto (tgt := 78) hx hb dL_faulty_117 (by decide) ?_
          refine W.widen (k := 12 + i * 1 + 1) (n := 72 + i * 6 + 6) (by show (12 + i * 1) ≤ 12 + i * 1 + 1; omega) (by show (72 + i * 6) ≤ 72 + i * 6 + 6; omega) ?_
          exact ih (by omega) _ _ _ ⟨hP, hS, by rw [show SB Y n (i + 1) = SB Y n i + 0 from by rw [SB, if_pos (by omega)]]; exact lv_sub hl [0, 2, 3, 1, 4, 5, 6, 7] rfl⟩
  · skip
    refine lv_iload_n hx hb dL_faulty_36 rfl (lv_at hl 3 rfl) ?_
    refine lv_iload hx hb dL_faulty_37 (lv_at hl 0 rfl) ?_
    refine lv_iload_n hx hb dL_faulty_39 rfl (lv_at hl 5 rfl) ?_
    refine b_icmp_ne (tgt := 47) hx hb dL_faulty_40 (by decide) ⟨⟨by omega, by omega⟩, ⟨by omega, by omega⟩⟩ (fun c_40 => ?_) (fun c_40 => ?_)
    · skip
      refine lv_aload_n hx hb dL_faulty_47 rfl (lv_at hl 6 rfl) ?_
      refine lv_iload hx hb dL_faulty_48 (lv_at hl 0 rfl) ?_
      refine g_run (vx_runV (As := [.int (z2 (((4 * (n / 4) + j : Nat) : Int)))]) (rest := [.int (z2 (SB X n j))]) ⟨hx, hb, hml, hown, hts⟩ (k_ringing l D ks bx ml X _ hP hV hst (((4 * (n / 4) + j : Nat) : Int)) ⟨by omega, by omega⟩) (cwV 1 hts gL_faulty_X4_ringing rfl rfl rfl (by decide +kernel) ⟨Nat.le_of_ble_eq_true rfl, Nat.le_of_ble_eq_true rfl⟩) (g_preV (r := (RX4, TX4, 7)) hG hS rx_ge hP.1 rfl) rfl rfl hl.1 rfl (lv_room (Nat.le_of_ble_eq_true rfl)) dL_faulty_50 ⟨by show (1 + j * 1) + 1 ≤ 20; omega, by show (6 + j * 6) + 6 ≤ 120; omega⟩) hS (fun _ h => h) (fun E ce q9 H1 locs1 hp hz9 hk9 hS hce hcv hcl => by obtain ⟨-, e9⟩ := hp; exfalso; have h9 := e9.2; omega) (fun v H locs hp hz9 hk9 hS => ?_)
      obtain ⟨n9, ⟨hn9, hn8⟩, rfl, hH9⟩ := hp
      obtain rfl := hH9.symm
      obtain rfl : n9 = (4 * (n / 4) + j) := by omega
      refine W.eq (g2 := F0 m 53 ls [.int (z2 (rsS X (4 * (n / 4) + j))), .int (z2 (SB X n j))]) rfl ?_
      obtain ⟨r, hr0, hr8, -, -, -, hcn⟩ := rs_nat X (4 * (n / 4) + j)
      rw [hr0]
      refine g_run (vx_runS (As := [.int (z2 (((r : Nat) : Int)))]) (rest := [.int (z2 (SB X n j))]) ⟨hx, hb, hml, hown, hts⟩ (w_bits l D ks bx _ r hr8) (cwS 1 hts gL_faulty_L_bits rfl rfl rfl (by decide +kernel) ⟨Nat.le_of_ble_eq_true rfl, Nat.le_of_ble_eq_true rfl⟩) (g_preS hG hS rx_ge) rfl rfl hl.1 rfl (lv_room (Nat.le_of_ble_eq_true rfl)) dL_faulty_53 ⟨by show (1 + j * 1) + 1 + 0 ≤ 20; omega, by show (6 + j * 6) + 6 + 0 ≤ 120; omega⟩) hS (fun _ h => h) (fun _ _ _ _ _ h => h.elim) (fun v H locs hp hz9 hk9 hS => ?_)
      obtain ⟨rfl, hH9⟩ := hp
      obtain rfl := hH9.symm
      rw [show (((r % 2 : Nat) : Int) + ((r / 2 % 2 : Nat) : Int) + ((r / 4 % 2 : Nat) : Int)) = cn X (4 * (n / 4) + j) by omega]
      refine W.eq (g2 := F0 m 56 ls [.int (z2 (cn X (4 * (n / 4) + j))), .int (z2 (SB X n j))]) rfl ?_
      refine b_iadd hx hb dL_faulty_56 ?_
      refine lv_istore_n (lv' := [(3, .int (z2 ((SB X n j) + (cn X (4 * (n / 4) + j))))), (6, .int (z2 (((4 * (n / 4) + j : Nat) : Int)))), (5, .int (z2 (X 14 n))), (4, .int (z2 (0))), (2, .int (z2 (X 5 0))), (1, .int (z2 (((n : Nat) : Int)))), (0, .ref bx)]) hx hb dL_faulty_57 rfl hl (by decide) rfl (fun ls hl => ?_)
      refine b_iinc (lv' := [(6, .int (z2 (((4 * (n / 4) + j : Nat) : Int) + 1))), (3, .int (z2 ((SB X n j) + (cn X (4 * (n / 4) + j))))), (5, .int (z2 (X 14 n))), (4, .int (z2 (0))), (2, .int (z2 (X 5 0))), (1, .int (z2 (((n : Nat) : Int)))), (0, .ref bx)]) hx hb dL_faulty_58 hl (k := 1) rfl (by decide) rfl (fun ls hl => ?_)
      refine lv_goto (tgt := 24) hx hb dL_faulty_61 (by decide) ?_
      refine W.widen (k := 1 + j * 1 + 1) (n := 6 + j * 6 + 6) (by show (1 + j * 1) + 1 + 0 ≤ 1 + j * 1 + 1; omega) (by show (6 + j * 6) + 6 + 0 ≤ 6 + j * 6 + 6; omega) ?_
      exact ih (by omega) _ _ _ ⟨hP, hS, by rw [show SB X n (j + 1) = SB X n j + cn X (4 * (n / 4) + j) from by rw [SB, if_neg (by omega)]]; exact lv_sub hl [0, 2, 3, 1, 4, 5, 6] rfl⟩
    · skip
      refine b_iconst hx hb dL_faulty_43 ?_
      refine lv_goto (tgt := 56) hx hb dL_faulty_44 (by decide) ?_
      refine b_iadd hx hb dL_faulty_56 ?_
      refine lv_istore_n (lv' := [(3, .int (z2 ((SB X n j) + 0))), (6, .int (z2 (((4 * (n / 4) + j : Nat) : Int)))), (5, .int (z2 (X 14 n))), (4, .int (z2 (0))), (2, .int (z2 (X 5 0))), (1, .int (z2 (((n : Nat) : Int)))), (0, .ref bx)]) hx hb dL_faulty_57 rfl hl (by decide) rfl (fun ls hl => ?_)
      refine b_iinc (lv' := [(6, .int (z2 (((4 * (n / 4) + j : Nat) : Int) + 1))), (3, .int (z2 ((SB X n j) + 0))), (5, .int (z2 (X 14 n))), (4, .int (z2 (0))), (2, .int (z2 (X 5 0))), (1, .int (z2 (((n : Nat) : Int)))), (0, .ref bx)]) hx hb dL_faulty_58 hl (k := 1) rfl (by decide) rfl (fun ls hl => ?_)
      refine lv_goto (tgt := 24) hx hb dL_faulty_61 (by decide) ?_
      refine W.widen (k := 1 + j * 1 + 1) (n := 6 + j * 6 + 6) (by show (1 + j * 1) ≤ 1 + j * 1 + 1; omega) (by show (6 + j * 6) ≤ 6 + j * 6 + 6; omega) ?_
      exact ih (by omega) _ _ _ ⟨hP, hS, by rw [show SB X n (j + 1) = SB X n j + 0 from by rw [SB, if_pos (by omega)]]; exact lv_sub hl [0, 2, 3, 1, 4, 5, 6] rfl⟩
