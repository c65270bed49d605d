/-! THE LAW's melodies. -/
theorem l2_tn {t : Int} {q : Nat} (ht : 0 ≤ t ∧ t < 9223372036854775808) (hq : q < 16) : l2 t >>> ((z2 (4 * (q : Int))).toInt64 &&& 63) = l2 (t / 16 ^ q) := l2_tone ht hq
set_option maxHeartbeats 4000000 in
set_option maxRecDepth 100000 in
theorem w_melodies (l : Launch) (D : va_G) (ks : Nat → ClassId) (bx : Nat) (ml : Nat → Nat) (X : Nat → Nat → Int) (H : Heap) (hP : PX D ks bx ml X H) (hV : VX X) (hst : l.stackTraces = false) (k cn : Nat) (b9 : Int) (hk : (k : Int) < X 4 0) (hc : X 37 k = cn) (hb9 : 0 ≤ b9 ∧ b9 ≤ 15) : KM l yL_melodies wsL_melodies ({ frames := 8, cells := 110, slots := 660, locals := 135 } : Room) D ks bx [.ref bx, .int (z2 ((k : Nat) : Int)), .int (z2 ((cn : Nat) : Int)), .long (l2 (X 38 k)), .int (z2 b9)] H (RX bx) (fun v H1 => v = some (.int (z2 1)) ∧ PX D ks bx ml X H1) (fun _ _ => False) := by
  refine KM.of (cc := cL_melodies) (maxL := 10) (ret := (some .boolean)) (by decide) rfl (Nat.le_of_ble_eq_true rfl) ?_
  intro p e s m below meth c hx hb hml hr hlocks hown hname hts hext hH0 hG ls hl
  subst hH0
  have hown : s.vm.findClass RL = some m.cls := hown
  have hS : va_S (AR (RX bx) s.heap.size) s.heap s.heap [] := va_S.rf
  have hl : lv_has ls 10 [(0, .ref bx), (1, .int (z2 (((k : Nat) : Int)))), (2, .int (z2 (((cn : Nat) : Int)))), (3, .long (l2 (X 38 k))), (5, .int (z2 (b9)))] := hl
  have b4 : 0 ≤ X 4 0 ∧ X 4 0 ≤ 12 := hV.1 4 0 rfl
  have bk : 1 ≤ X 37 k ∧ X 37 k ≤ 12 := hV.1 37 k rfl
  have ht0 := hV.2.2 k
  have ecn : (X 37 k).toNat = cn := by omega
  rw [ecn] at ht0
  have p48 := p16 (k := cn) (by omega)
  refine lv_aload_n hx hb dL_melodies_0 rfl (lv_at hl 0 rfl) ?_
  refine lv_iload_n hx hb dL_melodies_1 rfl (lv_at hl 1 rfl) ?_
  refine lv_iload_n hx hb dL_melodies_2 rfl (lv_at hl 1 rfl) ?_
  refine g_run (vx_runV (As := [.int (z2 (((k : Nat) : Int))), .int (z2 (((k : Nat) : Int)))]) (rest := []) ⟨hx, hb, hml, hown, hts⟩ (k_areAlike l D ks bx ml X _ hP hV hst (((k : Nat) : Int)) (((k : Nat) : Int)) ⟨by omega, by omega⟩ ⟨by omega, by omega⟩) (cwV 2 hts gL_melodies_X4_areAlike rfl rfl rfl (by decide +kernel) ⟨Nat.le_of_ble_eq_true rfl, Nat.le_of_ble_eq_true rfl⟩) (g_preV (r := (RX4, TX4, 7)) hG hS rx_ge hP.1 rfl) rfl rfl hl.1 rfl (lv_room (Nat.le_of_ble_eq_true rfl)) dL_melodies_3 ⟨Nat.le_of_ble_eq_true rfl, Nat.le_of_ble_eq_true rfl⟩) hS (fun _ h => h) (fun E ce q9 H1 locs1 hp hz9 hk9 hS hce hcv hcl => by obtain ⟨-, e9⟩ := hp; exfalso; have h9 := e9.2; omega) (fun v H locs hp hz9 hk9 hS => ?_)
  obtain ⟨k8, k9, ⟨⟨h1, h2⟩, h3, h4⟩, rfl, hH9⟩ := hp
  obtain rfl := hH9.symm
  obtain rfl : k = k8 := by omega
  obtain rfl : k = k9 := by omega
  rw [is_self hV k]
  refine W.eq (g2 := F0 m 6 ls [.int (z2 (1))]) rfl ?_
  refine b_if_eq (tgt := 24) hx hb dL_melodies_6 (by decide) ⟨by omega, by omega⟩ (fun c => absurd c (by omega)) (fun _ => ?_)
  refine lv_aload_n hx hb dL_melodies_9 rfl (lv_at hl 0 rfl) ?_
  refine lv_iload_n hx hb dL_melodies_10 rfl (lv_at hl 1 rfl) ?_
  refine b_iconst hx hb dL_melodies_11 ?_
  refine g_run (vx_runV (As := [.int (z2 (((k : Nat) : Int))), .int (z2 (0))]) (rest := []) ⟨hx, hb, hml, hown, hts⟩ (k_shifted l D ks bx ml X _ hP hV hst ((k : Nat) : Int) (0) ⟨by omega, by omega⟩ ⟨by omega, by omega⟩) (cwV 2 hts gL_melodies_X4_shifted rfl rfl rfl (by decide +kernel) ⟨Nat.le_of_ble_eq_true rfl, Nat.le_of_ble_eq_true rfl⟩) (g_preV (r := (RX4, TX4, 7)) hG hS rx_ge hP.1 rfl) rfl rfl hl.1 rfl (lv_room (Nat.le_of_ble_eq_true rfl)) dL_melodies_12 ⟨Nat.le_of_ble_eq_true rfl, Nat.le_of_ble_eq_true rfl⟩) hS (fun _ h => h) (fun E ce q9 H1 locs1 hp hz9 hk9 hS hce hcv hcl => by obtain ⟨-, e9⟩ := hp; exfalso; rcases e9 with ⟨-, h9⟩ | ⟨-, h9⟩ <;> omega) (fun v H locs hp hz9 hk9 hS => ?_)
  obtain ⟨k8, c8, ⟨⟨h1, h2⟩, h3, h4, h5⟩, rfl, hH9⟩ := hp
  obtain rfl := hH9.symm
  obtain rfl : k = k8 := by omega
  obtain rfl : cn = c8 := by omega
  refine W.eq (g2 := F0 m 15 ls [.long (l2 (shR (X 38 k) (0) cn cn))]) rfl ?_
  refine lv_lload_n hx hb dL_melodies_15 rfl (lv_at hl 3 rfl) ?_
  refine W.lcmp hx hb dL_melodies_16 ?_
  refine b_top (v := 0) (lg_self (congrArg l2 (sh_0 ht0))) ?_
  refine b_if_ne (tgt := 24) hx hb dL_melodies_17 (by decide) ⟨by omega, by omega⟩ (fun c => absurd c (by omega)) (fun _ => ?_)
  refine b_iconst hx hb dL_melodies_20 ?_
  refine lv_goto (tgt := 25) hx hb dL_melodies_21 (by decide) ?_
  refine lv_istore (lv' := [(6, .int (z2 (1))), (0, .ref bx), (1, .int (z2 (((k : Nat) : Int)))), (2, .int (z2 (((cn : Nat) : Int)))), (3, .long (l2 (X 38 k))), (5, .int (z2 (b9)))]) hx hb dL_melodies_25 hl (by decide) rfl (fun ls hl => ?_)
  refine lv_lconst (v := l2 0) hx hb dL_melodies_27 (by decide +kernel) ?_
  refine lv_lstore (lv' := [(7, .long (l2 0)), (6, .int (z2 (1))), (0, .ref bx), (1, .int (z2 (((k : Nat) : Int)))), (2, .int (z2 (((cn : Nat) : Int)))), (3, .long (l2 (X 38 k))), (5, .int (z2 (b9)))]) hx hb dL_melodies_28 hl (by decide) rfl (fun ls hl => ?_)
  refine b_iconst hx hb dL_melodies_30 ?_
  refine lv_istore (lv' := [(9, .int (z2 (0))), (7, .long (l2 0)), (6, .int (z2 (1))), (0, .ref bx), (1, .int (z2 (((k : Nat) : Int)))), (2, .int (z2 (((cn : Nat) : Int)))), (3, .long (l2 (X 38 k))), (5, .int (z2 (b9)))]) hx hb dL_melodies_31 hl (by decide) rfl (fun ls hl => ?_)
  refine W.widen (k := 4) (n := 24) (by show 0 + 2 + 2 ≤ 4; omega) (by show 0 + 12 + 12 ≤ 24; omega) ?_
  refine lp_k (cn) (fun j H locs ls => PX D ks bx ml X H ∧ va_S (AR (RX bx) s.heap.size) s.heap H locs ∧ lv_has ls 10 [(9, .int (z2 (((j : Nat) : Int)))), (7, .long (l2 (tuR (X 38 k) j))), (6, .int (z2 (1))), (5, .int (z2 (b9))), (3, .long (l2 (X 38 k))), (2, .int (z2 (((cn : Nat) : Int)))), (1, .int (z2 (((k : Nat) : Int)))), (0, .ref bx)]) 4 24 8 48 (fun j H locs ls hkN hI ih => ?_) _ _ _ ⟨hP, hS, lv_sub hl [0, 1, 2, 7, 6, 5, 4, 3] rfl⟩
  obtain ⟨hP, hS, hl⟩ := hI
  refine lv_iload hx hb dL_melodies_33 (lv_at hl 0 rfl) ?_
  refine lv_iload_n hx hb dL_melodies_35 rfl (lv_at hl 5 rfl) ?_
  refine b_icmp_ge (tgt := 127) hx hb dL_melodies_36 (by decide) ⟨⟨by omega, by omega⟩, ⟨by omega, by omega⟩⟩ (fun c_36 => ?_) (fun c_36 => ?_)
  · skip
    refine lv_iload hx hb dL_melodies_127 (lv_at hl 2 rfl) ?_
    refine b_if_eq (tgt := 147) hx hb dL_melodies_129 (by decide) ⟨by omega, by omega⟩ (fun c => absurd c (by omega)) (fun _ => ?_)
    refine lv_aload_n hx hb dL_melodies_132 rfl (lv_at hl 7 rfl) ?_
    refine lv_iload_n hx hb dL_melodies_133 rfl (lv_at hl 6 rfl) ?_
    refine g_run (vx_runV (As := [.int (z2 (((k : Nat) : Int)))]) (rest := []) ⟨hx, hb, hml, hown, hts⟩ (k_turned l D ks bx ml X _ hP hV hst ((k : Nat) : Int) ⟨by omega, by omega⟩) (cwV 1 hts gL_melodies_X4_turned rfl rfl rfl (by decide +kernel) ⟨Nat.le_of_ble_eq_true rfl, Nat.le_of_ble_eq_true rfl⟩) (g_preV (r := (RX4, TX4, 7)) hG hS rx_ge hP.1 rfl) rfl rfl hl.1 rfl (lv_room (Nat.le_of_ble_eq_true rfl)) dL_melodies_134 ⟨by show (4 + j * 8) + 1 ≤ 110; omega, by show (24 + j * 48) + 6 ≤ 660; omega⟩) hS (fun _ h => h) (fun E ce q9 H1 locs1 hp hz9 hk9 hS hce hcv hcl => by obtain ⟨-, e9⟩ := hp; exfalso; have h9 := e9.2; omega) (fun v H locs hp hz9 hk9 hS => ?_)
    obtain ⟨k8, c8, ⟨⟨h1, h2⟩, h3⟩, rfl, hH9⟩ := hp
    obtain rfl := hH9.symm
    obtain rfl : k = k8 := by omega
    obtain rfl : cn = c8 := by omega
    refine W.eq (g2 := F0 m 137 ls [.long (l2 (tuR (X 38 k) cn))]) rfl ?_
    refine lv_lload hx hb dL_melodies_137 (lv_at hl 1 rfl) ?_
    refine W.lcmp hx hb dL_melodies_139 ?_
    refine b_top (v := 0) (lg_self (by rw [show j = cn by omega])) ?_
    refine b_if_ne (tgt := 147) hx hb dL_melodies_140 (by decide) ⟨by omega, by omega⟩ (fun c => absurd c (by omega)) (fun _ => ?_)
    refine b_iconst hx hb dL_melodies_143 ?_
    refine lv_goto (tgt := 148) hx hb dL_melodies_144 (by decide) ?_
    exact g_zret hx hb hr hlocks hS (by decide +kernel) ⟨by show (4 + j * 8) + 1 ≤ 110; omega, by show (24 + j * 48) + 6 ≤ 660; omega⟩ (⟨rfl, hP⟩) dL_melodies_148
  · skip
    have hj : j < cn := by omega
    have bt := toS_b (X 38 k) j
    have bs := shR_b (X 38 k) b9 cn cn
    have btu := tuR_b (X 38 k) j
    have pj := p16 (k := j) (by omega)
    refine lv_iload hx hb dL_melodies_39 (lv_at hl 2 rfl) ?_
    refine b_if_eq (tgt := 127) hx hb dL_melodies_41 (by decide) ⟨by omega, by omega⟩ (fun c => absurd c (by omega)) (fun _ => ?_)
    refine lv_aload_n hx hb dL_melodies_44 rfl (lv_at hl 7 rfl) ?_
    refine lv_iload_n hx hb dL_melodies_45 rfl (lv_at hl 6 rfl) ?_
    refine lv_iload hx hb dL_melodies_46 (lv_at hl 0 rfl) ?_
    refine g_run (vx_runV (As := [.int (z2 (((k : Nat) : Int))), .int (z2 (((j : Nat) : Int)))]) (rest := []) ⟨hx, hb, hml, hown, hts⟩ (k_toneAt l D ks bx ml X _ hP hV hst ((k : Nat) : Int) ((j : Nat) : Int) ⟨by omega, by omega⟩ ⟨by omega, by omega⟩) (cwV 2 hts gL_melodies_X4_toneAt rfl rfl rfl (by decide +kernel) ⟨Nat.le_of_ble_eq_true rfl, Nat.le_of_ble_eq_true rfl⟩) (g_preV (r := (RX4, TX4, 7)) hG hS rx_ge hP.1 rfl) rfl rfl hl.1 rfl (lv_room (Nat.le_of_ble_eq_true rfl)) dL_melodies_48 ⟨by show (4 + j * 8) + 2 ≤ 110; omega, by show (24 + j * 48) + 12 ≤ 660; omega⟩) hS (fun _ h => h) (fun E ce q9 H1 locs1 hp hz9 hk9 hS hce hcv hcl => by obtain ⟨-, e9⟩ := hp; exfalso; exact e9.2.elim (fun h9 => by omega) (fun ⟨k8, h8, _, h9⟩ => by (obtain rfl : k = k8 := (by omega)); omega)) (fun v H locs hp hz9 hk9 hS => ?_)
    obtain ⟨k8, q8, ⟨⟨h1, h2⟩, h3, h4⟩, rfl, hH9⟩ := hp
    obtain rfl := hH9.symm
    obtain rfl : k = k8 := by omega
    obtain rfl : j = q8 := by omega
    refine W.eq (g2 := F0 m 51 ls [.int (z2 (toS (X 38 k) j))]) rfl ?_
    refine lv_lload_n hx hb dL_melodies_51 rfl (lv_at hl 4 rfl) ?_
    refine b_iconst hx hb dL_melodies_52 ?_
    refine lv_iload hx hb dL_melodies_53 (lv_at hl 0 rfl) ?_
    refine b_imul hx hb dL_melodies_55 ?_
    refine lv_lshr hx hb dL_melodies_56 rfl ?_
    refine b_topl (v := X 38 k / 16 ^ j) (l2_tn ⟨ht0.1, by omega⟩ (by omega)) ?_
    refine lv_ldc2 (v := l2 15) hx hb hown (hts _ (by decide +kernel)) dL_melodies_57 ?_
    refine lv_land hx hb dL_melodies_60 ?_
    refine b_topl (v := toS (X 38 k) j) (l2_and15 _) ?_
    refine lv_l2i (v := z2 (toS (X 38 k) j)) hx hb dL_melodies_61 (l2_z2 _) ?_
    refine b_icmp_ne (tgt := 103) hx hb dL_melodies_62 (by decide) ⟨⟨by omega, by omega⟩, ⟨by omega, by omega⟩⟩ (fun c => absurd c (by omega)) (fun _ => ?_)
    refine lv_aload_n hx hb dL_melodies_65 rfl (lv_at hl 7 rfl) ?_
    refine lv_iload_n hx hb dL_melodies_66 rfl (lv_at hl 6 rfl) ?_
    refine lv_iload hx hb dL_melodies_67 (lv_at hl 3 rfl) ?_
    refine g_run (vx_runV (As := [.int (z2 (((k : Nat) : Int))), .int (z2 (b9))]) (rest := []) ⟨hx, hb, hml, hown, hts⟩ (k_shifted l D ks bx ml X _ hP hV hst ((k : Nat) : Int) (b9) ⟨by omega, by omega⟩ ⟨by omega, by omega⟩) (cwV 2 hts gL_melodies_X4_shifted rfl rfl rfl (by decide +kernel) ⟨Nat.le_of_ble_eq_true rfl, Nat.le_of_ble_eq_true rfl⟩) (g_preV (r := (RX4, TX4, 7)) hG hS rx_ge hP.1 rfl) rfl rfl hl.1 rfl (lv_room (Nat.le_of_ble_eq_true rfl)) dL_melodies_69 ⟨by show (4 + j * 8) + 2 + 2 ≤ 110; omega, by show (24 + j * 48) + 12 + 12 ≤ 660; omega⟩) hS (fun _ h => h) (fun E ce q9 H1 locs1 hp hz9 hk9 hS hce hcv hcl => by obtain ⟨-, e9⟩ := hp; exfalso; rcases e9 with ⟨-, h9⟩ | ⟨-, h9⟩ <;> omega) (fun v H locs hp hz9 hk9 hS => ?_)
    obtain ⟨k8, c8, ⟨⟨h1, h2⟩, h3, h4, h5⟩, rfl, hH9⟩ := hp
    obtain rfl := hH9.symm
    obtain rfl : k = k8 := by omega
    obtain rfl : cn = c8 := by omega
    refine W.eq (g2 := F0 m 72 ls [.long (l2 (shR (X 38 k) (b9) cn cn))]) rfl ?_
    refine b_iconst hx hb dL_melodies_72 ?_
    refine lv_iload hx hb dL_melodies_73 (lv_at hl 0 rfl) ?_
    refine b_imul hx hb dL_melodies_75 ?_
    refine lv_lshr hx hb dL_melodies_76 rfl ?_
    refine b_topl (v := shR (X 38 k) b9 cn cn / 16 ^ j) (l2_tn ⟨bs.1, by omega⟩ (by omega)) ?_
    refine lv_ldc2 (v := l2 15) hx hb hown (hts _ (by decide +kernel)) dL_melodies_77 ?_
    refine lv_land hx hb dL_melodies_80 ?_
    refine b_topl (v := toS (shR (X 38 k) b9 cn cn) j) (l2_and15 _) ?_
    refine lv_aload_n hx hb dL_melodies_81 rfl (lv_at hl 7 rfl) ?_
    refine lv_iload_n hx hb dL_melodies_82 rfl (lv_at hl 6 rfl) ?_
    refine lv_iload hx hb dL_melodies_83 (lv_at hl 0 rfl) ?_
    refine g_run (vx_runV (As := [.int (z2 (((k : Nat) : Int))), .int (z2 (((j : Nat) : Int)))]) (rest := [.long (l2 (toS (shR (X 38 k) b9 cn cn) j))]) ⟨hx, hb, hml, hown, hts⟩ (k_toneAt l D ks bx ml X _ hP hV hst ((k : Nat) : Int) ((j : Nat) : Int) ⟨by omega, by omega⟩ ⟨by omega, by omega⟩) (cwV 2 hts gL_melodies_X4_toneAt rfl rfl rfl (by decide +kernel) ⟨Nat.le_of_ble_eq_true rfl, Nat.le_of_ble_eq_true rfl⟩) (g_preV (r := (RX4, TX4, 7)) hG hS rx_ge hP.1 rfl) rfl rfl hl.1 rfl (lv_room (Nat.le_of_ble_eq_true rfl)) dL_melodies_85 ⟨by show (4 + j * 8) + 2 + 2 + 2 ≤ 110; omega, by show (24 + j * 48) + 12 + 12 + 12 ≤ 660; omega⟩) hS (fun _ h => h) (fun E ce q9 H1 locs1 hp hz9 hk9 hS hce hcv hcl => by obtain ⟨-, e9⟩ := hp; exfalso; exact e9.2.elim (fun h9 => by omega) (fun ⟨k8, h8, _, h9⟩ => by (obtain rfl : k = k8 := (by omega)); omega)) (fun v H locs hp hz9 hk9 hS => ?_)
    obtain ⟨k8, q8, ⟨⟨h1, h2⟩, h3, h4⟩, rfl, hH9⟩ := hp
    obtain rfl := hH9.symm
    obtain rfl : k = k8 := by omega
    obtain rfl : j = q8 := by omega
    refine W.eq (g2 := F0 m 88 ls [.int (z2 (toS (X 38 k) j)), .long (l2 (toS (shR (X 38 k) b9 cn cn) j))]) rfl ?_
    refine lv_iload hx hb dL_melodies_88 (lv_at hl 3 rfl) ?_
    refine b_iadd hx hb dL_melodies_90 ?_
    refine b_bipush hx hb dL_melodies_91 (by decide +kernel) ?_
    refine b_irem hx hb ⟨⟨by omega, by omega⟩, by omega, by omega⟩ dL_melodies_93 ?_
    refine lv_i2l (v := l2 (((toS (X 38 k) j) + b9) % 16)) hx hb dL_melodies_94 (z2_l2 ⟨by omega, by omega⟩) ?_
    refine W.lcmp hx hb dL_melodies_95 ?_
    refine b_top (v := 0) (lg_self (congrArg l2 (sh_tone hj))) ?_
    refine b_if_ne (tgt := 103) hx hb dL_melodies_96 (by decide) ⟨by omega, by omega⟩ (fun c => absurd c (by omega)) (fun _ => ?_)
    refine b_iconst hx hb dL_melodies_99 ?_
    refine lv_goto (tgt := 104) hx hb dL_melodies_100 (by decide) ?_
    refine lv_istore (lv' := [(6, .int (z2 (1))), (9, .int (z2 (((j : Nat) : Int)))), (7, .long (l2 (tuR (X 38 k) j))), (5, .int (z2 (b9))), (3, .long (l2 (X 38 k))), (2, .int (z2 (((cn : Nat) : Int)))), (1, .int (z2 (((k : Nat) : Int)))), (0, .ref bx)]) hx hb dL_melodies_104 hl (by decide) rfl (fun ls hl => ?_)
    refine lv_lload hx hb dL_melodies_106 (lv_at hl 2 rfl) ?_
    refine b_iconst hx hb dL_melodies_108 ?_
    refine lv_lshl hx hb dL_melodies_109 rfl ?_
    refine lv_aload_n hx hb dL_melodies_110 rfl (lv_at hl 7 rfl) ?_
    refine lv_iload_n hx hb dL_melodies_111 rfl (lv_at hl 6 rfl) ?_
    refine lv_iload hx hb dL_melodies_112 (lv_at hl 1 rfl) ?_
    refine g_run (vx_runV (As := [.int (z2 (((k : Nat) : Int))), .int (z2 (((j : Nat) : Int)))]) (rest := [.long ((l2 (tuR (X 38 k) j)) <<< ((z2 (4)).toInt64 &&& 63))]) ⟨hx, hb, hml, hown, hts⟩ (k_toneAt l D ks bx ml X _ hP hV hst ((k : Nat) : Int) ((j : Nat) : Int) ⟨by omega, by omega⟩ ⟨by omega, by omega⟩) (cwV 2 hts gL_melodies_X4_toneAt rfl rfl rfl (by decide +kernel) ⟨Nat.le_of_ble_eq_true rfl, Nat.le_of_ble_eq_true rfl⟩) (g_preV (r := (RX4, TX4, 7)) hG hS rx_ge hP.1 rfl) rfl rfl hl.1 rfl (lv_room (Nat.le_of_ble_eq_true rfl)) dL_melodies_114 ⟨by show (4 + j * 8) + 2 + 2 + 2 + 2 ≤ 110; omega, by show (24 + j * 48) + 12 + 12 + 12 + 12 ≤ 660; omega⟩) hS (fun _ h => h) (fun E ce q9 H1 locs1 hp hz9 hk9 hS hce hcv hcl => by obtain ⟨-, e9⟩ := hp; exfalso; exact e9.2.elim (fun h9 => by omega) (fun ⟨k8, h8, _, h9⟩ => by (obtain rfl : k = k8 := (by omega)); omega)) (fun v H locs hp hz9 hk9 hS => ?_)
    obtain ⟨k8, q8, ⟨⟨h1, h2⟩, h3, h4⟩, rfl, hH9⟩ := hp
    obtain rfl := hH9.symm
    obtain rfl : k = k8 := by omega
    obtain rfl : j = q8 := by omega
    refine W.eq (g2 := F0 m 117 ls [.int (z2 (toS (X 38 k) j)), .long ((l2 (tuR (X 38 k) j)) <<< ((z2 (4)).toInt64 &&& 63))]) rfl ?_
    refine lv_i2l (v := l2 (toS (X 38 k) j)) hx hb dL_melodies_117 (z2_l2 ⟨by omega, by omega⟩) ?_
    refine lv_lor hx hb dL_melodies_118 ?_
    refine b_topl (v := tuR (X 38 k) (j + 1)) (l2_dig ⟨btu.1, by omega⟩ bt) ?_
    refine lv_lstore (lv' := [(7, .long (l2 (tuR (X 38 k) (j + 1)))), (6, .int (z2 (1))), (9, .int (z2 (((j : Nat) : Int)))), (5, .int (z2 (b9))), (3, .long (l2 (X 38 k))), (2, .int (z2 (((cn : Nat) : Int)))), (1, .int (z2 (((k : Nat) : Int)))), (0, .ref bx)]) hx hb dL_melodies_119 hl (by decide) rfl (fun ls hl => ?_)
    refine b_iinc (lv' := [(9, .int (z2 (((j : Nat) : Int) + 1))), (7, .long (l2 (tuR (X 38 k) (j + 1)))), (6, .int (z2 (1))), (5, .int (z2 (b9))), (3, .long (l2 (X 38 k))), (2, .int (z2 (((cn : Nat) : Int)))), (1, .int (z2 (((k : Nat) : Int)))), (0, .ref bx)]) hx hb dL_melodies_121 hl (k := 2) rfl (by decide) rfl (fun ls hl => ?_)
    refine lv_goto (tgt := 33) hx hb dL_melodies_124 (by decide) ?_
    refine W.widen (k := 4 + j * 8 + 8) (n := 24 + j * 48 + 48) (by show (4 + j * 8) + 2 + 2 + 2 + 2 ≤ 4 + j * 8 + 8; omega) (by show (24 + j * 48) + 12 + 12 + 12 + 12 ≤ 24 + j * 48 + 48; omega) ?_
    exact ih (by omega) _ _ _ ⟨hP, hS, lv_sub hl [0, 1, 2, 3, 4, 5, 6, 7] rfl⟩
theorem w_melodies2 (l : Launch) (D : va_G) (ks : Nat → ClassId) (bx : Nat) (ml : Nat → Nat) (X : Nat → Nat → Int) (H : Heap) (hP : PX D ks bx ml X H) (hV : VX X) (hst : l.stackTraces = false) (k cn : Nat) (b9 t : Int) (hk : (k : Int) < X 4 0) (hc : X 37 k = cn) (hb9 : 0 ≤ b9 ∧ b9 ≤ 15) (ht : X 38 k = t) : KM l yL_melodies wsL_melodies ({ frames := 8, cells := 110, slots := 660, locals := 135 } : Room) D ks bx [.ref bx, .int (z2 ((k : Nat) : Int)), .int (z2 ((cn : Nat) : Int)), .long (l2 t), .int (z2 b9)] H (RX bx) (fun v H1 => v = some (.int (z2 1)) ∧ PX D ks bx ml X H1) (fun _ _ => False) := by
  subst ht
  exact w_melodies l D ks bx ml X H hP hV hst k cn b9 hk hc hb9
