/-! THE LAW's holds: what the invariant gives. -/
theorem SU_bd {X : Nat → Nat → Int} (h : ∀ j : Nat, j < 8 → -1000 ≤ X 17 j ∧ X 17 j ≤ 1000) : ∀ k : Nat, k ≤ 8 → -1000 * (k : Int) ≤ SU X 17 k ∧ SU X 17 k ≤ 1000 * (k : Int) := by
  intro k
  induction k with
  | zero => intro _; exact ⟨Int.le_refl _, Int.le_refl _⟩
  | succ k ih =>
    intro hk
    have i1 := ih (by omega)
    have h1 := h k (by omega)
    unfold SU
    omega
theorem rs_z {X : Nat → Nat → Int} {n : Nat} (h : ∀ b : Nat, b < 3 → X 32 (3 * n + b) = 0) : rsS X n = 0 := by
  unfold rsS
  rw [h 0 (by omega), h 1 (by omega), h 2 (by omega)]
  rfl
set_option maxHeartbeats 4000000 in
set_option maxRecDepth 100000 in
theorem w_holds (l : Launch) (D : va_G) (ks : Nat → ClassId) (bx : Nat) (ml : Nat → Nat) (X : Nat → Nat → Int) (H : Heap) (hP : PX D ks bx ml X H) (hV : VX X) (hst : l.stackTraces = false) (N : Nat) (hN : N ≤ 60) (hY : YV N X) : KM l yL_holds wsL_holds ({ frames := 9, cells := 600, slots := 3600, locals := 153 } : Room) D ks bx [.ref bx] H (RX bx) (fun v H1 => v = some (.int (z2 1)) ∧ PX D ks bx ml X H1) (fun _ _ => False) := by
  refine KM.of (cc := cL_holds) (maxL := 6) (ret := (some .boolean)) (by decide) rfl (Nat.le_of_ble_eq_true rfl) ?_
  intro p e s m below meth c hx hb hml hr hlocks hown hname hts hext hH0 hG ls hl
  subst hH0
  have hown : s.vm.findClass RL = some m.cls := hown
  have hS : va_S (AR (RX bx) s.heap.size) s.heap s.heap [] := va_S.rf
  have hl : lv_has ls 6 [(0, .ref bx)] := hl
  have b6 : 0 ≤ X 6 0 ∧ X 6 0 ≤ 1000000 := hV.1 6 0 rfl
  have b5 : 0 ≤ X 5 0 ∧ X 5 0 ≤ 100 := hV.1 5 0 rfl
  obtain ⟨n5, hn5⟩ : ∃ n5 : Nat, X 5 0 = n5 := ⟨(X 5 0).toNat, by omega⟩
  obtain ⟨y1, y2, ⟨y3, y4⟩, ⟨y5, y6⟩, y7, y8, y9⟩ := hY
  have eN : (X 5 0).toNat = n5 := by omega
  rw [eN] at y3 y5 y6
  have bF := FO_b X (X 6 0 / 1000) n5
  refine lv_aload_n hx hb dL_holds_0 rfl (lv_at hl 0 rfl) ?_
  refine g_run (vx_runV (As := []) (rest := []) ⟨hx, hb, hml, hown, hts⟩ (k_time l D ks bx ml X _ hP hV) (cwV 0 hts gL_holds_X4_time rfl rfl rfl (by decide +kernel) ⟨Nat.le_of_ble_eq_true rfl, Nat.le_of_ble_eq_true rfl⟩) (g_preV (r := (RX4, TX4, 7)) hG hS rx_ge hP.1 rfl) rfl rfl hl.1 rfl (lv_room (Nat.le_of_ble_eq_true rfl)) dL_holds_1 ⟨Nat.le_of_ble_eq_true rfl, Nat.le_of_ble_eq_true rfl⟩) hS (fun _ h => h) (fun _ _ _ _ _ h => h.elim) (fun v H locs hp hz9 hk9 hS => ?_)
  obtain ⟨rfl, hH9⟩ := hp
  obtain rfl := hH9.symm
  refine W.eq (g2 := F0 m 4 ls [.int (z2 (X 6 0))]) rfl ?_
  refine b_sipush hx hb dL_holds_4 (by decide +kernel) ?_
  refine b_idiv hx hb ⟨⟨by omega, by omega⟩, by omega, by omega⟩ dL_holds_7 ?_
  refine lv_istore_n (lv' := [(1, .int (z2 ((X 6 0) / 1000))), (0, .ref bx)]) hx hb dL_holds_8 rfl hl (by decide) rfl (fun ls hl => ?_)
  refine b_iconst hx hb dL_holds_9 ?_
  refine lv_istore_n (lv' := [(2, .int (z2 (0))), (1, .int (z2 ((X 6 0) / 1000))), (0, .ref bx)]) hx hb dL_holds_10 rfl hl (by decide) rfl (fun ls hl => ?_)
  refine lv_aload_n hx hb dL_holds_11 rfl (lv_at hl 2 rfl) ?_
  refine g_run (vx_runV (As := []) (rest := []) ⟨hx, hb, hml, hown, hts⟩ (k_faults l D ks bx ml X _ hP hV) (cwV 0 hts gL_holds_X4_faults rfl rfl rfl (by decide +kernel) ⟨Nat.le_of_ble_eq_true rfl, Nat.le_of_ble_eq_true rfl⟩) (g_preV (r := (RX4, TX4, 7)) hG hS rx_ge hP.1 rfl) rfl rfl hl.1 rfl (lv_room (Nat.le_of_ble_eq_true rfl)) dL_holds_12 ⟨Nat.le_of_ble_eq_true rfl, Nat.le_of_ble_eq_true rfl⟩) hS (fun _ h => h) (fun _ _ _ _ _ h => h.elim) (fun v H locs hp hz9 hk9 hS => ?_)
  obtain ⟨rfl, hH9⟩ := hp
  obtain rfl := hH9.symm
  refine W.eq (g2 := F0 m 15 ls [.int (z2 (X 5 0))]) rfl ?_
  refine b_if_lt (tgt := 31) hx hb dL_holds_15 (by decide) ⟨by omega, by omega⟩ (fun c => absurd c (by omega)) (fun _ => ?_)
  refine lv_aload_n hx hb dL_holds_18 rfl (lv_at hl 2 rfl) ?_
  refine g_run (vx_runV (As := []) (rest := []) ⟨hx, hb, hml, hown, hts⟩ (k_faults l D ks bx ml X _ hP hV) (cwV 0 hts gL_holds_X4_faults rfl rfl rfl (by decide +kernel) ⟨Nat.le_of_ble_eq_true rfl, Nat.le_of_ble_eq_true rfl⟩) (g_preV (r := (RX4, TX4, 7)) hG hS rx_ge hP.1 rfl) rfl rfl hl.1 rfl (lv_room (Nat.le_of_ble_eq_true rfl)) dL_holds_19 ⟨Nat.le_of_ble_eq_true rfl, Nat.le_of_ble_eq_true rfl⟩) hS (fun _ h => h) (fun _ _ _ _ _ h => h.elim) (fun v H locs hp hz9 hk9 hS => ?_)
  obtain ⟨rfl, hH9⟩ := hp
  obtain rfl := hH9.symm
  refine W.eq (g2 := F0 m 22 ls [.int (z2 (X 5 0))]) rfl ?_
  refine b_bipush hx hb dL_holds_22 (by decide +kernel) ?_
  refine b_icmp_gt (tgt := 31) hx hb dL_holds_24 (by decide) ⟨⟨by omega, by omega⟩, ⟨by omega, by omega⟩⟩ (fun c => absurd c (by omega)) (fun _ => ?_)
  refine b_iconst hx hb dL_holds_27 ?_
  refine lv_goto (tgt := 32) hx hb dL_holds_28 (by decide) ?_
  refine lv_istore_n (lv' := [(3, .int (z2 (1))), (2, .int (z2 (0))), (1, .int (z2 ((X 6 0) / 1000))), (0, .ref bx)]) hx hb dL_holds_32 rfl hl (by decide) rfl (fun ls hl => ?_)
  refine b_iconst hx hb dL_holds_33 ?_
  refine lv_istore (lv' := [(4, .int (z2 (0))), (3, .int (z2 (1))), (2, .int (z2 (0))), (1, .int (z2 ((X 6 0) / 1000))), (0, .ref bx)]) hx hb dL_holds_34 hl (by decide) rfl (fun ls hl => ?_)
  refine W.widen (k := 0) (n := 0) (by show 0 + 0 + 0 + 0 ≤ 0; omega) (by show 0 + 0 + 0 + 0 ≤ 0; omega) ?_
  refine lp_k (n5) (fun k H locs ls => PX D ks bx ml X H ∧ va_S (AR (RX bx) s.heap.size) s.heap H locs ∧ lv_has ls 6 [(4, .int (z2 (((k : Nat) : Int)))), (3, .int (z2 (1))), (2, .int (z2 (FO X (X 6 0 / 1000) k))), (1, .int (z2 ((X 6 0) / 1000))), (0, .ref bx)]) 0 0 5 30 (fun k H locs ls hkN hI ih => ?_) _ _ _ ⟨hP, hS, lv_sub hl [0, 1, 2, 3, 4] rfl⟩
  obtain ⟨hP, hS, hl⟩ := hI
  refine lv_iload hx hb dL_holds_36 (lv_at hl 0 rfl) ?_
  refine lv_aload_n hx hb dL_holds_38 rfl (lv_at hl 4 rfl) ?_
  refine g_run (vx_runV (As := []) (rest := [.int (z2 (((k : Nat) : Int)))]) ⟨hx, hb, hml, hown, hts⟩ (k_faults l D ks bx ml X _ hP hV) (cwV 0 hts gL_holds_X4_faults rfl rfl rfl (by decide +kernel) ⟨Nat.le_of_ble_eq_true rfl, Nat.le_of_ble_eq_true rfl⟩) (g_preV (r := (RX4, TX4, 7)) hG hS rx_ge hP.1 rfl) rfl rfl hl.1 rfl (lv_room (Nat.le_of_ble_eq_true rfl)) dL_holds_39 ⟨by show (0 + k * 5) + 0 ≤ 600; omega, by show (0 + k * 30) + 0 ≤ 3600; omega⟩) hS (fun _ h => h) (fun _ _ _ _ _ h => h.elim) (fun v H locs hp hz9 hk9 hS => ?_)
  obtain ⟨rfl, hH9⟩ := hp
  obtain rfl := hH9.symm
  refine W.eq (g2 := F0 m 42 ls [.int (z2 (X 5 0)), .int (z2 (((k : Nat) : Int)))]) rfl ?_
  refine b_icmp_ge (tgt := 144) hx hb dL_holds_42 (by decide) ⟨⟨by omega, by omega⟩, ⟨by omega, by omega⟩⟩ (fun c_42 => ?_) (fun c_42 => ?_)
  · skip
    have hkn : n5 = k := by omega
    have bF2 := bF
    rw [hkn] at y5 bF2
    refine b_iconst hx hb dL_holds_144 ?_
    refine lv_istore (lv' := [(4, .int (z2 (0))), (3, .int (z2 (1))), (2, .int (z2 (FO X (X 6 0 / 1000) k))), (1, .int (z2 ((X 6 0) / 1000))), (0, .ref bx)]) hx hb dL_holds_145 hl (by decide) rfl (fun ls hl => ?_)
    refine b_iconst hx hb dL_holds_147 ?_
    refine lv_istore (lv' := [(5, .int (z2 (0))), (4, .int (z2 (0))), (3, .int (z2 (1))), (2, .int (z2 (FO X (X 6 0 / 1000) k))), (1, .int (z2 ((X 6 0) / 1000))), (0, .ref bx)]) hx hb dL_holds_148 hl (by decide) rfl (fun ls hl => ?_)
    refine W.widen (k := 500) (n := 3000) (by show (0 + k * 5) + 0 ≤ 500; omega) (by show (0 + k * 30) + 0 ≤ 3000; omega) ?_
    refine lp_k (8) (fun h H locs ls => PX D ks bx ml X H ∧ va_S (AR (RX bx) s.heap.size) s.heap H locs ∧ lv_has ls 6 [(5, .int (z2 (((h : Nat) : Int)))), (4, .int (z2 (SU X 17 h))), (3, .int (z2 (1))), (2, .int (z2 (FO X (X 6 0 / 1000) k))), (1, .int (z2 ((X 6 0) / 1000))), (0, .ref bx)]) 500 3000 9 54 (fun h H locs ls hkN hI ih => ?_) _ _ _ ⟨hP, hS, lv_sub hl [0, 1, 2, 3, 4, 5] rfl⟩
    obtain ⟨hP, hS, hl⟩ := hI
    have bS := SU_bd (X := X) (fun j hj => by have := y6 j hj; omega) h hkN
    refine lv_iload hx hb dL_holds_150 (lv_at hl 0 rfl) ?_
    refine b_bipush hx hb dL_holds_152 (by decide +kernel) ?_
    refine b_icmp_ge (tgt := 258) hx hb dL_holds_154 (by decide) ⟨⟨by omega, by omega⟩, ⟨by omega, by omega⟩⟩ (fun c_154 => ?_) (fun c_154 => ?_)
    · skip
      have hh : h = 8 := by omega
      rw [← hh] at y5
      refine lv_iload_n hx hb dL_holds_258 rfl (lv_at hl 2 rfl) ?_
      refine b_if_eq (tgt := 279) hx hb dL_holds_259 (by decide) ⟨by omega, by omega⟩ (fun c => absurd c (by omega)) (fun _ => ?_)
      refine lv_iload hx hb dL_holds_262 (lv_at hl 1 rfl) ?_
      refine b_bipush hx hb dL_holds_264 (by decide +kernel) ?_
      refine lv_iload_n hx hb dL_holds_266 rfl (lv_at hl 4 rfl) ?_
      refine b_imul hx hb dL_holds_267 ?_
      refine b_iconst hx hb dL_holds_268 ?_
      refine lv_iload_n hx hb dL_holds_269 rfl (lv_at hl 3 rfl) ?_
      refine b_imul hx hb dL_holds_270 ?_
      refine b_isub hx hb dL_holds_271 ?_
      refine b_icmp_gt (tgt := 279) hx hb dL_holds_272 (by decide) ⟨⟨by omega, by omega⟩, ⟨by omega, by omega⟩⟩ (fun c => absurd c (by omega)) (fun _ => ?_)
      refine b_iconst hx hb dL_holds_275 ?_
      refine lv_goto (tgt := 280) hx hb dL_holds_276 (by decide) ?_
      exact g_zret hx hb hr hlocks hS (by decide +kernel) ⟨by show (500 + h * 9) ≤ 600; omega, by show (3000 + h * 54) ≤ 3600; omega⟩ (⟨rfl, hP⟩) dL_holds_280
    · skip
      have hh8 : h < 8 := by omega
      have f7 := y7 h hh8
      have f6 := y6 h hh8
      have frs : X 14 h = 0 → rsS X h = 0 := fun q => rs_z (fun b hb => y8 h b hh8 hb q)
      have b14 : 0 ≤ X 14 h ∧ X 14 h ≤ 1 := hV.1 14 h rfl
      have brs := rs_b X h
      refine lv_iload_n hx hb dL_holds_157 rfl (lv_at hl 2 rfl) ?_
      refine b_if_eq (tgt := 258) hx hb dL_holds_158 (by decide) ⟨by omega, by omega⟩ (fun c => absurd c (by omega)) (fun _ => ?_)
      refine lv_iload hx hb dL_holds_161 (lv_at hl 1 rfl) ?_
      refine lv_aload_n hx hb dL_holds_163 rfl (lv_at hl 5 rfl) ?_
      refine lv_iload hx hb dL_holds_164 (lv_at hl 0 rfl) ?_
      refine g_run (vx_runV (As := [.int (z2 (((h : Nat) : Int)))]) (rest := [.int (z2 (SU X 17 h))]) ⟨hx, hb, hml, hown, hts⟩ (k_points l D ks bx ml X _ hP hV hst (((h : Nat) : Int)) ⟨by omega, by omega⟩) (cwV 1 hts gL_holds_X4_points rfl rfl rfl (by decide +kernel) ⟨Nat.le_of_ble_eq_true rfl, Nat.le_of_ble_eq_true rfl⟩) (g_preV (r := (RX4, TX4, 7)) hG hS rx_ge hP.1 rfl) rfl rfl hl.1 rfl (lv_room (Nat.le_of_ble_eq_true rfl)) dL_holds_166 ⟨by show (500 + h * 9) + 1 ≤ 600; omega, by show (3000 + h * 54) + 6 ≤ 3600; omega⟩) hS (fun _ h => h) (fun E ce q9 H1 locs1 hp hz9 hk9 hS hce hcv hcl => by obtain ⟨-, e9⟩ := hp; exfalso; have h9 := e9.2; omega) (fun v H locs hp hz9 hk9 hS => ?_)
      obtain ⟨n9, ⟨hn9, hn8⟩, rfl, hH9⟩ := hp
      obtain rfl := hH9.symm
      obtain rfl : h = n9 := by omega
      refine W.eq (g2 := F0 m 169 ls [.int (z2 (X 17 h)), .int (z2 (SU X 17 h))]) rfl ?_
      refine b_iadd hx hb dL_holds_169 ?_
      refine lv_istore (lv' := [(4, .int (z2 ((SU X 17 h) + (X 17 h)))), (5, .int (z2 (((h : Nat) : Int)))), (3, .int (z2 (1))), (2, .int (z2 (FO X (X 6 0 / 1000) k))), (1, .int (z2 ((X 6 0) / 1000))), (0, .ref bx)]) hx hb dL_holds_170 hl (by decide) rfl (fun ls hl => ?_)
      refine lv_aload_n hx hb dL_holds_172 rfl (lv_at hl 5 rfl) ?_
      refine lv_iload hx hb dL_holds_173 (lv_at hl 1 rfl) ?_
      refine g_run (vx_runV (As := [.int (z2 (((h : Nat) : Int)))]) (rest := []) ⟨hx, hb, hml, hown, hts⟩ (k_isSound l D ks bx ml X _ hP hV hst (((h : Nat) : Int)) ⟨by omega, by omega⟩) (cwV 1 hts gL_holds_X4_isSound rfl rfl rfl (by decide +kernel) ⟨Nat.le_of_ble_eq_true rfl, Nat.le_of_ble_eq_true rfl⟩) (g_preV (r := (RX4, TX4, 7)) hG hS rx_ge hP.1 rfl) rfl rfl hl.1 rfl (lv_room (Nat.le_of_ble_eq_true rfl)) dL_holds_175 ⟨by show (500 + h * 9) + 1 + 1 ≤ 600; omega, by show (3000 + h * 54) + 6 + 6 ≤ 3600; omega⟩) hS (fun _ h => h) (fun E ce q9 H1 locs1 hp hz9 hk9 hS hce hcv hcl => by obtain ⟨-, e9⟩ := hp; exfalso; have h9 := e9.2; omega) (fun v H locs hp hz9 hk9 hS => ?_)
      obtain ⟨n9, ⟨hn9, hn8⟩, rfl, hH9⟩ := hp
      obtain rfl := hH9.symm
      obtain rfl : h = n9 := by omega
      refine W.eq (g2 := F0 m 178 ls [.int (z2 (X 14 h))]) rfl ?_
      refine b_if_ne (tgt := 190) hx hb dL_holds_178 (by decide) ⟨by omega, by omega⟩ (fun c_178 => ?_) (fun c_178 => ?_)
      · skip
        refine lv_aload_n hx hb dL_holds_190 rfl (lv_at hl 5 rfl) ?_
        refine lv_iload hx hb dL_holds_191 (lv_at hl 1 rfl) ?_
        refine g_run (vx_runV (As := [.int (z2 (((h : Nat) : Int)))]) (rest := []) ⟨hx, hb, hml, hown, hts⟩ (k_quietBroken l D ks bx ml X _ hP hV hst (((h : Nat) : Int)) ⟨by omega, by omega⟩) (cwV 1 hts gL_holds_X4_quietBroken rfl rfl rfl (by decide +kernel) ⟨Nat.le_of_ble_eq_true rfl, Nat.le_of_ble_eq_true rfl⟩) (g_preV (r := (RX4, TX4, 7)) hG hS rx_ge hP.1 rfl) rfl rfl hl.1 rfl (lv_room (Nat.le_of_ble_eq_true rfl)) dL_holds_193 ⟨by show (500 + h * 9) + 1 + 1 + 1 ≤ 600; omega, by show (3000 + h * 54) + 6 + 6 + 6 ≤ 3600; omega⟩) hS (fun _ h => h) (fun E ce q9 H1 locs1 hp hz9 hk9 hS hce hcv hcl => by obtain ⟨-, e9⟩ := hp; exfalso; have h9 := e9.2; omega) (fun v H locs hp hz9 hk9 hS => ?_)
        obtain ⟨n9, ⟨hn9, hn8⟩, rfl, hH9⟩ := hp
        obtain rfl := hH9.symm
        obtain rfl : h = n9 := by omega
        refine W.eq (g2 := F0 m 196 ls [.int (z2 (X 19 h))]) rfl ?_
        refine b_if_lt (tgt := 250) hx hb dL_holds_196 (by decide) ⟨by omega, by omega⟩ (fun c => absurd c (by omega)) (fun _ => ?_)
        refine lv_aload_n hx hb dL_holds_199 rfl (lv_at hl 5 rfl) ?_
        refine lv_iload hx hb dL_holds_200 (lv_at hl 1 rfl) ?_
        refine g_run (vx_runV (As := [.int (z2 (((h : Nat) : Int)))]) (rest := []) ⟨hx, hb, hml, hown, hts⟩ (k_quietBroken l D ks bx ml X _ hP hV hst (((h : Nat) : Int)) ⟨by omega, by omega⟩) (cwV 1 hts gL_holds_X4_quietBroken rfl rfl rfl (by decide +kernel) ⟨Nat.le_of_ble_eq_true rfl, Nat.le_of_ble_eq_true rfl⟩) (g_preV (r := (RX4, TX4, 7)) hG hS rx_ge hP.1 rfl) rfl rfl hl.1 rfl (lv_room (Nat.le_of_ble_eq_true rfl)) dL_holds_202 ⟨by show (500 + h * 9) + 1 + 1 + 1 + 1 ≤ 600; omega, by show (3000 + h * 54) + 6 + 6 + 6 + 6 ≤ 3600; omega⟩) hS (fun _ h => h) (fun E ce q9 H1 locs1 hp hz9 hk9 hS hce hcv hcl => by obtain ⟨-, e9⟩ := hp; exfalso; have h9 := e9.2; omega) (fun v H locs hp hz9 hk9 hS => ?_)
        obtain ⟨n9, ⟨hn9, hn8⟩, rfl, hH9⟩ := hp
        obtain rfl := hH9.symm
        obtain rfl : h = n9 := by omega
        refine W.eq (g2 := F0 m 205 ls [.int (z2 (X 19 h))]) rfl ?_
        refine lv_aload_n hx hb dL_holds_205 rfl (lv_at hl 5 rfl) ?_
        refine lv_iload hx hb dL_holds_206 (lv_at hl 1 rfl) ?_
        refine g_run (vx_runV (As := [.int (z2 (((h : Nat) : Int)))]) (rest := [.int (z2 (X 19 h))]) ⟨hx, hb, hml, hown, hts⟩ (k_secondsRung l D ks bx ml X _ hP hV hst (((h : Nat) : Int)) ⟨by omega, by omega⟩) (cwV 1 hts gL_holds_X4_secondsRung rfl rfl rfl (by decide +kernel) ⟨Nat.le_of_ble_eq_true rfl, Nat.le_of_ble_eq_true rfl⟩) (g_preV (r := (RX4, TX4, 7)) hG hS rx_ge hP.1 rfl) rfl rfl hl.1 rfl (lv_room (Nat.le_of_ble_eq_true rfl)) dL_holds_208 ⟨by show (500 + h * 9) + 1 + 1 + 1 + 1 + 1 ≤ 600; omega, by show (3000 + h * 54) + 6 + 6 + 6 + 6 + 6 ≤ 3600; omega⟩) hS (fun _ h => h) (fun E ce q9 H1 locs1 hp hz9 hk9 hS hce hcv hcl => by obtain ⟨-, e9⟩ := hp; exfalso; have h9 := e9.2; omega) (fun v H locs hp hz9 hk9 hS => ?_)
        obtain ⟨n9, ⟨hn9, hn8⟩, rfl, hH9⟩ := hp
        obtain rfl := hH9.symm
        obtain rfl : h = n9 := by omega
        refine W.eq (g2 := F0 m 211 ls [.int (z2 (X 18 h)), .int (z2 (X 19 h))]) rfl ?_
        refine b_icmp_gt (tgt := 250) hx hb dL_holds_211 (by decide) ⟨⟨by omega, by omega⟩, ⟨by omega, by omega⟩⟩ (fun c => absurd c (by omega)) (fun _ => ?_)
        refine lv_aload_n hx hb dL_holds_214 rfl (lv_at hl 5 rfl) ?_
        refine lv_iload hx hb dL_holds_215 (lv_at hl 1 rfl) ?_
        refine g_run (vx_runV (As := [.int (z2 (((h : Nat) : Int)))]) (rest := []) ⟨hx, hb, hml, hown, hts⟩ (k_secondsRung l D ks bx ml X _ hP hV hst (((h : Nat) : Int)) ⟨by omega, by omega⟩) (cwV 1 hts gL_holds_X4_secondsRung rfl rfl rfl (by decide +kernel) ⟨Nat.le_of_ble_eq_true rfl, Nat.le_of_ble_eq_true rfl⟩) (g_preV (r := (RX4, TX4, 7)) hG hS rx_ge hP.1 rfl) rfl rfl hl.1 rfl (lv_room (Nat.le_of_ble_eq_true rfl)) dL_holds_217 ⟨by show (500 + h * 9) + 1 + 1 + 1 + 1 + 1 + 1 ≤ 600; omega, by show (3000 + h * 54) + 6 + 6 + 6 + 6 + 6 + 6 ≤ 3600; omega⟩) hS (fun _ h => h) (fun E ce q9 H1 locs1 hp hz9 hk9 hS hce hcv hcl => by obtain ⟨-, e9⟩ := hp; exfalso; have h9 := e9.2; omega) (fun v H locs hp hz9 hk9 hS => ?_)
        obtain ⟨n9, ⟨hn9, hn8⟩, rfl, hH9⟩ := hp
        obtain rfl := hH9.symm
        obtain rfl : h = n9 := by omega
        refine W.eq (g2 := F0 m 220 ls [.int (z2 (X 18 h))]) rfl ?_
        refine lv_aload_n hx hb dL_holds_220 rfl (lv_at hl 5 rfl) ?_
        refine g_run (vx_runV (As := []) (rest := [.int (z2 (X 18 h))]) ⟨hx, hb, hml, hown, hts⟩ (k_time l D ks bx ml X _ hP hV) (cwV 0 hts gL_holds_X4_time rfl rfl rfl (by decide +kernel) ⟨Nat.le_of_ble_eq_true rfl, Nat.le_of_ble_eq_true rfl⟩) (g_preV (r := (RX4, TX4, 7)) hG hS rx_ge hP.1 rfl) rfl rfl hl.1 rfl (lv_room (Nat.le_of_ble_eq_true rfl)) dL_holds_221 ⟨by show (500 + h * 9) + 1 + 1 + 1 + 1 + 1 + 1 + 0 ≤ 600; omega, by show (3000 + h * 54) + 6 + 6 + 6 + 6 + 6 + 6 + 0 ≤ 3600; omega⟩) hS (fun _ h => h) (fun _ _ _ _ _ h => h.elim) (fun v H locs hp hz9 hk9 hS => ?_)
        obtain ⟨rfl, hH9⟩ := hp
        obtain rfl := hH9.symm
        refine W.eq (g2 := F0 m 224 ls [.int (z2 (X 6 0)), .int (z2 (X 18 h))]) rfl ?_
        refine b_icmp_gt (tgt := 250) hx hb dL_holds_224 (by decide) ⟨⟨by omega, by omega⟩, ⟨by omega, by omega⟩⟩ (fun c => absurd c (by omega)) (fun _ => ?_)
        refine lv_aload_n hx hb dL_holds_227 rfl (lv_at hl 5 rfl) ?_
        refine lv_iload hx hb dL_holds_228 (lv_at hl 1 rfl) ?_
        refine g_run (vx_runV (As := [.int (z2 (((h : Nat) : Int)))]) (rest := []) ⟨hx, hb, hml, hown, hts⟩ (k_points l D ks bx ml X _ hP hV hst (((h : Nat) : Int)) ⟨by omega, by omega⟩) (cwV 1 hts gL_holds_X4_points rfl rfl rfl (by decide +kernel) ⟨Nat.le_of_ble_eq_true rfl, Nat.le_of_ble_eq_true rfl⟩) (g_preV (r := (RX4, TX4, 7)) hG hS rx_ge hP.1 rfl) rfl rfl hl.1 rfl (lv_room (Nat.le_of_ble_eq_true rfl)) dL_holds_230 ⟨by show (500 + h * 9) + 1 + 1 + 1 + 1 + 1 + 1 + 0 + 1 ≤ 600; omega, by show (3000 + h * 54) + 6 + 6 + 6 + 6 + 6 + 6 + 0 + 6 ≤ 3600; omega⟩) hS (fun _ h => h) (fun E ce q9 H1 locs1 hp hz9 hk9 hS hce hcv hcl => by obtain ⟨-, e9⟩ := hp; exfalso; have h9 := e9.2; omega) (fun v H locs hp hz9 hk9 hS => ?_)
        obtain ⟨n9, ⟨hn9, hn8⟩, rfl, hH9⟩ := hp
        obtain rfl := hH9.symm
        obtain rfl : h = n9 := by omega
        refine W.eq (g2 := F0 m 233 ls [.int (z2 (X 17 h))]) rfl ?_
        refine lv_iload_n hx hb dL_holds_233 rfl (lv_at hl 4 rfl) ?_
        refine b_icmp_gt (tgt := 250) hx hb dL_holds_234 (by decide) ⟨⟨by omega, by omega⟩, ⟨by omega, by omega⟩⟩ (fun c => absurd c (by omega)) (fun _ => ?_)
        refine lv_aload_n hx hb dL_holds_237 rfl (lv_at hl 5 rfl) ?_
        refine lv_iload hx hb dL_holds_238 (lv_at hl 1 rfl) ?_
        refine g_run (vx_runV (As := [.int (z2 (((h : Nat) : Int)))]) (rest := []) ⟨hx, hb, hml, hown, hts⟩ (k_hushed l D ks bx ml X _ hP hV hst (((h : Nat) : Int)) ⟨by omega, by omega⟩) (cwV 1 hts gL_holds_X4_hushed rfl rfl rfl (by decide +kernel) ⟨Nat.le_of_ble_eq_true rfl, Nat.le_of_ble_eq_true rfl⟩) (g_preV (r := (RX4, TX4, 7)) hG hS rx_ge hP.1 rfl) rfl rfl hl.1 rfl (lv_room (Nat.le_of_ble_eq_true rfl)) dL_holds_240 ⟨by show (500 + h * 9) + 1 + 1 + 1 + 1 + 1 + 1 + 0 + 1 + 1 ≤ 600; omega, by show (3000 + h * 54) + 6 + 6 + 6 + 6 + 6 + 6 + 0 + 6 + 6 ≤ 3600; omega⟩) hS (fun _ h => h) (fun E ce q9 H1 locs1 hp hz9 hk9 hS hce hcv hcl => by obtain ⟨-, e9⟩ := hp; exfalso; have h9 := e9.2; omega) (fun v H locs hp hz9 hk9 hS => ?_)
        obtain ⟨n9, ⟨hn9, hn8⟩, rfl, hH9⟩ := hp
        obtain rfl := hH9.symm
        obtain rfl : h = n9 := by omega
        refine W.eq (g2 := F0 m 243 ls [.int (z2 (X 20 h))]) rfl ?_
        refine b_if_lt (tgt := 250) hx hb dL_holds_243 (by decide) ⟨by omega, by omega⟩ (fun c => absurd c (by omega)) (fun _ => ?_)
        refine b_iconst hx hb dL_holds_246 ?_
        refine lv_goto (tgt := 251) hx hb dL_holds_247 (by decide) ?_
        refine lv_istore_n (lv' := [(3, .int (z2 (1))), (4, .int (z2 ((SU X 17 h) + (X 17 h)))), (5, .int (z2 (((h : Nat) : Int)))), (2, .int (z2 (FO X (X 6 0 / 1000) k))), (1, .int (z2 ((X 6 0) / 1000))), (0, .ref bx)]) hx hb dL_holds_251 rfl hl (by decide) rfl (fun ls hl => ?_)
        refine b_iinc (lv' := [(5, .int (z2 (((h : Nat) : Int) + 1))), (3, .int (z2 (1))), (4, .int (z2 ((SU X 17 h) + (X 17 h)))), (2, .int (z2 (FO X (X 6 0 / 1000) k))), (1, .int (z2 ((X 6 0) / 1000))), (0, .ref bx)]) hx hb dL_holds_252 hl (k := 2) rfl (by decide) rfl (fun ls hl => ?_)
        refine lv_goto (tgt := 150) hx hb dL_holds_255 (by decide) ?_
        refine W.widen (k := 500 + h * 9 + 9) (n := 3000 + h * 54 + 54) (by show (500 + h * 9) + 1 + 1 + 1 + 1 + 1 + 1 + 0 + 1 + 1 ≤ 500 + h * 9 + 9; omega) (by show (3000 + h * 54) + 6 + 6 + 6 + 6 + 6 + 6 + 0 + 6 + 6 ≤ 3000 + h * 54 + 54; omega) ?_
        exact ih (by omega) _ _ _ ⟨hP, hS, by rw [show SU X 17 (h + 1) = SU X 17 h + X 17 h from rfl]; exact lv_sub hl [0, 2, 1, 3, 4, 5] rfl⟩
      · skip
        refine lv_aload_n hx hb dL_holds_181 rfl (lv_at hl 5 rfl) ?_
        refine lv_iload hx hb dL_holds_182 (lv_at hl 1 rfl) ?_
        refine g_run (vx_runV (As := [.int (z2 (((h : Nat) : Int)))]) (rest := []) ⟨hx, hb, hml, hown, hts⟩ (k_ringing l D ks bx ml X _ hP hV hst (((h : Nat) : Int)) ⟨by omega, by omega⟩) (cwV 1 hts gL_holds_X4_ringing rfl rfl rfl (by decide +kernel) ⟨Nat.le_of_ble_eq_true rfl, Nat.le_of_ble_eq_true rfl⟩) (g_preV (r := (RX4, TX4, 7)) hG hS rx_ge hP.1 rfl) rfl rfl hl.1 rfl (lv_room (Nat.le_of_ble_eq_true rfl)) dL_holds_184 ⟨by show (500 + h * 9) + 1 + 1 + 1 ≤ 600; omega, by show (3000 + h * 54) + 6 + 6 + 6 ≤ 3600; omega⟩) hS (fun _ h => h) (fun E ce q9 H1 locs1 hp hz9 hk9 hS hce hcv hcl => by obtain ⟨-, e9⟩ := hp; exfalso; have h9 := e9.2; omega) (fun v H locs hp hz9 hk9 hS => ?_)
        obtain ⟨n9, ⟨hn9, hn8⟩, rfl, hH9⟩ := hp
        obtain rfl := hH9.symm
        obtain rfl : h = n9 := by omega
        refine W.eq (g2 := F0 m 187 ls [.int (z2 (rsS X h))]) rfl ?_
        refine b_if_ne (tgt := 250) hx hb dL_holds_187 (by decide) ⟨by omega, by omega⟩ (fun c => absurd c (by have := frs c_178; omega)) (fun _ => ?_)
        refine lv_aload_n hx hb dL_holds_190 rfl (lv_at hl 5 rfl) ?_
        refine lv_iload hx hb dL_holds_191 (lv_at hl 1 rfl) ?_
        refine g_run (vx_runV (As := [.int (z2 (((h : Nat) : Int)))]) (rest := []) ⟨hx, hb, hml, hown, hts⟩ (k_quietBroken l D ks bx ml X _ hP hV hst (((h : Nat) : Int)) ⟨by omega, by omega⟩) (cwV 1 hts gL_holds_X4_quietBroken rfl rfl rfl (by decide +kernel) ⟨Nat.le_of_ble_eq_true rfl, Nat.le_of_ble_eq_true rfl⟩) (g_preV (r := (RX4, TX4, 7)) hG hS rx_ge hP.1 rfl) rfl rfl hl.1 rfl (lv_room (Nat.le_of_ble_eq_true rfl)) dL_holds_193 ⟨by show (500 + h * 9) + 1 + 1 + 1 + 1 ≤ 600; omega, by show (3000 + h * 54) + 6 + 6 + 6 + 6 ≤ 3600; omega⟩) hS (fun _ h => h) (fun E ce q9 H1 locs1 hp hz9 hk9 hS hce hcv hcl => by obtain ⟨-, e9⟩ := hp; exfalso; have h9 := e9.2; omega) (fun v H locs hp hz9 hk9 hS => ?_)
        obtain ⟨n9, ⟨hn9, hn8⟩, rfl, hH9⟩ := hp
        obtain rfl := hH9.symm
        obtain rfl : h = n9 := by omega
        refine W.eq (g2 := F0 m 196 ls [.int (z2 (X 19 h))]) rfl ?_
        refine b_if_lt (tgt := 250) hx hb dL_holds_196 (by decide) ⟨by omega, by omega⟩ (fun c => absurd c (by omega)) (fun _ => ?_)
        refine lv_aload_n hx hb dL_holds_199 rfl (lv_at hl 5 rfl) ?_
        refine lv_iload hx hb dL_holds_200 (lv_at hl 1 rfl) ?_
        refine g_run (vx_runV (As := [.int (z2 (((h : Nat) : Int)))]) (rest := []) ⟨hx, hb, hml, hown, hts⟩ (k_quietBroken l D ks bx ml X _ hP hV hst (((h : Nat) : Int)) ⟨by omega, by omega⟩) (cwV 1 hts gL_holds_X4_quietBroken rfl rfl rfl (by decide +kernel) ⟨Nat.le_of_ble_eq_true rfl, Nat.le_of_ble_eq_true rfl⟩) (g_preV (r := (RX4, TX4, 7)) hG hS rx_ge hP.1 rfl) rfl rfl hl.1 rfl (lv_room (Nat.le_of_ble_eq_true rfl)) dL_holds_202 ⟨by show (500 + h * 9) + 1 + 1 + 1 + 1 + 1 ≤ 600; omega, by show (3000 + h * 54) + 6 + 6 + 6 + 6 + 6 ≤ 3600; omega⟩) hS (fun _ h => h) (fun E ce q9 H1 locs1 hp hz9 hk9 hS hce hcv hcl => by obtain ⟨-, e9⟩ := hp; exfalso; have h9 := e9.2; omega) (fun v H locs hp hz9 hk9 hS => ?_)
        obtain ⟨n9, ⟨hn9, hn8⟩, rfl, hH9⟩ := hp
        obtain rfl := hH9.symm
        obtain rfl : h = n9 := by omega
        refine W.eq (g2 := F0 m 205 ls [.int (z2 (X 19 h))]) rfl ?_
        refine lv_aload_n hx hb dL_holds_205 rfl (lv_at hl 5 rfl) ?_
        refine lv_iload hx hb dL_holds_206 (lv_at hl 1 rfl) ?_
        refine g_run (vx_runV (As := [.int (z2 (((h : Nat) : Int)))]) (rest := [.int (z2 (X 19 h))]) ⟨hx, hb, hml, hown, hts⟩ (k_secondsRung l D ks bx ml X _ hP hV hst (((h : Nat) : Int)) ⟨by omega, by omega⟩) (cwV 1 hts gL_holds_X4_secondsRung rfl rfl rfl (by decide +kernel) ⟨Nat.le_of_ble_eq_true rfl, Nat.le_of_ble_eq_true rfl⟩) (g_preV (r := (RX4, TX4, 7)) hG hS rx_ge hP.1 rfl) rfl rfl hl.1 rfl (lv_room (Nat.le_of_ble_eq_true rfl)) dL_holds_208 ⟨by show (500 + h * 9) + 1 + 1 + 1 + 1 + 1 + 1 ≤ 600; omega, by show (3000 + h * 54) + 6 + 6 + 6 + 6 + 6 + 6 ≤ 3600; omega⟩) hS (fun _ h => h) (fun E ce q9 H1 locs1 hp hz9 hk9 hS hce hcv hcl => by obtain ⟨-, e9⟩ := hp; exfalso; have h9 := e9.2; omega) (fun v H locs hp hz9 hk9 hS => ?_)
        obtain ⟨n9, ⟨hn9, hn8⟩, rfl, hH9⟩ := hp
        obtain rfl := hH9.symm
        obtain rfl : h = n9 := by omega
        refine W.eq (g2 := F0 m 211 ls [.int (z2 (X 18 h)), .int (z2 (X 19 h))]) rfl ?_
        refine b_icmp_gt (tgt := 250) hx hb dL_holds_211 (by decide) ⟨⟨by omega, by omega⟩, ⟨by omega, by omega⟩⟩ (fun c => absurd c (by omega)) (fun _ => ?_)
        refine lv_aload_n hx hb dL_holds_214 rfl (lv_at hl 5 rfl) ?_
        refine lv_iload hx hb dL_holds_215 (lv_at hl 1 rfl) ?_
        refine g_run (vx_runV (As := [.int (z2 (((h : Nat) : Int)))]) (rest := []) ⟨hx, hb, hml, hown, hts⟩ (k_secondsRung l D ks bx ml X _ hP hV hst (((h : Nat) : Int)) ⟨by omega, by omega⟩) (cwV 1 hts gL_holds_X4_secondsRung rfl rfl rfl (by decide +kernel) ⟨Nat.le_of_ble_eq_true rfl, Nat.le_of_ble_eq_true rfl⟩) (g_preV (r := (RX4, TX4, 7)) hG hS rx_ge hP.1 rfl) rfl rfl hl.1 rfl (lv_room (Nat.le_of_ble_eq_true rfl)) dL_holds_217 ⟨by show (500 + h * 9) + 1 + 1 + 1 + 1 + 1 + 1 + 1 ≤ 600; omega, by show (3000 + h * 54) + 6 + 6 + 6 + 6 + 6 + 6 + 6 ≤ 3600; omega⟩) hS (fun _ h => h) (fun E ce q9 H1 locs1 hp hz9 hk9 hS hce hcv hcl => by obtain ⟨-, e9⟩ := hp; exfalso; have h9 := e9.2; omega) (fun v H locs hp hz9 hk9 hS => ?_)
        obtain ⟨n9, ⟨hn9, hn8⟩, rfl, hH9⟩ := hp
        obtain rfl := hH9.symm
        obtain rfl : h = n9 := by omega
        refine W.eq (g2 := F0 m 220 ls [.int (z2 (X 18 h))]) rfl ?_
        refine lv_aload_n hx hb dL_holds_220 rfl (lv_at hl 5 rfl) ?_
        refine g_run (vx_runV (As := []) (rest := [.int (z2 (X 18 h))]) ⟨hx, hb, hml, hown, hts⟩ (k_time l D ks bx ml X _ hP hV) (cwV 0 hts gL_holds_X4_time rfl rfl rfl (by decide +kernel) ⟨Nat.le_of_ble_eq_true rfl, Nat.le_of_ble_eq_true rfl⟩) (g_preV (r := (RX4, TX4, 7)) hG hS rx_ge hP.1 rfl) rfl rfl hl.1 rfl (lv_room (Nat.le_of_ble_eq_true rfl)) dL_holds_221 ⟨by show (500 + h * 9) + 1 + 1 + 1 + 1 + 1 + 1 + 1 + 0 ≤ 600; omega, by show (3000 + h * 54) + 6 + 6 + 6 + 6 + 6 + 6 + 6 + 0 ≤ 3600; omega⟩) hS (fun _ h => h) (fun _ _ _ _ _ h => h.elim) (fun v H locs hp hz9 hk9 hS => ?_)
        obtain ⟨rfl, hH9⟩ := hp
        obtain rfl := hH9.symm
        refine W.eq (g2 := F0 m 224 ls [.int (z2 (X 6 0)), .int (z2 (X 18 h))]) rfl ?_
        refine b_icmp_gt (tgt := 250) hx hb dL_holds_224 (by decide) ⟨⟨by omega, by omega⟩, ⟨by omega, by omega⟩⟩ (fun c => absurd c (by omega)) (fun _ => ?_)
        refine lv_aload_n hx hb dL_holds_227 rfl (lv_at hl 5 rfl) ?_
        refine lv_iload hx hb dL_holds_228 (lv_at hl 1 rfl) ?_
        refine g_run (vx_runV (As := [.int (z2 (((h : Nat) : Int)))]) (rest := []) ⟨hx, hb, hml, hown, hts⟩ (k_points l D ks bx ml X _ hP hV hst (((h : Nat) : Int)) ⟨by omega, by omega⟩) (cwV 1 hts gL_holds_X4_points rfl rfl rfl (by decide +kernel) ⟨Nat.le_of_ble_eq_true rfl, Nat.le_of_ble_eq_true rfl⟩) (g_preV (r := (RX4, TX4, 7)) hG hS rx_ge hP.1 rfl) rfl rfl hl.1 rfl (lv_room (Nat.le_of_ble_eq_true rfl)) dL_holds_230 ⟨by show (500 + h * 9) + 1 + 1 + 1 + 1 + 1 + 1 + 1 + 0 + 1 ≤ 600; omega, by show (3000 + h * 54) + 6 + 6 + 6 + 6 + 6 + 6 + 6 + 0 + 6 ≤ 3600; omega⟩) hS (fun _ h => h) (fun E ce q9 H1 locs1 hp hz9 hk9 hS hce hcv hcl => by obtain ⟨-, e9⟩ := hp; exfalso; have h9 := e9.2; omega) (fun v H locs hp hz9 hk9 hS => ?_)
        obtain ⟨n9, ⟨hn9, hn8⟩, rfl, hH9⟩ := hp
        obtain rfl := hH9.symm
        obtain rfl : h = n9 := by omega
        refine W.eq (g2 := F0 m 233 ls [.int (z2 (X 17 h))]) rfl ?_
        refine lv_iload_n hx hb dL_holds_233 rfl (lv_at hl 4 rfl) ?_
        refine b_icmp_gt (tgt := 250) hx hb dL_holds_234 (by decide) ⟨⟨by omega, by omega⟩, ⟨by omega, by omega⟩⟩ (fun c => absurd c (by omega)) (fun _ => ?_)
        refine lv_aload_n hx hb dL_holds_237 rfl (lv_at hl 5 rfl) ?_
        refine lv_iload hx hb dL_holds_238 (lv_at hl 1 rfl) ?_
        refine g_run (vx_runV (As := [.int (z2 (((h : Nat) : Int)))]) (rest := []) ⟨hx, hb, hml, hown, hts⟩ (k_hushed l D ks bx ml X _ hP hV hst (((h : Nat) : Int)) ⟨by omega, by omega⟩) (cwV 1 hts gL_holds_X4_hushed rfl rfl rfl (by decide +kernel) ⟨Nat.le_of_ble_eq_true rfl, Nat.le_of_ble_eq_true rfl⟩) (g_preV (r := (RX4, TX4, 7)) hG hS rx_ge hP.1 rfl) rfl rfl hl.1 rfl (lv_room (Nat.le_of_ble_eq_true rfl)) dL_holds_240 ⟨by show (500 + h * 9) + 1 + 1 + 1 + 1 + 1 + 1 + 1 + 0 + 1 + 1 ≤ 600; omega, by show (3000 + h * 54) + 6 + 6 + 6 + 6 + 6 + 6 + 6 + 0 + 6 + 6 ≤ 3600; omega⟩) hS (fun _ h => h) (fun E ce q9 H1 locs1 hp hz9 hk9 hS hce hcv hcl => by obtain ⟨-, e9⟩ := hp; exfalso; have h9 := e9.2; omega) (fun v H locs hp hz9 hk9 hS => ?_)
        obtain ⟨n9, ⟨hn9, hn8⟩, rfl, hH9⟩ := hp
        obtain rfl := hH9.symm
        obtain rfl : h = n9 := by omega
        refine W.eq (g2 := F0 m 243 ls [.int (z2 (X 20 h))]) rfl ?_
        refine b_if_lt (tgt := 250) hx hb dL_holds_243 (by decide) ⟨by omega, by omega⟩ (fun c => absurd c (by omega)) (fun _ => ?_)
        refine b_iconst hx hb dL_holds_246 ?_
        refine lv_goto (tgt := 251) hx hb dL_holds_247 (by decide) ?_
        refine lv_istore_n (lv' := [(3, .int (z2 (1))), (4, .int (z2 ((SU X 17 h) + (X 17 h)))), (5, .int (z2 (((h : Nat) : Int)))), (2, .int (z2 (FO X (X 6 0 / 1000) k))), (1, .int (z2 ((X 6 0) / 1000))), (0, .ref bx)]) hx hb dL_holds_251 rfl hl (by decide) rfl (fun ls hl => ?_)
        refine b_iinc (lv' := [(5, .int (z2 (((h : Nat) : Int) + 1))), (3, .int (z2 (1))), (4, .int (z2 ((SU X 17 h) + (X 17 h)))), (2, .int (z2 (FO X (X 6 0 / 1000) k))), (1, .int (z2 ((X 6 0) / 1000))), (0, .ref bx)]) hx hb dL_holds_252 hl (k := 2) rfl (by decide) rfl (fun ls hl => ?_)
        refine lv_goto (tgt := 150) hx hb dL_holds_255 (by decide) ?_
        refine W.widen (k := 500 + h * 9 + 9) (n := 3000 + h * 54 + 54) (by show (500 + h * 9) + 1 + 1 + 1 + 1 + 1 + 1 + 1 + 0 + 1 + 1 ≤ 500 + h * 9 + 9; omega) (by show (3000 + h * 54) + 6 + 6 + 6 + 6 + 6 + 6 + 6 + 0 + 6 + 6 ≤ 3000 + h * 54 + 54; omega) ?_
        exact ih (by omega) _ _ _ ⟨hP, hS, by rw [show SU X 17 (h + 1) = SU X 17 h + X 17 h from rfl]; exact lv_sub hl [0, 2, 1, 3, 4, 5] rfl⟩
  · skip
    refine lv_iload_n hx hb dL_holds_45 rfl (lv_at hl 1 rfl) ?_
    refine b_if_eq (tgt := 144) hx hb dL_holds_46 (by decide) ⟨by omega, by omega⟩ (fun c => absurd c (by omega)) (fun _ => ?_)
    have f1 := y1 k c_42
    have bFk := FO_b X (X 6 0 / 1000) k
    refine lv_iload_n hx hb dL_holds_49 rfl (lv_at hl 2 rfl) ?_
    refine lv_aload_n hx hb dL_holds_50 rfl (lv_at hl 4 rfl) ?_
    refine lv_iload hx hb dL_holds_51 (lv_at hl 0 rfl) ?_
    refine g_run (vx_runV (As := [.int (z2 (((k : Nat) : Int)))]) (rest := [.int (z2 (FO X (X 6 0 / 1000) k))]) ⟨hx, hb, hml, hown, hts⟩ (k_faultAt l D ks bx ml X _ hP hV hst (((k : Nat) : Int)) ⟨by omega, by omega⟩) (cwV 1 hts gL_holds_X4_faultAt rfl rfl rfl (by decide +kernel) ⟨Nat.le_of_ble_eq_true rfl, Nat.le_of_ble_eq_true rfl⟩) (g_preV (r := (RX4, TX4, 7)) hG hS rx_ge hP.1 rfl) rfl rfl hl.1 rfl (lv_room (Nat.le_of_ble_eq_true rfl)) dL_holds_53 ⟨by show (0 + k * 5) + 0 + 1 ≤ 600; omega, by show (0 + k * 30) + 0 + 6 ≤ 3600; omega⟩) hS (fun _ h => h) (fun E ce q9 H1 locs1 hp hz9 hk9 hS hce hcv hcl => by obtain ⟨-, e9⟩ := hp; exfalso; have h9 := e9.2; omega) (fun v H locs hp hz9 hk9 hS => ?_)
    obtain ⟨-, rfl, hH9⟩ := hp
    obtain rfl := hH9.symm
    refine W.eq (g2 := F0 m 56 ls [.int (z2 (X 7 k)), .int (z2 (FO X (X 6 0 / 1000) k))]) rfl ?_
    refine b_bipush hx hb dL_holds_56 (by decide +kernel) ?_
    refine b_idiv hx hb ⟨⟨by omega, by omega⟩, by omega, by omega⟩ dL_holds_58 ?_
    refine b_sipush hx hb dL_holds_59 (by decide +kernel) ?_
    refine lv_iload_n hx hb dL_holds_62 rfl (lv_at hl 3 rfl) ?_
    refine b_imul hx hb dL_holds_63 ?_
    refine b_icmp_ge (tgt := 71) hx hb dL_holds_64 (by decide) ⟨⟨by omega, by omega⟩, ⟨by omega, by omega⟩⟩ (fun c_64 => ?_) (fun c_64 => ?_)
    · skip
      refine b_iconst hx hb dL_holds_71 ?_
      refine b_iadd hx hb dL_holds_72 ?_
      refine lv_istore_n (lv' := [(2, .int (z2 ((FO X (X 6 0 / 1000) k) + 0))), (4, .int (z2 (((k : Nat) : Int)))), (3, .int (z2 (1))), (1, .int (z2 ((X 6 0) / 1000))), (0, .ref bx)]) hx hb dL_holds_73 rfl hl (by decide) rfl (fun ls hl => ?_)
      refine lv_aload_n hx hb dL_holds_74 rfl (lv_at hl 4 rfl) ?_
      refine lv_iload hx hb dL_holds_75 (lv_at hl 1 rfl) ?_
      refine g_run (vx_runV (As := [.int (z2 (((k : Nat) : Int)))]) (rest := []) ⟨hx, hb, hml, hown, hts⟩ (k_faultAt l D ks bx ml X _ hP hV hst (((k : Nat) : Int)) ⟨by omega, by omega⟩) (cwV 1 hts gL_holds_X4_faultAt rfl rfl rfl (by decide +kernel) ⟨Nat.le_of_ble_eq_true rfl, Nat.le_of_ble_eq_true rfl⟩) (g_preV (r := (RX4, TX4, 7)) hG hS rx_ge hP.1 rfl) rfl rfl hl.1 rfl (lv_room (Nat.le_of_ble_eq_true rfl)) dL_holds_77 ⟨by show (0 + k * 5) + 0 + 1 + 1 ≤ 600; omega, by show (0 + k * 30) + 0 + 6 + 6 ≤ 3600; omega⟩) hS (fun _ h => h) (fun E ce q9 H1 locs1 hp hz9 hk9 hS hce hcv hcl => by obtain ⟨-, e9⟩ := hp; exfalso; have h9 := e9.2; omega) (fun v H locs hp hz9 hk9 hS => ?_)
      obtain ⟨-, rfl, hH9⟩ := hp
      obtain rfl := hH9.symm
      refine W.eq (g2 := F0 m 80 ls [.int (z2 (X 7 k))]) rfl ?_
      refine b_bipush hx hb dL_holds_80 (by decide +kernel) ?_
      refine b_irem hx hb ⟨⟨by omega, by omega⟩, by omega, by omega⟩ dL_holds_82 ?_
      refine b_bipush hx hb dL_holds_83 (by decide +kernel) ?_
      refine b_icmp_ge (tgt := 136) hx hb dL_holds_85 (by decide) ⟨⟨by omega, by omega⟩, ⟨by omega, by omega⟩⟩ (fun c => absurd c (by omega)) (fun _ => ?_)
      refine lv_aload_n hx hb dL_holds_88 rfl (lv_at hl 4 rfl) ?_
      refine lv_iload hx hb dL_holds_89 (lv_at hl 1 rfl) ?_
      refine g_run (vx_runV (As := [.int (z2 (((k : Nat) : Int)))]) (rest := []) ⟨hx, hb, hml, hown, hts⟩ (k_faultAt l D ks bx ml X _ hP hV hst (((k : Nat) : Int)) ⟨by omega, by omega⟩) (cwV 1 hts gL_holds_X4_faultAt rfl rfl rfl (by decide +kernel) ⟨Nat.le_of_ble_eq_true rfl, Nat.le_of_ble_eq_true rfl⟩) (g_preV (r := (RX4, TX4, 7)) hG hS rx_ge hP.1 rfl) rfl rfl hl.1 rfl (lv_room (Nat.le_of_ble_eq_true rfl)) dL_holds_91 ⟨by show (0 + k * 5) + 0 + 1 + 1 + 1 ≤ 600; omega, by show (0 + k * 30) + 0 + 6 + 6 + 6 ≤ 3600; omega⟩) hS (fun _ h => h) (fun E ce q9 H1 locs1 hp hz9 hk9 hS hce hcv hcl => by obtain ⟨-, e9⟩ := hp; exfalso; have h9 := e9.2; omega) (fun v H locs hp hz9 hk9 hS => ?_)
      obtain ⟨-, rfl, hH9⟩ := hp
      obtain rfl := hH9.symm
      refine W.eq (g2 := F0 m 94 ls [.int (z2 (X 7 k))]) rfl ?_
      refine b_bipush hx hb dL_holds_94 (by decide +kernel) ?_
      refine b_idiv hx hb ⟨⟨by omega, by omega⟩, by omega, by omega⟩ dL_holds_96 ?_
      refine lv_aload_n hx hb dL_holds_97 rfl (lv_at hl 4 rfl) ?_
      refine g_run (vx_runV (As := []) (rest := [.int (z2 ((X 7 k) / 10))]) ⟨hx, hb, hml, hown, hts⟩ (k_time l D ks bx ml X _ hP hV) (cwV 0 hts gL_holds_X4_time rfl rfl rfl (by decide +kernel) ⟨Nat.le_of_ble_eq_true rfl, Nat.le_of_ble_eq_true rfl⟩) (g_preV (r := (RX4, TX4, 7)) hG hS rx_ge hP.1 rfl) rfl rfl hl.1 rfl (lv_room (Nat.le_of_ble_eq_true rfl)) dL_holds_98 ⟨by show (0 + k * 5) + 0 + 1 + 1 + 1 + 0 ≤ 600; omega, by show (0 + k * 30) + 0 + 6 + 6 + 6 + 0 ≤ 3600; omega⟩) hS (fun _ h => h) (fun _ _ _ _ _ h => h.elim) (fun v H locs hp hz9 hk9 hS => ?_)
      obtain ⟨rfl, hH9⟩ := hp
      obtain rfl := hH9.symm
      refine W.eq (g2 := F0 m 101 ls [.int (z2 (X 6 0)), .int (z2 ((X 7 k) / 10))]) rfl ?_
      refine b_icmp_gt (tgt := 136) hx hb dL_holds_101 (by decide) ⟨⟨by omega, by omega⟩, ⟨by omega, by omega⟩⟩ (fun c => absurd c (by omega)) (fun _ => ?_)
      refine lv_iload hx hb dL_holds_104 (lv_at hl 1 rfl) ?_
      refine b_if_eq (tgt := 132) hx hb dL_holds_106 (by decide) ⟨by omega, by omega⟩ (fun c_106 => ?_) (fun c_106 => ?_)
      · skip
        refine b_iconst hx hb dL_holds_132 ?_
        refine lv_goto (tgt := 137) hx hb dL_holds_133 (by decide) ?_
        refine lv_istore_n (lv' := [(3, .int (z2 (1))), (2, .int (z2 ((FO X (X 6 0 / 1000) k) + 0))), (4, .int (z2 (((k : Nat) : Int)))), (1, .int (z2 ((X 6 0) / 1000))), (0, .ref bx)]) hx hb dL_holds_137 rfl hl (by decide) rfl (fun ls hl => ?_)
        refine b_iinc (lv' := [(4, .int (z2 (((k : Nat) : Int) + 1))), (3, .int (z2 (1))), (2, .int (z2 ((FO X (X 6 0 / 1000) k) + 0))), (1, .int (z2 ((X 6 0) / 1000))), (0, .ref bx)]) hx hb dL_holds_138 hl (k := 2) rfl (by decide) rfl (fun ls hl => ?_)
        refine lv_goto (tgt := 36) hx hb dL_holds_141 (by decide) ?_
        refine W.widen (k := 0 + k * 5 + 5) (n := 0 + k * 30 + 30) (by show (0 + k * 5) + 0 + 1 + 1 + 1 + 0 ≤ 0 + k * 5 + 5; omega) (by show (0 + k * 30) + 0 + 6 + 6 + 6 + 0 ≤ 0 + k * 30 + 30; omega) ?_
        exact ih (by omega) _ _ _ ⟨hP, hS, by rw [show FO X (X 6 0 / 1000) (k + 1) = FO X (X 6 0 / 1000) k + 0 from by rw [FO, if_neg (by omega)]]; exact lv_sub hl [0, 1, 2, 3, 4] rfl⟩
      · skip
        obtain ⟨j, hj⟩ : ∃ j : Nat, k = j + 1 := ⟨k - 1, by omega⟩
        have f2 := y2 j (by omega)
        rw [← hj] at f2
        have f3 := y1 j (by omega)
        refine lv_aload_n hx hb dL_holds_109 rfl (lv_at hl 4 rfl) ?_
        refine lv_iload hx hb dL_holds_110 (lv_at hl 1 rfl) ?_
        refine b_iconst hx hb dL_holds_112 ?_
        refine b_isub hx hb dL_holds_113 ?_
        refine g_run (vx_runV (As := [.int (z2 (((k : Nat) : Int) - 1))]) (rest := []) ⟨hx, hb, hml, hown, hts⟩ (k_faultAt l D ks bx ml X _ hP hV hst (((k : Nat) : Int) - 1) ⟨by omega, by omega⟩) (cwV 1 hts gL_holds_X4_faultAt rfl rfl rfl (by decide +kernel) ⟨Nat.le_of_ble_eq_true rfl, Nat.le_of_ble_eq_true rfl⟩) (g_preV (r := (RX4, TX4, 7)) hG hS rx_ge hP.1 rfl) rfl rfl hl.1 rfl (lv_room (Nat.le_of_ble_eq_true rfl)) dL_holds_114 ⟨by show (0 + k * 5) + 0 + 1 + 1 + 1 + 0 + 1 ≤ 600; omega, by show (0 + k * 30) + 0 + 6 + 6 + 6 + 0 + 6 ≤ 3600; omega⟩) hS (fun _ h => h) (fun E ce q9 H1 locs1 hp hz9 hk9 hS hce hcv hcl => by obtain ⟨-, e9⟩ := hp; exfalso; have h9 := e9.2; omega) (fun v H locs hp hz9 hk9 hS => ?_)
        obtain ⟨-, rfl, hH9⟩ := hp
        obtain rfl := hH9.symm
        rw [show (((k : Nat) : Int) - 1).toNat = j by omega]
        refine W.eq (g2 := F0 m 117 ls [.int (z2 (X 7 j))]) rfl ?_
        refine b_bipush hx hb dL_holds_117 (by decide +kernel) ?_
        refine b_idiv hx hb ⟨⟨by omega, by omega⟩, by omega, by omega⟩ dL_holds_119 ?_
        refine lv_aload_n hx hb dL_holds_120 rfl (lv_at hl 4 rfl) ?_
        refine lv_iload hx hb dL_holds_121 (lv_at hl 1 rfl) ?_
        refine g_run (vx_runV (As := [.int (z2 (((k : Nat) : Int)))]) (rest := [.int (z2 ((X 7 j) / 10))]) ⟨hx, hb, hml, hown, hts⟩ (k_faultAt l D ks bx ml X _ hP hV hst (((k : Nat) : Int)) ⟨by omega, by omega⟩) (cwV 1 hts gL_holds_X4_faultAt rfl rfl rfl (by decide +kernel) ⟨Nat.le_of_ble_eq_true rfl, Nat.le_of_ble_eq_true rfl⟩) (g_preV (r := (RX4, TX4, 7)) hG hS rx_ge hP.1 rfl) rfl rfl hl.1 rfl (lv_room (Nat.le_of_ble_eq_true rfl)) dL_holds_123 ⟨by show (0 + k * 5) + 0 + 1 + 1 + 1 + 0 + 1 + 1 ≤ 600; omega, by show (0 + k * 30) + 0 + 6 + 6 + 6 + 0 + 6 + 6 ≤ 3600; omega⟩) hS (fun _ h => h) (fun E ce q9 H1 locs1 hp hz9 hk9 hS hce hcv hcl => by obtain ⟨-, e9⟩ := hp; exfalso; have h9 := e9.2; omega) (fun v H locs hp hz9 hk9 hS => ?_)
        obtain ⟨-, rfl, hH9⟩ := hp
        obtain rfl := hH9.symm
        refine W.eq (g2 := F0 m 126 ls [.int (z2 (X 7 k)), .int (z2 ((X 7 j) / 10))]) rfl ?_
        refine b_bipush hx hb dL_holds_126 (by decide +kernel) ?_
        refine b_idiv hx hb ⟨⟨by omega, by omega⟩, by omega, by omega⟩ dL_holds_128 ?_
        refine b_icmp_gt (tgt := 136) hx hb dL_holds_129 (by decide) ⟨⟨by omega, by omega⟩, ⟨by omega, by omega⟩⟩ (fun c => absurd c (by omega)) (fun _ => ?_)
        refine b_iconst hx hb dL_holds_132 ?_
        refine lv_goto (tgt := 137) hx hb dL_holds_133 (by decide) ?_
        refine lv_istore_n (lv' := [(3, .int (z2 (1))), (2, .int (z2 ((FO X (X 6 0 / 1000) k) + 0))), (4, .int (z2 (((k : Nat) : Int)))), (1, .int (z2 ((X 6 0) / 1000))), (0, .ref bx)]) hx hb dL_holds_137 rfl hl (by decide) rfl (fun ls hl => ?_)
        refine b_iinc (lv' := [(4, .int (z2 (((k : Nat) : Int) + 1))), (3, .int (z2 (1))), (2, .int (z2 ((FO X (X 6 0 / 1000) k) + 0))), (1, .int (z2 ((X 6 0) / 1000))), (0, .ref bx)]) hx hb dL_holds_138 hl (k := 2) rfl (by decide) rfl (fun ls hl => ?_)
        refine lv_goto (tgt := 36) hx hb dL_holds_141 (by decide) ?_
        refine W.widen (k := 0 + k * 5 + 5) (n := 0 + k * 30 + 30) (by show (0 + k * 5) + 0 + 1 + 1 + 1 + 0 + 1 + 1 ≤ 0 + k * 5 + 5; omega) (by show (0 + k * 30) + 0 + 6 + 6 + 6 + 0 + 6 + 6 ≤ 0 + k * 30 + 30; omega) ?_
        exact ih (by omega) _ _ _ ⟨hP, hS, by rw [show FO X (X 6 0 / 1000) (k + 1) = FO X (X 6 0 / 1000) k + 0 from by rw [FO, if_neg (by omega)]]; exact lv_sub hl [0, 1, 2, 3, 4] rfl⟩
    · skip
      refine b_iconst hx hb dL_holds_67 ?_
      refine lv_goto (tgt := 72) hx hb dL_holds_68 (by decide) ?_
      refine b_iadd hx hb dL_holds_72 ?_
      refine lv_istore_n (lv' := [(2, .int (z2 ((FO X (X 6 0 / 1000) k) + 1))), (4, .int (z2 (((k : Nat) : Int)))), (3, .int (z2 (1))), (1, .int (z2 ((X 6 0) / 1000))), (0, .ref bx)]) hx hb dL_holds_73 rfl hl (by decide) rfl (fun ls hl => ?_)
      refine lv_aload_n hx hb dL_holds_74 rfl (lv_at hl 4 rfl) ?_
      refine lv_iload hx hb dL_holds_75 (lv_at hl 1 rfl) ?_
      refine g_run (vx_runV (As := [.int (z2 (((k : Nat) : Int)))]) (rest := []) ⟨hx, hb, hml, hown, hts⟩ (k_faultAt l D ks bx ml X _ hP hV hst (((k : Nat) : Int)) ⟨by omega, by omega⟩) (cwV 1 hts gL_holds_X4_faultAt rfl rfl rfl (by decide +kernel) ⟨Nat.le_of_ble_eq_true rfl, Nat.le_of_ble_eq_true rfl⟩) (g_preV (r := (RX4, TX4, 7)) hG hS rx_ge hP.1 rfl) rfl rfl hl.1 rfl (lv_room (Nat.le_of_ble_eq_true rfl)) dL_holds_77 ⟨by show (0 + k * 5) + 0 + 1 + 1 ≤ 600; omega, by show (0 + k * 30) + 0 + 6 + 6 ≤ 3600; omega⟩) hS (fun _ h => h) (fun E ce q9 H1 locs1 hp hz9 hk9 hS hce hcv hcl => by obtain ⟨-, e9⟩ := hp; exfalso; have h9 := e9.2; omega) (fun v H locs hp hz9 hk9 hS => ?_)
      obtain ⟨-, rfl, hH9⟩ := hp
      obtain rfl := hH9.symm
      refine W.eq (g2 := F0 m 80 ls [.int (z2 (X 7 k))]) rfl ?_
      refine b_bipush hx hb dL_holds_80 (by decide +kernel) ?_
      refine b_irem hx hb ⟨⟨by omega, by omega⟩, by omega, by omega⟩ dL_holds_82 ?_
      refine b_bipush hx hb dL_holds_83 (by decide +kernel) ?_
      refine b_icmp_ge (tgt := 136) hx hb dL_holds_85 (by decide) ⟨⟨by omega, by omega⟩, ⟨by omega, by omega⟩⟩ (fun c => absurd c (by omega)) (fun _ => ?_)
      refine lv_aload_n hx hb dL_holds_88 rfl (lv_at hl 4 rfl) ?_
      refine lv_iload hx hb dL_holds_89 (lv_at hl 1 rfl) ?_
      refine g_run (vx_runV (As := [.int (z2 (((k : Nat) : Int)))]) (rest := []) ⟨hx, hb, hml, hown, hts⟩ (k_faultAt l D ks bx ml X _ hP hV hst (((k : Nat) : Int)) ⟨by omega, by omega⟩) (cwV 1 hts gL_holds_X4_faultAt rfl rfl rfl (by decide +kernel) ⟨Nat.le_of_ble_eq_true rfl, Nat.le_of_ble_eq_true rfl⟩) (g_preV (r := (RX4, TX4, 7)) hG hS rx_ge hP.1 rfl) rfl rfl hl.1 rfl (lv_room (Nat.le_of_ble_eq_true rfl)) dL_holds_91 ⟨by show (0 + k * 5) + 0 + 1 + 1 + 1 ≤ 600; omega, by show (0 + k * 30) + 0 + 6 + 6 + 6 ≤ 3600; omega⟩) hS (fun _ h => h) (fun E ce q9 H1 locs1 hp hz9 hk9 hS hce hcv hcl => by obtain ⟨-, e9⟩ := hp; exfalso; have h9 := e9.2; omega) (fun v H locs hp hz9 hk9 hS => ?_)
      obtain ⟨-, rfl, hH9⟩ := hp
      obtain rfl := hH9.symm
      refine W.eq (g2 := F0 m 94 ls [.int (z2 (X 7 k))]) rfl ?_
      refine b_bipush hx hb dL_holds_94 (by decide +kernel) ?_
      refine b_idiv hx hb ⟨⟨by omega, by omega⟩, by omega, by omega⟩ dL_holds_96 ?_
      refine lv_aload_n hx hb dL_holds_97 rfl (lv_at hl 4 rfl) ?_
      refine g_run (vx_runV (As := []) (rest := [.int (z2 ((X 7 k) / 10))]) ⟨hx, hb, hml, hown, hts⟩ (k_time l D ks bx ml X _ hP hV) (cwV 0 hts gL_holds_X4_time rfl rfl rfl (by decide +kernel) ⟨Nat.le_of_ble_eq_true rfl, Nat.le_of_ble_eq_true rfl⟩) (g_preV (r := (RX4, TX4, 7)) hG hS rx_ge hP.1 rfl) rfl rfl hl.1 rfl (lv_room (Nat.le_of_ble_eq_true rfl)) dL_holds_98 ⟨by show (0 + k * 5) + 0 + 1 + 1 + 1 + 0 ≤ 600; omega, by show (0 + k * 30) + 0 + 6 + 6 + 6 + 0 ≤ 3600; omega⟩) hS (fun _ h => h) (fun _ _ _ _ _ h => h.elim) (fun v H locs hp hz9 hk9 hS => ?_)
      obtain ⟨rfl, hH9⟩ := hp
      obtain rfl := hH9.symm
      refine W.eq (g2 := F0 m 101 ls [.int (z2 (X 6 0)), .int (z2 ((X 7 k) / 10))]) rfl ?_
      refine b_icmp_gt (tgt := 136) hx hb dL_holds_101 (by decide) ⟨⟨by omega, by omega⟩, ⟨by omega, by omega⟩⟩ (fun c => absurd c (by omega)) (fun _ => ?_)
      refine lv_iload hx hb dL_holds_104 (lv_at hl 1 rfl) ?_
      refine b_if_eq (tgt := 132) hx hb dL_holds_106 (by decide) ⟨by omega, by omega⟩ (fun c_106 => ?_) (fun c_106 => ?_)
      · skip
        refine b_iconst hx hb dL_holds_132 ?_
        refine lv_goto (tgt := 137) hx hb dL_holds_133 (by decide) ?_
        refine lv_istore_n (lv' := [(3, .int (z2 (1))), (2, .int (z2 ((FO X (X 6 0 / 1000) k) + 1))), (4, .int (z2 (((k : Nat) : Int)))), (1, .int (z2 ((X 6 0) / 1000))), (0, .ref bx)]) hx hb dL_holds_137 rfl hl (by decide) rfl (fun ls hl => ?_)
        refine b_iinc (lv' := [(4, .int (z2 (((k : Nat) : Int) + 1))), (3, .int (z2 (1))), (2, .int (z2 ((FO X (X 6 0 / 1000) k) + 1))), (1, .int (z2 ((X 6 0) / 1000))), (0, .ref bx)]) hx hb dL_holds_138 hl (k := 2) rfl (by decide) rfl (fun ls hl => ?_)
        refine lv_goto (tgt := 36) hx hb dL_holds_141 (by decide) ?_
        refine W.widen (k := 0 + k * 5 + 5) (n := 0 + k * 30 + 30) (by show (0 + k * 5) + 0 + 1 + 1 + 1 + 0 ≤ 0 + k * 5 + 5; omega) (by show (0 + k * 30) + 0 + 6 + 6 + 6 + 0 ≤ 0 + k * 30 + 30; omega) ?_
        exact ih (by omega) _ _ _ ⟨hP, hS, by rw [show FO X (X 6 0 / 1000) (k + 1) = FO X (X 6 0 / 1000) k + 1 from by rw [FO, if_pos c_64]]; exact lv_sub hl [0, 1, 2, 3, 4] rfl⟩
      · skip
        obtain ⟨j, hj⟩ : ∃ j : Nat, k = j + 1 := ⟨k - 1, by omega⟩
        have f2 := y2 j (by omega)
        rw [← hj] at f2
        have f3 := y1 j (by omega)
        refine lv_aload_n hx hb dL_holds_109 rfl (lv_at hl 4 rfl) ?_
        refine lv_iload hx hb dL_holds_110 (lv_at hl 1 rfl) ?_
        refine b_iconst hx hb dL_holds_112 ?_
        refine b_isub hx hb dL_holds_113 ?_
        refine g_run (vx_runV (As := [.int (z2 (((k : Nat) : Int) - 1))]) (rest := []) ⟨hx, hb, hml, hown, hts⟩ (k_faultAt l D ks bx ml X _ hP hV hst (((k : Nat) : Int) - 1) ⟨by omega, by omega⟩) (cwV 1 hts gL_holds_X4_faultAt rfl rfl rfl (by decide +kernel) ⟨Nat.le_of_ble_eq_true rfl, Nat.le_of_ble_eq_true rfl⟩) (g_preV (r := (RX4, TX4, 7)) hG hS rx_ge hP.1 rfl) rfl rfl hl.1 rfl (lv_room (Nat.le_of_ble_eq_true rfl)) dL_holds_114 ⟨by show (0 + k * 5) + 0 + 1 + 1 + 1 + 0 + 1 ≤ 600; omega, by show (0 + k * 30) + 0 + 6 + 6 + 6 + 0 + 6 ≤ 3600; omega⟩) hS (fun _ h => h) (fun E ce q9 H1 locs1 hp hz9 hk9 hS hce hcv hcl => by obtain ⟨-, e9⟩ := hp; exfalso; have h9 := e9.2; omega) (fun v H locs hp hz9 hk9 hS => ?_)
        obtain ⟨-, rfl, hH9⟩ := hp
        obtain rfl := hH9.symm
        rw [show (((k : Nat) : Int) - 1).toNat = j by omega]
        refine W.eq (g2 := F0 m 117 ls [.int (z2 (X 7 j))]) rfl ?_
        refine b_bipush hx hb dL_holds_117 (by decide +kernel) ?_
        refine b_idiv hx hb ⟨⟨by omega, by omega⟩, by omega, by omega⟩ dL_holds_119 ?_
        refine lv_aload_n hx hb dL_holds_120 rfl (lv_at hl 4 rfl) ?_
        refine lv_iload hx hb dL_holds_121 (lv_at hl 1 rfl) ?_
        refine g_run (vx_runV (As := [.int (z2 (((k : Nat) : Int)))]) (rest := [.int (z2 ((X 7 j) / 10))]) ⟨hx, hb, hml, hown, hts⟩ (k_faultAt l D ks bx ml X _ hP hV hst (((k : Nat) : Int)) ⟨by omega, by omega⟩) (cwV 1 hts gL_holds_X4_faultAt rfl rfl rfl (by decide +kernel) ⟨Nat.le_of_ble_eq_true rfl, Nat.le_of_ble_eq_true rfl⟩) (g_preV (r := (RX4, TX4, 7)) hG hS rx_ge hP.1 rfl) rfl rfl hl.1 rfl (lv_room (Nat.le_of_ble_eq_true rfl)) dL_holds_123 ⟨by show (0 + k * 5) + 0 + 1 + 1 + 1 + 0 + 1 + 1 ≤ 600; omega, by show (0 + k * 30) + 0 + 6 + 6 + 6 + 0 + 6 + 6 ≤ 3600; omega⟩) hS (fun _ h => h) (fun E ce q9 H1 locs1 hp hz9 hk9 hS hce hcv hcl => by obtain ⟨-, e9⟩ := hp; exfalso; have h9 := e9.2; omega) (fun v H locs hp hz9 hk9 hS => ?_)
        obtain ⟨-, rfl, hH9⟩ := hp
        obtain rfl := hH9.symm
        refine W.eq (g2 := F0 m 126 ls [.int (z2 (X 7 k)), .int (z2 ((X 7 j) / 10))]) rfl ?_
        refine b_bipush hx hb dL_holds_126 (by decide +kernel) ?_
        refine b_idiv hx hb ⟨⟨by omega, by omega⟩, by omega, by omega⟩ dL_holds_128 ?_
        refine b_icmp_gt (tgt := 136) hx hb dL_holds_129 (by decide) ⟨⟨by omega, by omega⟩, ⟨by omega, by omega⟩⟩ (fun c => absurd c (by omega)) (fun _ => ?_)
        refine b_iconst hx hb dL_holds_132 ?_
        refine lv_goto (tgt := 137) hx hb dL_holds_133 (by decide) ?_
        refine lv_istore_n (lv' := [(3, .int (z2 (1))), (2, .int (z2 ((FO X (X 6 0 / 1000) k) + 1))), (4, .int (z2 (((k : Nat) : Int)))), (1, .int (z2 ((X 6 0) / 1000))), (0, .ref bx)]) hx hb dL_holds_137 rfl hl (by decide) rfl (fun ls hl => ?_)
        refine b_iinc (lv' := [(4, .int (z2 (((k : Nat) : Int) + 1))), (3, .int (z2 (1))), (2, .int (z2 ((FO X (X 6 0 / 1000) k) + 1))), (1, .int (z2 ((X 6 0) / 1000))), (0, .ref bx)]) hx hb dL_holds_138 hl (k := 2) rfl (by decide) rfl (fun ls hl => ?_)
        refine lv_goto (tgt := 36) hx hb dL_holds_141 (by decide) ?_
        refine W.widen (k := 0 + k * 5 + 5) (n := 0 + k * 30 + 30) (by show (0 + k * 5) + 0 + 1 + 1 + 1 + 0 + 1 + 1 ≤ 0 + k * 5 + 5; omega) (by show (0 + k * 30) + 0 + 6 + 6 + 6 + 0 + 6 + 6 ≤ 0 + k * 30 + 30; omega) ?_
        exact ih (by omega) _ _ _ ⟨hP, hS, by rw [show FO X (X 6 0 / 1000) (k + 1) = FO X (X 6 0 / 1000) k + 1 from by rw [FO, if_pos c_64]]; exact lv_sub hl [0, 1, 2, 3, 4] rfl⟩
