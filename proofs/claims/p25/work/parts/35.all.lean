/-! THE LAW's start -/
theorem px_new {D : va_G} {ks : Nat → ClassId} {bx : Nat} {ml : Nat → Nat} {H : Heap} (h : BB D ks bx H) : PX D ks bx ml X0 H := by
  obtain ⟨p1, p2, p3, p4, p5, p6, p7⟩ := h
  refine ⟨p1, p2, p3, qa_cong p4 (fun j hj => if_neg (by show ¬ ((j : Nat) : Int) < 0; omega)), p5, fun h hh => ⟨(p6 h hh).1, (p6 h hh).2.1, (p6 h hh).2.2.1⟩, fun h b hh hb => ?_, fun k hk => p7 k hk, fun k hk => ?_⟩
  · rcases b with _ | _ | _ | b
    · exact (p6 h hh).2.2.2.1
    · exact (p6 h hh).2.2.2.2.1
    · exact (p6 h hh).2.2.2.2.2
    · omega
  · have : ((k : Nat) : Int) < 0 := hk
    omega
theorem dfX4 : ∀ j, j < 7 → defaultValue (tyX4 j) = vp_V [.null, .null, .null, .null, .int (z2 0), .int (z2 0), .int (z2 0)] j := fun j hj => by
  rcases j with _ | _ | _ | _ | _ | _ | _ | j <;> first | rfl | exact df0 | omega
set_option maxHeartbeats 4000000 in
set_option maxRecDepth 100000 in
theorem law_all {p : Program} {e : Env} {s : State} {m : MethodId} {below : List Frame} {meth : Method} {c : Code} (l : Launch) (hst : l.stackTraces = false) {sb nL : Nat} {xs : Nat → Int32} (hnL : nL ≤ 260) (C0 : lw_At p s m meth c sb nL xs) : W p l e room_1 s m #[Value.ref sb] below meth c s.heap [] 0 0 (lw_Z below #[Value.ref sb] s) (entryFrame m ([Value.ref sb] : List Value).toArray 15) := by
  obtain ⟨hx, hb, hr, hml, hown, hts0, hX, hbl, hlocks, hgv⟩ := id C0
  have hb : c.code = cL_law := hb
  have hown : s.vm.findClass RL = some m.cls := hown
  obtain ⟨D, ks, hG⟩ := ge_start hts0 hgv
  have hts : ∀ w ∈ wsL_law, w.before #[Value.ref sb] s = true := fun w h => hts0 w (wsL_law_in w h)
  have hS : va_S (AR (RC s.heap.size) s.heap.size) s.heap s.heap [] := va_S.rf
  have hl := lv_entry ([.ref sb]) (n := 15) (Nat.le_of_ble_eq_true rfl)
  rw [lg_entry_eq]
  generalize (lg_sl ([.ref sb]) ++ List.replicate (15 - (lg_sl ([.ref sb])).length) Slot.unset).toArray = ls at hl ⊢
  have hl : lv_has ls 15 [(0, .ref sb)] := hl
  refine g_new (C := RX4) (T := TX4) (N := 7) (fs := [.null, .null, .null, .null, .int (z2 0), .int (z2 0), .int (z2 0)]) hx hb hts inlX4 tyX4 tyX4_ok hown (by decide +kernel) (by decide +kernel) (by decide +kernel) hG hS (ci := 4) rfl dfX4 ⟨Nat.le_of_ble_eq_true rfl, Nat.le_of_ble_eq_true rfl⟩ dL_law_0 (fun H hc z1 o1 hS => ?_)
  refine lv_dup hx hb dL_law_3 rfl ?_
  refine g_run (vx_runI (As := []) (rest := [.ref s.heap.size]) ⟨hx, hb, hml, hown, hts⟩ (k_X4init l D ks s.heap.size _ hc z1) (cwI 0 hts gL_law_X4_init rfl rfl rfl (hts (.initialized RX4) (by decide +kernel)) (hts (.methodLink RL 89 yX4_init) (by decide +kernel)) (hts (.instanceMethod yX4_init) (by decide +kernel)) rfl (by decide +kernel) ⟨Nat.le_of_ble_eq_true rfl, Nat.le_of_ble_eq_true rfl⟩) (g_preS hG hS (fun _ h => h)) rfl rfl hl.1 rfl (lv_room (Nat.le_of_ble_eq_true rfl)) dL_law_4 ⟨Nat.le_of_ble_eq_true rfl, Nat.le_of_ble_eq_true rfl⟩) hS (fun _ h => h) (fun _ _ _ _ _ h => h.elim) (fun v H locs hp hz9 hk9 hS => ?_)
  obtain ⟨rfl, hs1, hBB⟩ := hp
  have hP : PX D ks s.heap.size (fun k => s.heap.size + 55) X0 H := px_new hBB
  refine W.eq (g2 := F0 m 7 ls [.ref s.heap.size]) rfl ?_
  refine lv_astore_n (lv' := [(1, .ref s.heap.size), (0, .ref sb)]) hx hb dL_law_7 rfl hl (by decide) rfl (fun ls hl => ?_)
  refine W.widen (k := 100) (n := 1000) (Nat.le_of_ble_eq_true rfl) (Nat.le_of_ble_eq_true rfl) ?_
  refine b_iconst hx hb dL_law_8 ?_
  refine lv_istore_n (lv' := [(2, .int (z2 (0))), (1, .ref s.heap.size), (0, .ref sb)]) hx hb dL_law_9 rfl hl (by decide) rfl (fun ls hl => ?_)
  refine lv_aload_n hx hb dL_law_10 rfl (lv_at hl 1 rfl) ?_
  refine g_run (vx_runS (As := [.ref s.heap.size]) (rest := []) ⟨hx, hb, hml, hown, hts⟩ (w_holds l D ks s.heap.size _ X0 _ hP lv_new.1 hst (0) (by omega) lv_new.2.2) (cwS 1 hts gL_law_L_holds rfl rfl rfl (by decide +kernel) ⟨Nat.le_of_ble_eq_true rfl, Nat.le_of_ble_eq_true rfl⟩) (g_preS hG hS (fun _ h => h)) rfl rfl hl.1 rfl (lv_room (Nat.le_of_ble_eq_true rfl)) dL_law_11 ⟨Nat.le_of_ble_eq_true rfl, Nat.le_of_ble_eq_true rfl⟩) hS (fun q h => rx_ge q h) (fun _ _ _ _ _ h => h.elim) (fun v H locs hp hz9 hk9 hS => ?_)
  obtain ⟨rfl, hP9⟩ := hp
  have hP := hP9
  refine W.eq (g2 := F0 m 14 ls [.int (z2 (1))]) rfl ?_
  refine b_if_eq (tgt := 28) hx hb dL_law_14 (by decide) ⟨by omega, by omega⟩ (fun c => absurd c (by omega)) (fun _ => ?_)
  refine lv_aload_n hx hb dL_law_17 rfl (lv_at hl 1 rfl) ?_
  refine g_run (vx_runV (As := []) (rest := []) ⟨hx, hb, hml, hown, hts⟩ (k_time l D ks s.heap.size _ X0 _ hP lv_new.1) (cwV 0 hts gL_law_X4_time rfl rfl rfl (by decide +kernel) ⟨Nat.le_of_ble_eq_true rfl, Nat.le_of_ble_eq_true rfl⟩) (g_preV (r := (RX4, TX4, 7)) hG hS (fun _ h => h) hP.1 rfl) rfl rfl hl.1 rfl (lv_room (Nat.le_of_ble_eq_true rfl)) dL_law_18 ⟨Nat.le_of_ble_eq_true rfl, Nat.le_of_ble_eq_true rfl⟩) hS (fun q h => rx_ge q h) (fun _ _ _ _ _ h => h.elim) (fun v H locs hp hz9 hk9 hS => ?_)
  obtain ⟨rfl, hH9⟩ := hp
  obtain rfl := hH9.symm
  refine W.eq (g2 := F0 m 21 ls [.int (z2 (0))]) rfl ?_
  refine W.eq (g2 := F0 m 21 ls [.int (z2 (0))]) rfl ?_
  refine b_if_ne (tgt := 28) hx hb dL_law_21 (by decide) ⟨by omega, by omega⟩ (fun c => absurd c (by omega)) (fun _ => ?_)
  refine b_iconst hx hb dL_law_24 ?_
  refine lv_goto (tgt := 29) hx hb dL_law_25 (by decide) ?_
  refine lv_istore_n (lv' := [(3, .int (z2 (1))), (2, .int (z2 (0))), (1, .ref s.heap.size), (0, .ref sb)]) hx hb dL_law_29 rfl hl (by decide) rfl (fun ls hl => ?_)
  refine b_bipush hx hb dL_law_30 (by decide +kernel) ?_
  refine lv_aload_n hx hb dL_law_32 rfl (lv_at hl 3 rfl) ?_
  refine b_iconst hx hb dL_law_33 ?_
  refine b_top (v := ((0 : Nat) : Int)) (congrArg z2 (by omega)) ?_
  refine g_run (vx_runS (As := [.ref sb, .int (z2 ((0 : Nat) : Int))]) (rest := [.int (z2 (6))]) ⟨hx, hb, hml, hown, hts⟩ (w_cell l D ks s.heap.size sb nL xs _ (0) (by omega) hnL hbl (Nat.lt_of_lt_of_le hbl hS.1)) (cwS 2 hts gL_law_L_cell rfl rfl rfl (by decide +kernel) ⟨Nat.le_of_ble_eq_true rfl, Nat.le_of_ble_eq_true rfl⟩) (g_preX hG hS (fun _ h => h) hX hbl hbl) rfl rfl hl.1 rfl (lv_room (Nat.le_of_ble_eq_true rfl)) dL_law_34 ⟨Nat.le_of_ble_eq_true rfl, Nat.le_of_ble_eq_true rfl⟩) hS (fun q h => rx_ge q h) (fun _ _ _ _ _ h => h.elim) (fun v H locs hp hz9 hk9 hS => ?_)
  obtain ⟨rfl, hH9⟩ := hp
  obtain rfl := hH9.symm
  obtain ⟨v, hv, ev⟩ := z2_ex (cellS nL xs (0))
  rw [ev]
  refine W.eq (g2 := F0 m 37 ls [.int (z2 (v)), .int (z2 (6))]) rfl ?_
  refine b_bipush hx hb dL_law_37 (by decide +kernel) ?_
  refine g_run (vx_runS (As := [.int (z2 (v)), .int (z2 (50))]) (rest := [.int (z2 (6))]) ⟨hx, hb, hml, hown, hts⟩ (w_low l D ks s.heap.size _ (v) (50) ⟨by omega, by omega⟩ ⟨by omega, by omega⟩) (cwS 2 hts gL_law_L_low rfl rfl rfl (by decide +kernel) ⟨Nat.le_of_ble_eq_true rfl, Nat.le_of_ble_eq_true rfl⟩) (g_preS hG hS (fun _ h => h)) rfl rfl hl.1 rfl (lv_room (Nat.le_of_ble_eq_true rfl)) dL_law_39 ⟨Nat.le_of_ble_eq_true rfl, Nat.le_of_ble_eq_true rfl⟩) hS (fun q h => rx_ge q h) (fun _ _ _ _ _ h => h.elim) (fun v H locs hp hz9 hk9 hS => ?_)
  obtain ⟨rfl, hH9⟩ := hp
  obtain rfl := hH9.symm
  obtain ⟨x39, hx39, ex39⟩ : ∃ z : Int, (0 ≤ z ∧ z < (50)) ∧ z = (v) % 2147483648 % (50) := ⟨_, ⟨Int.emod_nonneg _ (by omega), Int.emod_lt_of_pos _ (by omega)⟩, rfl⟩
  rw [← ex39]
  refine W.eq (g2 := F0 m 42 ls [.int (z2 (x39)), .int (z2 (6))]) rfl ?_
  refine b_iadd hx hb dL_law_42 ?_
  obtain ⟨tn, htn⟩ : ∃ tn : Nat, 6 + x39 = ((tn : Nat) : Int) := ⟨(6 + x39).toNat, by omega⟩
  refine b_top (v := ((tn : Nat) : Int)) (congrArg z2 htn) ?_
  refine lv_istore (lv' := [(4, .int (z2 (((tn : Nat) : Int)))), (3, .int (z2 (1))), (2, .int (z2 (0))), (1, .ref s.heap.size), (0, .ref sb)]) hx hb dL_law_43 hl (by decide) rfl (fun ls hl => ?_)
  refine b_iconst hx hb dL_law_45 ?_
  refine lv_istore (lv' := [(5, .int (z2 (0))), (4, .int (z2 (((tn : Nat) : Int)))), (3, .int (z2 (1))), (2, .int (z2 (0))), (1, .ref s.heap.size), (0, .ref sb)]) hx hb dL_law_46 hl (by decide) rfl (fun ls hl => ?_)
  refine W.widen (k := 1000) (n := 8000) (by show 100 + 600 + 0 + 0 + 0 ≤ 1000; omega) (by show 1000 + 3600 + 0 + 0 + 0 ≤ 8000; omega) ?_
  exact lp_k tn (LI D ks sb s tn) 1000 8000 800 5000 (fun q H locs ls hq hI ih => law_round l hst hx hb hr hlocks hml hown hts hX hbl hG hnL (by omega) q H locs ls hq hI ih) _ _ _ ⟨_, X0, lv_new, hP, hS, lv_sub hl [5, 4, 3, 2, 1, 0] rfl⟩
