/-! THE LAW's start -/
theorem dfX4 : ∀ j, j < 7 → defaultValue (tyX4 j) = vp_V [.null, .null, .null, .null, .int (z2 0), .int (z2 0), .int (z2 0)] j := fun j hj => by
  rcases j with _ | _ | _ | _ | _ | _ | _ | j <;> first | rfl | exact df0 | omega
theorem dfX5 : ∀ j, j < 23 → defaultValue (tyX5 j) = vp_V [.int (z2 0), .int (z2 0), .null, .null, .null, .null, .null, .null, .null, .null, .null, .null, .null, .null, .null, .null, .null, .null, .null, .null, .int (z2 0), .null, .int (z2 0)] j := fun j hj => by
  rcases j with _ | _ | _ | _ | _ | _ | _ | _ | _ | _ | _ | _ | _ | _ | _ | _ | _ | _ | _ | _ | _ | _ | _ | j <;> first | rfl | exact df0 | omega
set_option maxHeartbeats 4000000 in
set_option maxRecDepth 100000 in
theorem law_all {p : Program} {e : Env} {s : State} {m : MethodId} {below : List Frame} {meth : Method} {c : Code} (l : Launch) (hst : l.stackTraces = false) {b L : Nat} {xs : Nat → Int32} (hL : L ≤ 2560) (C0 : lw_At p s m meth c b L xs) : W p l e room_1 s m #[Value.ref b] below meth c s.heap [] 0 0 (lw_Z below #[Value.ref b] s) (entryFrame m ([Value.ref b] : List Value).toArray 8) := by
  obtain ⟨hx, hb, hr, hml, hown, hts0, hX, hbl, hlocks, hgv⟩ := id C0
  have hb : c.code = cL_law := hb
  have hown : s.vm.findClass RL = some m.cls := hown
  obtain ⟨D, ks, hG⟩ := ge_start hts0 hgv
  have hts : ∀ w ∈ wsL_law, w.before #[Value.ref b] s = true := fun w h => hts0 w (wsL_law_in w h)
  have hS : va_S (AR (RC s.heap.size) s.heap.size) s.heap s.heap [] := va_S.rf
  have hl := lv_entry ([.ref b]) (n := 8) (Nat.le_of_ble_eq_true rfl)
  rw [lg_entry_eq]
  generalize (lg_sl ([.ref b]) ++ List.replicate (8 - (lg_sl ([.ref b])).length) Slot.unset).toArray = ls at hl ⊢
  have hl : lv_has ls 8 [(0, .ref b)] := hl
  refine g_new (C := RX4) (T := TX4) (N := 7) (fs := [.null, .null, .null, .null, .int (z2 0), .int (z2 0), .int (z2 0)]) hx hb hts inlX4 tyX4 tyX4_ok hown (by decide +kernel) (by decide +kernel) (by decide +kernel) hG hS (ci := 4) rfl dfX4 ⟨Nat.le_of_ble_eq_true rfl, Nat.le_of_ble_eq_true rfl⟩ dL_law_0 (fun H hc z1 o1 hS => ?_)
  refine lv_dup hx hb dL_law_3 rfl ?_
  refine g_run (vx_runI (As := []) (rest := [.ref s.heap.size]) ⟨hx, hb, hml, hown, hts⟩ (k_X4init l D ks s.heap.size _ hc z1) (cwI 0 hts gL_law_X4_init rfl rfl rfl (hts (.initialized RX4) (by decide +kernel)) (hts (.methodLink RL 85 yX4_init) (by decide +kernel)) (hts (.instanceMethod yX4_init) (by decide +kernel)) rfl (by decide +kernel) ⟨Nat.le_of_ble_eq_true rfl, Nat.le_of_ble_eq_true rfl⟩) (g_preS hG hS (fun _ h => h)) rfl rfl hl.1 rfl (lv_room (Nat.le_of_ble_eq_true rfl)) dL_law_4 ⟨Nat.le_of_ble_eq_true rfl, Nat.le_of_ble_eq_true rfl⟩) hS (fun _ h => h) (fun _ _ _ _ _ h => h.elim) (fun v H locs hp hz9 hk9 hS => ?_)
  obtain ⟨rfl, hs1, hBB⟩ := hp
  have hsz : H.size = s.heap.size + 55 := by rw [hs1, z1]
  have hP : PX D ks s.heap.size (fun k => s.heap.size + 76) X0 H := px_new hBB
  refine W.eq (g2 := F0 m 7 ls [.ref s.heap.size]) rfl ?_
  refine lv_astore_n (lv' := [(1, .ref s.heap.size), (0, .ref b)]) hx hb dL_law_7 rfl hl (by decide) rfl (fun ls hl => ?_)
  refine g_new (C := RX5) (T := TX5) (N := 23) (fs := [.int (z2 0), .int (z2 0), .null, .null, .null, .null, .null, .null, .null, .null, .null, .null, .null, .null, .null, .null, .null, .null, .null, .null, .int (z2 0), .null, .int (z2 0)]) hx hb hts inlX5 tyX5 tyX5_ok hown (by decide +kernel) (by decide +kernel) (by decide +kernel) hG hS (ci := 5) rfl dfX5 ⟨Nat.le_of_ble_eq_true rfl, Nat.le_of_ble_eq_true rfl⟩ dL_law_8 (fun H hc z1 o1 hS => ?_)
  have hP := hP.keep (fun q h1 _ => o1 q h1)
  rw [hsz] at hc z1
  refine W.eq (g2 := F0 m 11 ls [.ref (s.heap.size + 55)]) (by rw [hsz]) ?_
  refine lv_dup hx hb dL_law_11 rfl ?_
  refine g_run (vx_runI (As := []) (rest := [.ref (s.heap.size + 55)]) ⟨hx, hb, hml, hown, hts⟩ (k_X5init l D ks s.heap.size (s.heap.size + 55) (by omega) _ hc z1) (cwI 0 hts gL_law_X5_init rfl rfl rfl (hts (.initialized RX5) (by decide +kernel)) (hts (.methodLink RL 88 yX5_init) (by decide +kernel)) (hts (.instanceMethod yX5_init) (by decide +kernel)) rfl (by decide +kernel) ⟨Nat.le_of_ble_eq_true rfl, Nat.le_of_ble_eq_true rfl⟩) (g_preS hG hS (fun _ h => h)) rfl rfl hl.1 rfl (lv_room (Nat.le_of_ble_eq_true rfl)) dL_law_12 ⟨Nat.le_of_ble_eq_true rfl, Nat.le_of_ble_eq_true rfl⟩) hS (fun q h => Nat.le_trans (by omega) (show s.heap.size + 55 ≤ q from h)) (fun _ _ _ _ _ h => h.elim) (fun v H locs hp hz9 hk9 hS => ?_)
  obtain ⟨rfl, hs2, hM⟩ := hp
  have hsz2 : H.size = s.heap.size + 75 := by rw [hs2, z1]
  have hP := hP.keep (fun q h1 h2 => hk9 q h1 (fun h => by have h3 : s.heap.size + 55 ≤ q := h; omega))
  refine W.eq (g2 := F0 m 15 ls [.ref (s.heap.size + 55)]) rfl ?_
  refine lv_astore_n (lv' := [(2, .ref (s.heap.size + 55)), (1, .ref s.heap.size), (0, .ref b)]) hx hb dL_law_15 rfl hl (by decide) rfl (fun ls hl => ?_)
  refine b_iconst hx hb dL_law_16 ?_
  refine g_newa (atype := .long) (ty := .long) hx hb hts (by decide +kernel) hG hS 1 rfl rfl (fun h => h) (N := 1) (1, .inr (.inl (fun _ => l2 0))) (fun _ => congrArg (arrV _ 1) (funext fun _ => congrArg Value.long l2_0.symm)) rfl (by decide) (by decide) ⟨Nat.le_of_ble_eq_true rfl, Nat.le_of_ble_eq_true rfl⟩ dL_law_17 (fun H hc z1 o1 hS => ?_)
  have hP := hP.keep (fun q h1 _ => o1 q h1)
  have hM := hM.keep (fun q h1 _ _ => o1 q h1)
  rw [hsz2] at hc
  refine W.eq (g2 := F0 m 19 ls [.ref (s.heap.size + 75)]) (by rw [hsz2]) ?_
  refine lv_astore_n (lv' := [(3, .ref (s.heap.size + 75)), (2, .ref (s.heap.size + 55)), (1, .ref s.heap.size), (0, .ref b)]) hx hb dL_law_19 rfl hl (by decide) rfl (fun ls hl => ?_)
  refine b_iconst hx hb dL_law_20 ?_
  refine lv_istore (lv' := [(4, .int (z2 0)), (3, .ref (s.heap.size + 75)), (2, .ref (s.heap.size + 55)), (1, .ref s.heap.size), (0, .ref b)]) hx hb dL_law_21 hl (by decide) rfl (fun ls hl => ?_)
  refine W.widen (k := 76) (n := 1000) (Nat.le_of_ble_eq_true rfl) (Nat.le_of_ble_eq_true rfl) ?_
  exact lp_k 512 (LI D ks b s L) 76 1000 4 24 (fun k H locs ls hk hI ih => law_round l hst hx hb hr hlocks hml hown hts hX hbl hG hL k H locs ls hk hI ih) _ _ _ ⟨_, X0, S0, _, iv_new, hP, hM, hc, hS, lv_sub hl [4, 3, 2, 1, 0] rfl, by omega⟩
