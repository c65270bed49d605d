/-! the street, the reference -/
set_option maxHeartbeats 40000000 in
set_option maxRecDepth 100000 in
theorem k_X4init (l : Launch) (D : va_G) (ks : Nat → ClassId) (bx : Nat) (H : Heap) {v0 v1 v2 v3 v4 v5 v6 : Value} (he0 : ca D bx (.inr (4, [v0, v1, v2, v3, v4, v5, v6])) H) (hsz0 : H.size = bx + 1) : KM l yX4_init wsX4_init ({ frames := 3, cells := 54, slots := 466, locals := 66 } : Room) D ks bx [.ref bx] H (RC (bx)) (fun v H1 => v = none ∧ H1.size = H.size + 54 ∧ BB D ks bx H1) (fun _ _ => False) := by
  refine KM.of (cc := cX4_init) (maxL := 2) (ret := none) (by decide) rfl (Nat.le_of_ble_eq_true rfl) ?_
  intro p e s m below meth c hx hb hml hr hlocks hown hname hts hext hH0 hG ls hl
  subst hH0
  have hown : s.vm.findClass RX4 = some m.cls := hown
  have hS : va_S (AR (RC (bx)) s.heap.size) s.heap s.heap [] := va_S.rf
  have hl : lv_has ls 2 [(0, .ref bx)] := hl
  have inX1 : ∀ w ∈ wsX10, w ∈ wsX4_init := by decide +kernel
  have inX2 : ∀ w ∈ wsX20, w ∈ wsX4_init := by decide +kernel
  have inX4 : ∀ w ∈ wsX40, w ∈ wsX4_init := by decide +kernel
  have hK : ∀ q : Nat, q < bx → s.heap[q]? = s.heap[q]? := fun q h => rfl
  have c0 := he0
  have hsz : s.heap.size = bx + 1 := hsz0
  have hab : bx ≤ bx := Nat.le_refl _
  refine lv_aload_n hx hb dX4_init_0 rfl (lv_at hl 0 rfl) ?_
  refine W.objInit hx hb hown (hts (.methodLink RX4 1 objectInit) (by decide +kernel)) (hts (.instanceMethod objectInit) (by decide +kernel)) (hts (.code objectInit ⟨#[0xb1]⟩ 1 none) (by decide +kernel)) rfl (by rw [hml]; exact hl.1) rfl dX4_init_1 (Nat.le_of_ble_eq_true rfl) (Nat.le_of_ble_eq_true rfl) ?_
  refine lv_aload_n hx hb dX4_init_4 rfl (lv_at hl 0 rfl) ?_
  refine b_bipush hx hb dX4_init_5 (by decide +kernel) ?_
  refine g_anew hx hb hts hown (by decide +kernel) (by decide +kernel) hG hS 4 rfl (N := 8) rfl (by decide) ⟨Nat.le_of_ble_eq_true rfl, Nat.le_of_ble_eq_true rfl⟩ dX4_init_7 (fun H hc z1 o1 hS2 => ?_)
  replace c0 := c0.kept (o1 _ c0.lt)
  replace hK : ∀ q : Nat, q < bx → H[q]? = s.heap[q]? := fun q h => (o1 q (by omega)).trans (hK q h)
  rw [hsz] at hc z1
  have c1 : ca D (bx + 1) (qA (ks 4) 8 (fun _ => none)) H := hc
  refine W.eq (g2 := F0 m 10 ls [.ref (bx + 1), .ref bx]) (by rw [hsz]) ?_
  replace hsz : H.size = bx + 2 := z1
  replace hS := hS2
  clear hS2 hc o1 z1
  refine g_putF (C := RX4) (T := TX4) (N := 7) hx hb hts inX4 tyX4 tyX4_ok nmX4 hown hname hG hS c0 (Or.inl (show _ ≤ _ by omega)) rfl 0 (by decide) (by decide +kernel) rfl rfl (v := .ref (bx + 1)) rfl rfl (Nat.le_of_ble_eq_true rfl) dX4_init_10 (fun H locs he hz9 oq hS2 => ?_)
  replace c0 : ca D (bx) (.inr (4, [.ref (bx + 1), v1, v2, v3, v4, v5, v6])) H := he
  replace c1 := c1.kept (oq _ (by omega))
  replace hK : ∀ q : Nat, q < bx → H[q]? = s.heap[q]? := fun q h => (oq q (by omega)).trans (hK q h)
  replace hsz := hz9.trans hsz
  replace hS := hS2
  clear he oq hz9 hS2
  refine lv_aload_n hx hb dX4_init_13 rfl (lv_at hl 0 rfl) ?_
  refine b_iconst hx hb dX4_init_14 ?_
  refine g_anew hx hb hts hown (by decide +kernel) (by decide +kernel) hG hS 3 rfl (N := 2) rfl (by decide) ⟨Nat.le_of_ble_eq_true rfl, Nat.le_of_ble_eq_true rfl⟩ dX4_init_15 (fun H hc z1 o1 hS2 => ?_)
  replace c0 := c0.kept (o1 _ c0.lt)
  replace c1 := c1.kept (o1 _ c1.lt)
  replace hK : ∀ q : Nat, q < bx → H[q]? = s.heap[q]? := fun q h => (o1 q (by omega)).trans (hK q h)
  rw [hsz] at hc z1
  have c2 : ca D (bx + 2) (qA (ks 3) 2 (fun _ => none)) H := hc
  refine W.eq (g2 := F0 m 18 ls [.ref (bx + 2), .ref bx]) (by rw [hsz]) ?_
  replace hsz : H.size = bx + 3 := z1
  replace hS := hS2
  clear hS2 hc o1 z1
  refine g_putF (C := RX4) (T := TX4) (N := 7) hx hb hts inX4 tyX4 tyX4_ok nmX4 hown hname hG hS c0 (Or.inl (show _ ≤ _ by omega)) rfl 1 (by decide) (by decide +kernel) rfl rfl (v := .ref (bx + 2)) rfl rfl (Nat.le_of_ble_eq_true rfl) dX4_init_18 (fun H locs he hz9 oq hS2 => ?_)
  replace c0 : ca D (bx) (.inr (4, [.ref (bx + 1), .ref (bx + 2), v2, v3, v4, v5, v6])) H := he
  replace c1 := c1.kept (oq _ (by omega))
  replace c2 := c2.kept (oq _ (by omega))
  replace hK : ∀ q : Nat, q < bx → H[q]? = s.heap[q]? := fun q h => (oq q (by omega)).trans (hK q h)
  replace hsz := hz9.trans hsz
  replace hS := hS2
  clear he oq hz9 hS2
  refine lv_aload_n hx hb dX4_init_21 rfl (lv_at hl 0 rfl) ?_
  refine b_bipush hx hb dX4_init_22 (by decide +kernel) ?_
  refine g_anew hx hb hts hown (by decide +kernel) (by decide +kernel) hG hS 5 rfl (N := 12) rfl (by decide) ⟨Nat.le_of_ble_eq_true rfl, Nat.le_of_ble_eq_true rfl⟩ dX4_init_24 (fun H hc z1 o1 hS2 => ?_)
  replace c0 := c0.kept (o1 _ c0.lt)
  replace c1 := c1.kept (o1 _ c1.lt)
  replace c2 := c2.kept (o1 _ c2.lt)
  replace hK : ∀ q : Nat, q < bx → H[q]? = s.heap[q]? := fun q h => (o1 q (by omega)).trans (hK q h)
  rw [hsz] at hc z1
  have c3 : ca D (bx + 3) (qA (ks 5) 12 (fun _ => none)) H := hc
  refine W.eq (g2 := F0 m 27 ls [.ref (bx + 3), .ref bx]) (by rw [hsz]) ?_
  replace hsz : H.size = bx + 4 := z1
  replace hS := hS2
  clear hS2 hc o1 z1
  refine g_putF (C := RX4) (T := TX4) (N := 7) hx hb hts inX4 tyX4 tyX4_ok nmX4 hown hname hG hS c0 (Or.inl (show _ ≤ _ by omega)) rfl 2 (by decide) (by decide +kernel) rfl rfl (v := .ref (bx + 3)) rfl rfl (Nat.le_of_ble_eq_true rfl) dX4_init_27 (fun H locs he hz9 oq hS2 => ?_)
  replace c0 : ca D (bx) (.inr (4, [.ref (bx + 1), .ref (bx + 2), .ref (bx + 3), v3, v4, v5, v6])) H := he
  replace c1 := c1.kept (oq _ (by omega))
  replace c2 := c2.kept (oq _ (by omega))
  replace c3 := c3.kept (oq _ (by omega))
  replace hK : ∀ q : Nat, q < bx → H[q]? = s.heap[q]? := fun q h => (oq q (by omega)).trans (hK q h)
  replace hsz := hz9.trans hsz
  replace hS := hS2
  clear he oq hz9 hS2
  refine lv_aload_n hx hb dX4_init_30 rfl (lv_at hl 0 rfl) ?_
  refine b_bipush hx hb dX4_init_31 (by decide +kernel) ?_
  refine g_newa (atype := .int) (ty := .int) hx hb hts (by decide +kernel) hG hS 0 rfl rfl (fun h => h) (N := 100) (100, .inl (fun _ => z2 0)) (za_i 100) rfl (by decide) (by decide) ⟨Nat.le_of_ble_eq_true rfl, Nat.le_of_ble_eq_true rfl⟩ dX4_init_33 (fun H hc z1 o1 hS2 => ?_)
  replace c0 := c0.kept (o1 _ c0.lt)
  replace c1 := c1.kept (o1 _ c1.lt)
  replace c2 := c2.kept (o1 _ c2.lt)
  replace c3 := c3.kept (o1 _ c3.lt)
  replace hK : ∀ q : Nat, q < bx → H[q]? = s.heap[q]? := fun q h => (o1 q (by omega)).trans (hK q h)
  rw [hsz] at hc z1
  have c4 : ca D (bx + 4) (iA (ks 0) 100 (fun _ => z2 0)) H := hc
  refine W.eq (g2 := F0 m 35 ls [.ref (bx + 4), .ref bx]) (by rw [hsz]) ?_
  replace hsz : H.size = bx + 5 := z1
  replace hS := hS2
  clear hS2 hc o1 z1
  refine g_putF (C := RX4) (T := TX4) (N := 7) hx hb hts inX4 tyX4 tyX4_ok nmX4 hown hname hG hS c0 (Or.inl (show _ ≤ _ by omega)) rfl 3 (by decide) (by decide +kernel) rfl rfl (v := .ref (bx + 4)) rfl rfl (Nat.le_of_ble_eq_true rfl) dX4_init_35 (fun H locs he hz9 oq hS2 => ?_)
  replace c0 : ca D (bx) (.inr (4, [.ref (bx + 1), .ref (bx + 2), .ref (bx + 3), .ref (bx + 4), v4, v5, v6])) H := he
  replace c1 := c1.kept (oq _ (by omega))
  replace c2 := c2.kept (oq _ (by omega))
  replace c3 := c3.kept (oq _ (by omega))
  replace c4 := c4.kept (oq _ (by omega))
  replace hK : ∀ q : Nat, q < bx → H[q]? = s.heap[q]? := fun q h => (oq q (by omega)).trans (hK q h)
  replace hsz := hz9.trans hsz
  replace hS := hS2
  clear he oq hz9 hS2
  refine lv_aload_n hx hb dX4_init_38 rfl (lv_at hl 0 rfl) ?_
  refine b_iconst hx hb dX4_init_39 ?_
  refine g_put (C := RX4) (T := TX4) (N := 7) hx hb hts inX4 tyX4 tyX4_ok nmX4 hown hG hS c0 (Or.inl (show _ ≤ _ by omega)) rfl 4 (by decide) (by decide +kernel) rfl rfl (v := .int (z2 (0))) rfl rfl (Nat.le_of_ble_eq_true rfl) dX4_init_40 (fun H locs he hz9 oq hS2 => ?_)
  replace c0 : ca D (bx) (.inr (4, [.ref (bx + 1), .ref (bx + 2), .ref (bx + 3), .ref (bx + 4), .int (z2 (0)), v5, v6])) H := he
  replace c1 := c1.kept (oq _ (by omega))
  replace c2 := c2.kept (oq _ (by omega))
  replace c3 := c3.kept (oq _ (by omega))
  replace c4 := c4.kept (oq _ (by omega))
  replace hK : ∀ q : Nat, q < bx → H[q]? = s.heap[q]? := fun q h => (oq q (by omega)).trans (hK q h)
  replace hsz := hz9.trans hsz
  replace hS := hS2
  clear he oq hz9 hS2
  refine lv_aload_n hx hb dX4_init_43 rfl (lv_at hl 0 rfl) ?_
  refine b_iconst hx hb dX4_init_44 ?_
  refine g_put (C := RX4) (T := TX4) (N := 7) hx hb hts inX4 tyX4 tyX4_ok nmX4 hown hG hS c0 (Or.inl (show _ ≤ _ by omega)) rfl 5 (by decide) (by decide +kernel) rfl rfl (v := .int (z2 (0))) rfl rfl (Nat.le_of_ble_eq_true rfl) dX4_init_45 (fun H locs he hz9 oq hS2 => ?_)
  replace c0 : ca D (bx) (.inr (4, [.ref (bx + 1), .ref (bx + 2), .ref (bx + 3), .ref (bx + 4), .int (z2 (0)), .int (z2 (0)), v6])) H := he
  replace c1 := c1.kept (oq _ (by omega))
  replace c2 := c2.kept (oq _ (by omega))
  replace c3 := c3.kept (oq _ (by omega))
  replace c4 := c4.kept (oq _ (by omega))
  replace hK : ∀ q : Nat, q < bx → H[q]? = s.heap[q]? := fun q h => (oq q (by omega)).trans (hK q h)
  replace hsz := hz9.trans hsz
  replace hS := hS2
  clear he oq hz9 hS2
  refine lv_aload_n hx hb dX4_init_48 rfl (lv_at hl 0 rfl) ?_
  refine b_iconst hx hb dX4_init_49 ?_
  refine g_put (C := RX4) (T := TX4) (N := 7) hx hb hts inX4 tyX4 tyX4_ok nmX4 hown hG hS c0 (Or.inl (show _ ≤ _ by omega)) rfl 6 (by decide) (by decide +kernel) rfl rfl (v := .int (z2 (0))) rfl rfl (Nat.le_of_ble_eq_true rfl) dX4_init_50 (fun H locs he hz9 oq hS2 => ?_)
  replace c0 : ca D (bx) (.inr (4, [.ref (bx + 1), .ref (bx + 2), .ref (bx + 3), .ref (bx + 4), .int (z2 (0)), .int (z2 (0)), .int (z2 (0))])) H := he
  replace c1 := c1.kept (oq _ (by omega))
  replace c2 := c2.kept (oq _ (by omega))
  replace c3 := c3.kept (oq _ (by omega))
  replace c4 := c4.kept (oq _ (by omega))
  replace hK : ∀ q : Nat, q < bx → H[q]? = s.heap[q]? := fun q h => (oq q (by omega)).trans (hK q h)
  replace hsz := hz9.trans hsz
  replace hS := hS2
  clear he oq hz9 hS2
  refine b_iconst hx hb dX4_init_53 ?_
  refine lv_istore_n (lv' := [(1, .int (z2 (0))), (0, .ref bx)]) hx hb dX4_init_54 rfl hl (by decide) rfl (fun ls hl => ?_)
  refine lv_iload_n hx hb dX4_init_55 rfl (lv_at hl 0 rfl) ?_
  refine b_bipush hx hb dX4_init_56 (by decide +kernel) ?_
  refine b_icmp_ge (tgt := 81) hx hb dX4_init_58 (by decide) ⟨⟨by omega, by omega⟩, ⟨by omega, by omega⟩⟩ (fun c => absurd c (by omega)) (fun _ => ?_)
  refine lv_aload_n hx hb dX4_init_61 rfl (lv_at hl 1 rfl) ?_
  refine g_get (C := RX4) (T := TX4) (N := 7) hx hb hts inX4 hown hG c0 rfl 0 (by decide) (by decide +kernel) rfl (v := .ref (bx + 1)) rfl dX4_init_62 ?_
  refine lv_iload_n hx hb dX4_init_65 rfl (lv_at hl 0 rfl) ?_
  refine g_new (C := RX2) (T := TX2) (N := 13) (fs := [.int (z2 0), .int (z2 0), .null, .null, .int (z2 0), .int (z2 0), .int (z2 0), .int (z2 0), .int (z2 0), .int (z2 0), .int (z2 0), .int (z2 0), .int (z2 0)]) hx hb hts inX2 tyX2 tyX2_ok hown (by decide +kernel) (by decide +kernel) (by decide +kernel) hG hS (ci := 2) rfl dfX2 ⟨Nat.le_of_ble_eq_true rfl, Nat.le_of_ble_eq_true rfl⟩ dX4_init_66 (fun H hc z1 o1 hS2 => ?_)
  replace c0 := c0.kept (o1 _ c0.lt)
  replace c1 := c1.kept (o1 _ c1.lt)
  replace c2 := c2.kept (o1 _ c2.lt)
  replace c3 := c3.kept (o1 _ c3.lt)
  replace c4 := c4.kept (o1 _ c4.lt)
  replace hK : ∀ q : Nat, q < bx → H[q]? = s.heap[q]? := fun q h => (o1 q (by omega)).trans (hK q h)
  rw [hsz] at hc z1
  have c5 : ca D (bx + 5) (.inr (2, [.int (z2 0), .int (z2 0), .null, .null, .int (z2 0), .int (z2 0), .int (z2 0), .int (z2 0), .int (z2 0), .int (z2 0), .int (z2 0), .int (z2 0), .int (z2 0)])) H := hc
  refine W.eq (g2 := F0 m 69 ls [.ref (bx + 5), .int (z2 (0)), .ref (bx + 1)]) (by rw [hsz]) ?_
  replace hsz : H.size = bx + 6 := z1
  replace hS := hS2
  clear hS2 hc o1 z1
  refine lv_dup hx hb dX4_init_69 rfl ?_
  refine lv_iload_n hx hb dX4_init_70 rfl (lv_at hl 0 rfl) ?_
  refine g_run (vx_runI (As := [.int (z2 (0))]) (rest := [.ref (bx + 5), .int (z2 (0)), .ref (bx + 1)]) ⟨hx, hb, hml, hown, hts⟩ (k_X2init l D ks bx (bx + 5) _ c5 (by omega) (hsz.trans (by omega)) 0 (by decide)) (cwI 1 hts gX4_init_X2_init rfl rfl rfl (hts (.initialized RX2) (by decide +kernel)) (hts (.methodLink RX4 41 yX2_init) (by decide +kernel)) (hts (.instanceMethod yX2_init) (by decide +kernel)) rfl (by decide +kernel) ⟨Nat.le_of_ble_eq_true rfl, Nat.le_of_ble_eq_true rfl⟩) (g_preS hG hS (fun q h => Nat.le_trans hab h)) rfl rfl hl.1 rfl (lv_room (Nat.le_of_ble_eq_true rfl)) dX4_init_71 ⟨Nat.le_of_ble_eq_true rfl, Nat.le_of_ble_eq_true rfl⟩) hS (fun q h => (show _ ≤ _ from Nat.le_trans (by omega) (show bx + 5 ≤ q from h))) (fun _ _ _ _ _ h => h.elim) (fun v H locs hp hz9 hk9 hS2 => ?_)
  obtain ⟨rfl, hs9, hc⟩ := hp
  have kq := fun (q : Nat) (h : q < bx + 5) => hk9 q (by omega) (fun h2 => by have : bx + 5 ≤ q := h2; omega)
  replace c0 := c0.kept (kq _ (by omega))
  replace c1 := c1.kept (kq _ (by omega))
  replace c2 := c2.kept (kq _ (by omega))
  replace c3 := c3.kept (kq _ (by omega))
  replace c4 := c4.kept (kq _ (by omega))
  replace hK : ∀ q : Nat, q < bx → H[q]? = s.heap[q]? := fun q h => (kq q (by omega)).trans (hK q h)
  replace hsz : H.size = bx + 11 := by rw [hs9, hsz]
  replace c5 := hc
  replace hS := hS2
  clear hS2 hc hs9 hk9 hz9 kq
  refine W.eq (g2 := F0 m 74 ls [.ref (bx + 5), .int (z2 (0)), .ref (bx + 1)]) rfl ?_
  refine g_aast (n := 8) (f := (fun _ => none)) hx hb hG hS 4 rfl c1 (Or.inl (show _ ≤ _ by omega)) c5.obj (r := (RX2, TX2, 13)) rfl 0 ⟨rfl, by decide, by decide⟩ dX4_init_74 (fun H locs he hz9 oq hS2 => ?_)
  replace c1 : ca D (bx + 1) (qA (ks 4) 8 (va_up (fun _ => none) 0 (some (bx + 5)))) H := he
  replace c0 := c0.kept (oq _ (by omega))
  replace c2 := c2.kept (oq _ (by omega))
  replace c3 := c3.kept (oq _ (by omega))
  replace c4 := c4.kept (oq _ (by omega))
  replace c5 := c5.keep (fun q h1 h2 => oq q (by omega))
  replace hK : ∀ q : Nat, q < bx → H[q]? = s.heap[q]? := fun q h => (oq q (by omega)).trans (hK q h)
  replace hsz := hz9.trans hsz
  replace hS := hS2
  clear he oq hz9 hS2
  refine b_iinc (lv' := [(1, .int (z2 (1))), (0, .ref bx)]) hx hb dX4_init_75 hl (k := 0) rfl (by decide) rfl (fun ls hl => ?_)
  refine lv_goto (tgt := 55) hx hb dX4_init_78 (by decide) ?_
  refine lv_iload_n hx hb dX4_init_55 rfl (lv_at hl 0 rfl) ?_
  refine b_bipush hx hb dX4_init_56 (by decide +kernel) ?_
  refine b_icmp_ge (tgt := 81) hx hb dX4_init_58 (by decide) ⟨⟨by omega, by omega⟩, ⟨by omega, by omega⟩⟩ (fun c => absurd c (by omega)) (fun _ => ?_)
  refine lv_aload_n hx hb dX4_init_61 rfl (lv_at hl 1 rfl) ?_
  refine g_get (C := RX4) (T := TX4) (N := 7) hx hb hts inX4 hown hG c0 rfl 0 (by decide) (by decide +kernel) rfl (v := .ref (bx + 1)) rfl dX4_init_62 ?_
  refine lv_iload_n hx hb dX4_init_65 rfl (lv_at hl 0 rfl) ?_
  refine g_new (C := RX2) (T := TX2) (N := 13) (fs := [.int (z2 0), .int (z2 0), .null, .null, .int (z2 0), .int (z2 0), .int (z2 0), .int (z2 0), .int (z2 0), .int (z2 0), .int (z2 0), .int (z2 0), .int (z2 0)]) hx hb hts inX2 tyX2 tyX2_ok hown (by decide +kernel) (by decide +kernel) (by decide +kernel) hG hS (ci := 2) rfl dfX2 ⟨Nat.le_of_ble_eq_true rfl, Nat.le_of_ble_eq_true rfl⟩ dX4_init_66 (fun H hc z1 o1 hS2 => ?_)
  replace c0 := c0.kept (o1 _ c0.lt)
  replace c1 := c1.kept (o1 _ c1.lt)
  replace c2 := c2.kept (o1 _ c2.lt)
  replace c3 := c3.kept (o1 _ c3.lt)
  replace c4 := c4.kept (o1 _ c4.lt)
  replace c5 := c5.keep (fun q h1 h2 => o1 q (by omega))
  replace hK : ∀ q : Nat, q < bx → H[q]? = s.heap[q]? := fun q h => (o1 q (by omega)).trans (hK q h)
  rw [hsz] at hc z1
  have c6 : ca D (bx + 11) (.inr (2, [.int (z2 0), .int (z2 0), .null, .null, .int (z2 0), .int (z2 0), .int (z2 0), .int (z2 0), .int (z2 0), .int (z2 0), .int (z2 0), .int (z2 0), .int (z2 0)])) H := hc
  refine W.eq (g2 := F0 m 69 ls [.ref (bx + 11), .int (z2 (1)), .ref (bx + 1)]) (by rw [hsz]) ?_
  replace hsz : H.size = bx + 12 := z1
  replace hS := hS2
  clear hS2 hc o1 z1
  refine lv_dup hx hb dX4_init_69 rfl ?_
  refine lv_iload_n hx hb dX4_init_70 rfl (lv_at hl 0 rfl) ?_
  refine g_run (vx_runI (As := [.int (z2 (1))]) (rest := [.ref (bx + 11), .int (z2 (1)), .ref (bx + 1)]) ⟨hx, hb, hml, hown, hts⟩ (k_X2init l D ks bx (bx + 11) _ c6 (by omega) (hsz.trans (by omega)) 1 (by decide)) (cwI 1 hts gX4_init_X2_init rfl rfl rfl (hts (.initialized RX2) (by decide +kernel)) (hts (.methodLink RX4 41 yX2_init) (by decide +kernel)) (hts (.instanceMethod yX2_init) (by decide +kernel)) rfl (by decide +kernel) ⟨Nat.le_of_ble_eq_true rfl, Nat.le_of_ble_eq_true rfl⟩) (g_preS hG hS (fun q h => Nat.le_trans hab h)) rfl rfl hl.1 rfl (lv_room (Nat.le_of_ble_eq_true rfl)) dX4_init_71 ⟨Nat.le_of_ble_eq_true rfl, Nat.le_of_ble_eq_true rfl⟩) hS (fun q h => (show _ ≤ _ from Nat.le_trans (by omega) (show bx + 11 ≤ q from h))) (fun _ _ _ _ _ h => h.elim) (fun v H locs hp hz9 hk9 hS2 => ?_)
  obtain ⟨rfl, hs9, hc⟩ := hp
  have kq := fun (q : Nat) (h : q < bx + 11) => hk9 q (by omega) (fun h2 => by have : bx + 11 ≤ q := h2; omega)
  replace c0 := c0.kept (kq _ (by omega))
  replace c1 := c1.kept (kq _ (by omega))
  replace c2 := c2.kept (kq _ (by omega))
  replace c3 := c3.kept (kq _ (by omega))
  replace c4 := c4.kept (kq _ (by omega))
  replace c5 := c5.keep (fun q h1 h2 => kq q (by omega))
  replace hK : ∀ q : Nat, q < bx → H[q]? = s.heap[q]? := fun q h => (kq q (by omega)).trans (hK q h)
  replace hsz : H.size = bx + 17 := by rw [hs9, hsz]
  replace c6 := hc
  replace hS := hS2
  clear hS2 hc hs9 hk9 hz9 kq
  refine W.eq (g2 := F0 m 74 ls [.ref (bx + 11), .int (z2 (1)), .ref (bx + 1)]) rfl ?_
  refine g_aast (n := 8) (f := (va_up (fun _ => none) 0 (some (bx + 5)))) hx hb hG hS 4 rfl c1 (Or.inl (show _ ≤ _ by omega)) c6.obj (r := (RX2, TX2, 13)) rfl 1 ⟨rfl, by decide, by decide⟩ dX4_init_74 (fun H locs he hz9 oq hS2 => ?_)
  replace c1 : ca D (bx + 1) (qA (ks 4) 8 (va_up (va_up (fun _ => none) 0 (some (bx + 5))) 1 (some (bx + 11)))) H := he
  replace c0 := c0.kept (oq _ (by omega))
  replace c2 := c2.kept (oq _ (by omega))
  replace c3 := c3.kept (oq _ (by omega))
  replace c4 := c4.kept (oq _ (by omega))
  replace c5 := c5.keep (fun q h1 h2 => oq q (by omega))
  replace c6 := c6.keep (fun q h1 h2 => oq q (by omega))
  replace hK : ∀ q : Nat, q < bx → H[q]? = s.heap[q]? := fun q h => (oq q (by omega)).trans (hK q h)
  replace hsz := hz9.trans hsz
  replace hS := hS2
  clear he oq hz9 hS2
  refine b_iinc (lv' := [(1, .int (z2 (2))), (0, .ref bx)]) hx hb dX4_init_75 hl (k := 0) rfl (by decide) rfl (fun ls hl => ?_)
  refine lv_goto (tgt := 55) hx hb dX4_init_78 (by decide) ?_
  refine lv_iload_n hx hb dX4_init_55 rfl (lv_at hl 0 rfl) ?_
  refine b_bipush hx hb dX4_init_56 (by decide +kernel) ?_
  refine b_icmp_ge (tgt := 81) hx hb dX4_init_58 (by decide) ⟨⟨by omega, by omega⟩, ⟨by omega, by omega⟩⟩ (fun c => absurd c (by omega)) (fun _ => ?_)
  refine lv_aload_n hx hb dX4_init_61 rfl (lv_at hl 1 rfl) ?_
  refine g_get (C := RX4) (T := TX4) (N := 7) hx hb hts inX4 hown hG c0 rfl 0 (by decide) (by decide +kernel) rfl (v := .ref (bx + 1)) rfl dX4_init_62 ?_
  refine lv_iload_n hx hb dX4_init_65 rfl (lv_at hl 0 rfl) ?_
  refine g_new (C := RX2) (T := TX2) (N := 13) (fs := [.int (z2 0), .int (z2 0), .null, .null, .int (z2 0), .int (z2 0), .int (z2 0), .int (z2 0), .int (z2 0), .int (z2 0), .int (z2 0), .int (z2 0), .int (z2 0)]) hx hb hts inX2 tyX2 tyX2_ok hown (by decide +kernel) (by decide +kernel) (by decide +kernel) hG hS (ci := 2) rfl dfX2 ⟨Nat.le_of_ble_eq_true rfl, Nat.le_of_ble_eq_true rfl⟩ dX4_init_66 (fun H hc z1 o1 hS2 => ?_)
  replace c0 := c0.kept (o1 _ c0.lt)
  replace c1 := c1.kept (o1 _ c1.lt)
  replace c2 := c2.kept (o1 _ c2.lt)
  replace c3 := c3.kept (o1 _ c3.lt)
  replace c4 := c4.kept (o1 _ c4.lt)
  replace c5 := c5.keep (fun q h1 h2 => o1 q (by omega))
  replace c6 := c6.keep (fun q h1 h2 => o1 q (by omega))
  replace hK : ∀ q : Nat, q < bx → H[q]? = s.heap[q]? := fun q h => (o1 q (by omega)).trans (hK q h)
  rw [hsz] at hc z1
  have c7 : ca D (bx + 17) (.inr (2, [.int (z2 0), .int (z2 0), .null, .null, .int (z2 0), .int (z2 0), .int (z2 0), .int (z2 0), .int (z2 0), .int (z2 0), .int (z2 0), .int (z2 0), .int (z2 0)])) H := hc
  refine W.eq (g2 := F0 m 69 ls [.ref (bx + 17), .int (z2 (2)), .ref (bx + 1)]) (by rw [hsz]) ?_
  replace hsz : H.size = bx + 18 := z1
  replace hS := hS2
  clear hS2 hc o1 z1
  refine lv_dup hx hb dX4_init_69 rfl ?_
  refine lv_iload_n hx hb dX4_init_70 rfl (lv_at hl 0 rfl) ?_
  refine g_run (vx_runI (As := [.int (z2 (2))]) (rest := [.ref (bx + 17), .int (z2 (2)), .ref (bx + 1)]) ⟨hx, hb, hml, hown, hts⟩ (k_X2init l D ks bx (bx + 17) _ c7 (by omega) (hsz.trans (by omega)) 2 (by decide)) (cwI 1 hts gX4_init_X2_init rfl rfl rfl (hts (.initialized RX2) (by decide +kernel)) (hts (.methodLink RX4 41 yX2_init) (by decide +kernel)) (hts (.instanceMethod yX2_init) (by decide +kernel)) rfl (by decide +kernel) ⟨Nat.le_of_ble_eq_true rfl, Nat.le_of_ble_eq_true rfl⟩) (g_preS hG hS (fun q h => Nat.le_trans hab h)) rfl rfl hl.1 rfl (lv_room (Nat.le_of_ble_eq_true rfl)) dX4_init_71 ⟨Nat.le_of_ble_eq_true rfl, Nat.le_of_ble_eq_true rfl⟩) hS (fun q h => (show _ ≤ _ from Nat.le_trans (by omega) (show bx + 17 ≤ q from h))) (fun _ _ _ _ _ h => h.elim) (fun v H locs hp hz9 hk9 hS2 => ?_)
  obtain ⟨rfl, hs9, hc⟩ := hp
  have kq := fun (q : Nat) (h : q < bx + 17) => hk9 q (by omega) (fun h2 => by have : bx + 17 ≤ q := h2; omega)
  replace c0 := c0.kept (kq _ (by omega))
  replace c1 := c1.kept (kq _ (by omega))
  replace c2 := c2.kept (kq _ (by omega))
  replace c3 := c3.kept (kq _ (by omega))
  replace c4 := c4.kept (kq _ (by omega))
  replace c5 := c5.keep (fun q h1 h2 => kq q (by omega))
  replace c6 := c6.keep (fun q h1 h2 => kq q (by omega))
  replace hK : ∀ q : Nat, q < bx → H[q]? = s.heap[q]? := fun q h => (kq q (by omega)).trans (hK q h)
  replace hsz : H.size = bx + 23 := by rw [hs9, hsz]
  replace c7 := hc
  replace hS := hS2
  clear hS2 hc hs9 hk9 hz9 kq
  refine W.eq (g2 := F0 m 74 ls [.ref (bx + 17), .int (z2 (2)), .ref (bx + 1)]) rfl ?_
  refine g_aast (n := 8) (f := (va_up (va_up (fun _ => none) 0 (some (bx + 5))) 1 (some (bx + 11)))) hx hb hG hS 4 rfl c1 (Or.inl (show _ ≤ _ by omega)) c7.obj (r := (RX2, TX2, 13)) rfl 2 ⟨rfl, by decide, by decide⟩ dX4_init_74 (fun H locs he hz9 oq hS2 => ?_)
  replace c1 : ca D (bx + 1) (qA (ks 4) 8 (va_up (va_up (va_up (fun _ => none) 0 (some (bx + 5))) 1 (some (bx + 11))) 2 (some (bx + 17)))) H := he
  replace c0 := c0.kept (oq _ (by omega))
  replace c2 := c2.kept (oq _ (by omega))
  replace c3 := c3.kept (oq _ (by omega))
  replace c4 := c4.kept (oq _ (by omega))
  replace c5 := c5.keep (fun q h1 h2 => oq q (by omega))
  replace c6 := c6.keep (fun q h1 h2 => oq q (by omega))
  replace c7 := c7.keep (fun q h1 h2 => oq q (by omega))
  replace hK : ∀ q : Nat, q < bx → H[q]? = s.heap[q]? := fun q h => (oq q (by omega)).trans (hK q h)
  replace hsz := hz9.trans hsz
  replace hS := hS2
  clear he oq hz9 hS2
  refine b_iinc (lv' := [(1, .int (z2 (3))), (0, .ref bx)]) hx hb dX4_init_75 hl (k := 0) rfl (by decide) rfl (fun ls hl => ?_)
  refine lv_goto (tgt := 55) hx hb dX4_init_78 (by decide) ?_
  refine lv_iload_n hx hb dX4_init_55 rfl (lv_at hl 0 rfl) ?_
  refine b_bipush hx hb dX4_init_56 (by decide +kernel) ?_
  refine b_icmp_ge (tgt := 81) hx hb dX4_init_58 (by decide) ⟨⟨by omega, by omega⟩, ⟨by omega, by omega⟩⟩ (fun c => absurd c (by omega)) (fun _ => ?_)
  refine lv_aload_n hx hb dX4_init_61 rfl (lv_at hl 1 rfl) ?_
  refine g_get (C := RX4) (T := TX4) (N := 7) hx hb hts inX4 hown hG c0 rfl 0 (by decide) (by decide +kernel) rfl (v := .ref (bx + 1)) rfl dX4_init_62 ?_
  refine lv_iload_n hx hb dX4_init_65 rfl (lv_at hl 0 rfl) ?_
  refine g_new (C := RX2) (T := TX2) (N := 13) (fs := [.int (z2 0), .int (z2 0), .null, .null, .int (z2 0), .int (z2 0), .int (z2 0), .int (z2 0), .int (z2 0), .int (z2 0), .int (z2 0), .int (z2 0), .int (z2 0)]) hx hb hts inX2 tyX2 tyX2_ok hown (by decide +kernel) (by decide +kernel) (by decide +kernel) hG hS (ci := 2) rfl dfX2 ⟨Nat.le_of_ble_eq_true rfl, Nat.le_of_ble_eq_true rfl⟩ dX4_init_66 (fun H hc z1 o1 hS2 => ?_)
  replace c0 := c0.kept (o1 _ c0.lt)
  replace c1 := c1.kept (o1 _ c1.lt)
  replace c2 := c2.kept (o1 _ c2.lt)
  replace c3 := c3.kept (o1 _ c3.lt)
  replace c4 := c4.kept (o1 _ c4.lt)
  replace c5 := c5.keep (fun q h1 h2 => o1 q (by omega))
  replace c6 := c6.keep (fun q h1 h2 => o1 q (by omega))
  replace c7 := c7.keep (fun q h1 h2 => o1 q (by omega))
  replace hK : ∀ q : Nat, q < bx → H[q]? = s.heap[q]? := fun q h => (o1 q (by omega)).trans (hK q h)
  rw [hsz] at hc z1
  have c8 : ca D (bx + 23) (.inr (2, [.int (z2 0), .int (z2 0), .null, .null, .int (z2 0), .int (z2 0), .int (z2 0), .int (z2 0), .int (z2 0), .int (z2 0), .int (z2 0), .int (z2 0), .int (z2 0)])) H := hc
  refine W.eq (g2 := F0 m 69 ls [.ref (bx + 23), .int (z2 (3)), .ref (bx + 1)]) (by rw [hsz]) ?_
  replace hsz : H.size = bx + 24 := z1
  replace hS := hS2
  clear hS2 hc o1 z1
  refine lv_dup hx hb dX4_init_69 rfl ?_
  refine lv_iload_n hx hb dX4_init_70 rfl (lv_at hl 0 rfl) ?_
  refine g_run (vx_runI (As := [.int (z2 (3))]) (rest := [.ref (bx + 23), .int (z2 (3)), .ref (bx + 1)]) ⟨hx, hb, hml, hown, hts⟩ (k_X2init l D ks bx (bx + 23) _ c8 (by omega) (hsz.trans (by omega)) 3 (by decide)) (cwI 1 hts gX4_init_X2_init rfl rfl rfl (hts (.initialized RX2) (by decide +kernel)) (hts (.methodLink RX4 41 yX2_init) (by decide +kernel)) (hts (.instanceMethod yX2_init) (by decide +kernel)) rfl (by decide +kernel) ⟨Nat.le_of_ble_eq_true rfl, Nat.le_of_ble_eq_true rfl⟩) (g_preS hG hS (fun q h => Nat.le_trans hab h)) rfl rfl hl.1 rfl (lv_room (Nat.le_of_ble_eq_true rfl)) dX4_init_71 ⟨Nat.le_of_ble_eq_true rfl, Nat.le_of_ble_eq_true rfl⟩) hS (fun q h => (show _ ≤ _ from Nat.le_trans (by omega) (show bx + 23 ≤ q from h))) (fun _ _ _ _ _ h => h.elim) (fun v H locs hp hz9 hk9 hS2 => ?_)
  obtain ⟨rfl, hs9, hc⟩ := hp
  have kq := fun (q : Nat) (h : q < bx + 23) => hk9 q (by omega) (fun h2 => by have : bx + 23 ≤ q := h2; omega)
  replace c0 := c0.kept (kq _ (by omega))
  replace c1 := c1.kept (kq _ (by omega))
  replace c2 := c2.kept (kq _ (by omega))
  replace c3 := c3.kept (kq _ (by omega))
  replace c4 := c4.kept (kq _ (by omega))
  replace c5 := c5.keep (fun q h1 h2 => kq q (by omega))
  replace c6 := c6.keep (fun q h1 h2 => kq q (by omega))
  replace c7 := c7.keep (fun q h1 h2 => kq q (by omega))
  replace hK : ∀ q : Nat, q < bx → H[q]? = s.heap[q]? := fun q h => (kq q (by omega)).trans (hK q h)
  replace hsz : H.size = bx + 29 := by rw [hs9, hsz]
  replace c8 := hc
  replace hS := hS2
  clear hS2 hc hs9 hk9 hz9 kq
  refine W.eq (g2 := F0 m 74 ls [.ref (bx + 23), .int (z2 (3)), .ref (bx + 1)]) rfl ?_
  refine g_aast (n := 8) (f := (va_up (va_up (va_up (fun _ => none) 0 (some (bx + 5))) 1 (some (bx + 11))) 2 (some (bx + 17)))) hx hb hG hS 4 rfl c1 (Or.inl (show _ ≤ _ by omega)) c8.obj (r := (RX2, TX2, 13)) rfl 3 ⟨rfl, by decide, by decide⟩ dX4_init_74 (fun H locs he hz9 oq hS2 => ?_)
  replace c1 : ca D (bx + 1) (qA (ks 4) 8 (va_up (va_up (va_up (va_up (fun _ => none) 0 (some (bx + 5))) 1 (some (bx + 11))) 2 (some (bx + 17))) 3 (some (bx + 23)))) H := he
  replace c0 := c0.kept (oq _ (by omega))
  replace c2 := c2.kept (oq _ (by omega))
  replace c3 := c3.kept (oq _ (by omega))
  replace c4 := c4.kept (oq _ (by omega))
  replace c5 := c5.keep (fun q h1 h2 => oq q (by omega))
  replace c6 := c6.keep (fun q h1 h2 => oq q (by omega))
  replace c7 := c7.keep (fun q h1 h2 => oq q (by omega))
  replace c8 := c8.keep (fun q h1 h2 => oq q (by omega))
  replace hK : ∀ q : Nat, q < bx → H[q]? = s.heap[q]? := fun q h => (oq q (by omega)).trans (hK q h)
  replace hsz := hz9.trans hsz
  replace hS := hS2
  clear he oq hz9 hS2
  refine b_iinc (lv' := [(1, .int (z2 (4))), (0, .ref bx)]) hx hb dX4_init_75 hl (k := 0) rfl (by decide) rfl (fun ls hl => ?_)
  refine lv_goto (tgt := 55) hx hb dX4_init_78 (by decide) ?_
  refine lv_iload_n hx hb dX4_init_55 rfl (lv_at hl 0 rfl) ?_
  refine b_bipush hx hb dX4_init_56 (by decide +kernel) ?_
  refine b_icmp_ge (tgt := 81) hx hb dX4_init_58 (by decide) ⟨⟨by omega, by omega⟩, ⟨by omega, by omega⟩⟩ (fun c => absurd c (by omega)) (fun _ => ?_)
  refine lv_aload_n hx hb dX4_init_61 rfl (lv_at hl 1 rfl) ?_
  refine g_get (C := RX4) (T := TX4) (N := 7) hx hb hts inX4 hown hG c0 rfl 0 (by decide) (by decide +kernel) rfl (v := .ref (bx + 1)) rfl dX4_init_62 ?_
  refine lv_iload_n hx hb dX4_init_65 rfl (lv_at hl 0 rfl) ?_
  refine g_new (C := RX2) (T := TX2) (N := 13) (fs := [.int (z2 0), .int (z2 0), .null, .null, .int (z2 0), .int (z2 0), .int (z2 0), .int (z2 0), .int (z2 0), .int (z2 0), .int (z2 0), .int (z2 0), .int (z2 0)]) hx hb hts inX2 tyX2 tyX2_ok hown (by decide +kernel) (by decide +kernel) (by decide +kernel) hG hS (ci := 2) rfl dfX2 ⟨Nat.le_of_ble_eq_true rfl, Nat.le_of_ble_eq_true rfl⟩ dX4_init_66 (fun H hc z1 o1 hS2 => ?_)
  replace c0 := c0.kept (o1 _ c0.lt)
  replace c1 := c1.kept (o1 _ c1.lt)
  replace c2 := c2.kept (o1 _ c2.lt)
  replace c3 := c3.kept (o1 _ c3.lt)
  replace c4 := c4.kept (o1 _ c4.lt)
  replace c5 := c5.keep (fun q h1 h2 => o1 q (by omega))
  replace c6 := c6.keep (fun q h1 h2 => o1 q (by omega))
  replace c7 := c7.keep (fun q h1 h2 => o1 q (by omega))
  replace c8 := c8.keep (fun q h1 h2 => o1 q (by omega))
  replace hK : ∀ q : Nat, q < bx → H[q]? = s.heap[q]? := fun q h => (o1 q (by omega)).trans (hK q h)
  rw [hsz] at hc z1
  have c9 : ca D (bx + 29) (.inr (2, [.int (z2 0), .int (z2 0), .null, .null, .int (z2 0), .int (z2 0), .int (z2 0), .int (z2 0), .int (z2 0), .int (z2 0), .int (z2 0), .int (z2 0), .int (z2 0)])) H := hc
  refine W.eq (g2 := F0 m 69 ls [.ref (bx + 29), .int (z2 (4)), .ref (bx + 1)]) (by rw [hsz]) ?_
  replace hsz : H.size = bx + 30 := z1
  replace hS := hS2
  clear hS2 hc o1 z1
  refine lv_dup hx hb dX4_init_69 rfl ?_
  refine lv_iload_n hx hb dX4_init_70 rfl (lv_at hl 0 rfl) ?_
  refine g_run (vx_runI (As := [.int (z2 (4))]) (rest := [.ref (bx + 29), .int (z2 (4)), .ref (bx + 1)]) ⟨hx, hb, hml, hown, hts⟩ (k_X2init l D ks bx (bx + 29) _ c9 (by omega) (hsz.trans (by omega)) 4 (by decide)) (cwI 1 hts gX4_init_X2_init rfl rfl rfl (hts (.initialized RX2) (by decide +kernel)) (hts (.methodLink RX4 41 yX2_init) (by decide +kernel)) (hts (.instanceMethod yX2_init) (by decide +kernel)) rfl (by decide +kernel) ⟨Nat.le_of_ble_eq_true rfl, Nat.le_of_ble_eq_true rfl⟩) (g_preS hG hS (fun q h => Nat.le_trans hab h)) rfl rfl hl.1 rfl (lv_room (Nat.le_of_ble_eq_true rfl)) dX4_init_71 ⟨Nat.le_of_ble_eq_true rfl, Nat.le_of_ble_eq_true rfl⟩) hS (fun q h => (show _ ≤ _ from Nat.le_trans (by omega) (show bx + 29 ≤ q from h))) (fun _ _ _ _ _ h => h.elim) (fun v H locs hp hz9 hk9 hS2 => ?_)
  obtain ⟨rfl, hs9, hc⟩ := hp
  have kq := fun (q : Nat) (h : q < bx + 29) => hk9 q (by omega) (fun h2 => by have : bx + 29 ≤ q := h2; omega)
  replace c0 := c0.kept (kq _ (by omega))
  replace c1 := c1.kept (kq _ (by omega))
  replace c2 := c2.kept (kq _ (by omega))
  replace c3 := c3.kept (kq _ (by omega))
  replace c4 := c4.kept (kq _ (by omega))
  replace c5 := c5.keep (fun q h1 h2 => kq q (by omega))
  replace c6 := c6.keep (fun q h1 h2 => kq q (by omega))
  replace c7 := c7.keep (fun q h1 h2 => kq q (by omega))
  replace c8 := c8.keep (fun q h1 h2 => kq q (by omega))
  replace hK : ∀ q : Nat, q < bx → H[q]? = s.heap[q]? := fun q h => (kq q (by omega)).trans (hK q h)
  replace hsz : H.size = bx + 35 := by rw [hs9, hsz]
  replace c9 := hc
  replace hS := hS2
  clear hS2 hc hs9 hk9 hz9 kq
  refine W.eq (g2 := F0 m 74 ls [.ref (bx + 29), .int (z2 (4)), .ref (bx + 1)]) rfl ?_
  refine g_aast (n := 8) (f := (va_up (va_up (va_up (va_up (fun _ => none) 0 (some (bx + 5))) 1 (some (bx + 11))) 2 (some (bx + 17))) 3 (some (bx + 23)))) hx hb hG hS 4 rfl c1 (Or.inl (show _ ≤ _ by omega)) c9.obj (r := (RX2, TX2, 13)) rfl 4 ⟨rfl, by decide, by decide⟩ dX4_init_74 (fun H locs he hz9 oq hS2 => ?_)
  replace c1 : ca D (bx + 1) (qA (ks 4) 8 (va_up (va_up (va_up (va_up (va_up (fun _ => none) 0 (some (bx + 5))) 1 (some (bx + 11))) 2 (some (bx + 17))) 3 (some (bx + 23))) 4 (some (bx + 29)))) H := he
  replace c0 := c0.kept (oq _ (by omega))
  replace c2 := c2.kept (oq _ (by omega))
  replace c3 := c3.kept (oq _ (by omega))
  replace c4 := c4.kept (oq _ (by omega))
  replace c5 := c5.keep (fun q h1 h2 => oq q (by omega))
  replace c6 := c6.keep (fun q h1 h2 => oq q (by omega))
  replace c7 := c7.keep (fun q h1 h2 => oq q (by omega))
  replace c8 := c8.keep (fun q h1 h2 => oq q (by omega))
  replace c9 := c9.keep (fun q h1 h2 => oq q (by omega))
  replace hK : ∀ q : Nat, q < bx → H[q]? = s.heap[q]? := fun q h => (oq q (by omega)).trans (hK q h)
  replace hsz := hz9.trans hsz
  replace hS := hS2
  clear he oq hz9 hS2
  refine b_iinc (lv' := [(1, .int (z2 (5))), (0, .ref bx)]) hx hb dX4_init_75 hl (k := 0) rfl (by decide) rfl (fun ls hl => ?_)
  refine lv_goto (tgt := 55) hx hb dX4_init_78 (by decide) ?_
  refine lv_iload_n hx hb dX4_init_55 rfl (lv_at hl 0 rfl) ?_
  refine b_bipush hx hb dX4_init_56 (by decide +kernel) ?_
  refine b_icmp_ge (tgt := 81) hx hb dX4_init_58 (by decide) ⟨⟨by omega, by omega⟩, ⟨by omega, by omega⟩⟩ (fun c => absurd c (by omega)) (fun _ => ?_)
  refine lv_aload_n hx hb dX4_init_61 rfl (lv_at hl 1 rfl) ?_
  refine g_get (C := RX4) (T := TX4) (N := 7) hx hb hts inX4 hown hG c0 rfl 0 (by decide) (by decide +kernel) rfl (v := .ref (bx + 1)) rfl dX4_init_62 ?_
  refine lv_iload_n hx hb dX4_init_65 rfl (lv_at hl 0 rfl) ?_
  refine g_new (C := RX2) (T := TX2) (N := 13) (fs := [.int (z2 0), .int (z2 0), .null, .null, .int (z2 0), .int (z2 0), .int (z2 0), .int (z2 0), .int (z2 0), .int (z2 0), .int (z2 0), .int (z2 0), .int (z2 0)]) hx hb hts inX2 tyX2 tyX2_ok hown (by decide +kernel) (by decide +kernel) (by decide +kernel) hG hS (ci := 2) rfl dfX2 ⟨Nat.le_of_ble_eq_true rfl, Nat.le_of_ble_eq_true rfl⟩ dX4_init_66 (fun H hc z1 o1 hS2 => ?_)
  replace c0 := c0.kept (o1 _ c0.lt)
  replace c1 := c1.kept (o1 _ c1.lt)
  replace c2 := c2.kept (o1 _ c2.lt)
  replace c3 := c3.kept (o1 _ c3.lt)
  replace c4 := c4.kept (o1 _ c4.lt)
  replace c5 := c5.keep (fun q h1 h2 => o1 q (by omega))
  replace c6 := c6.keep (fun q h1 h2 => o1 q (by omega))
  replace c7 := c7.keep (fun q h1 h2 => o1 q (by omega))
  replace c8 := c8.keep (fun q h1 h2 => o1 q (by omega))
  replace c9 := c9.keep (fun q h1 h2 => o1 q (by omega))
  replace hK : ∀ q : Nat, q < bx → H[q]? = s.heap[q]? := fun q h => (o1 q (by omega)).trans (hK q h)
  rw [hsz] at hc z1
  have c10 : ca D (bx + 35) (.inr (2, [.int (z2 0), .int (z2 0), .null, .null, .int (z2 0), .int (z2 0), .int (z2 0), .int (z2 0), .int (z2 0), .int (z2 0), .int (z2 0), .int (z2 0), .int (z2 0)])) H := hc
  refine W.eq (g2 := F0 m 69 ls [.ref (bx + 35), .int (z2 (5)), .ref (bx + 1)]) (by rw [hsz]) ?_
  replace hsz : H.size = bx + 36 := z1
  replace hS := hS2
  clear hS2 hc o1 z1
  refine lv_dup hx hb dX4_init_69 rfl ?_
  refine lv_iload_n hx hb dX4_init_70 rfl (lv_at hl 0 rfl) ?_
  refine g_run (vx_runI (As := [.int (z2 (5))]) (rest := [.ref (bx + 35), .int (z2 (5)), .ref (bx + 1)]) ⟨hx, hb, hml, hown, hts⟩ (k_X2init l D ks bx (bx + 35) _ c10 (by omega) (hsz.trans (by omega)) 5 (by decide)) (cwI 1 hts gX4_init_X2_init rfl rfl rfl (hts (.initialized RX2) (by decide +kernel)) (hts (.methodLink RX4 41 yX2_init) (by decide +kernel)) (hts (.instanceMethod yX2_init) (by decide +kernel)) rfl (by decide +kernel) ⟨Nat.le_of_ble_eq_true rfl, Nat.le_of_ble_eq_true rfl⟩) (g_preS hG hS (fun q h => Nat.le_trans hab h)) rfl rfl hl.1 rfl (lv_room (Nat.le_of_ble_eq_true rfl)) dX4_init_71 ⟨Nat.le_of_ble_eq_true rfl, Nat.le_of_ble_eq_true rfl⟩) hS (fun q h => (show _ ≤ _ from Nat.le_trans (by omega) (show bx + 35 ≤ q from h))) (fun _ _ _ _ _ h => h.elim) (fun v H locs hp hz9 hk9 hS2 => ?_)
  obtain ⟨rfl, hs9, hc⟩ := hp
  have kq := fun (q : Nat) (h : q < bx + 35) => hk9 q (by omega) (fun h2 => by have : bx + 35 ≤ q := h2; omega)
  replace c0 := c0.kept (kq _ (by omega))
  replace c1 := c1.kept (kq _ (by omega))
  replace c2 := c2.kept (kq _ (by omega))
  replace c3 := c3.kept (kq _ (by omega))
  replace c4 := c4.kept (kq _ (by omega))
  replace c5 := c5.keep (fun q h1 h2 => kq q (by omega))
  replace c6 := c6.keep (fun q h1 h2 => kq q (by omega))
  replace c7 := c7.keep (fun q h1 h2 => kq q (by omega))
  replace c8 := c8.keep (fun q h1 h2 => kq q (by omega))
  replace c9 := c9.keep (fun q h1 h2 => kq q (by omega))
  replace hK : ∀ q : Nat, q < bx → H[q]? = s.heap[q]? := fun q h => (kq q (by omega)).trans (hK q h)
  replace hsz : H.size = bx + 41 := by rw [hs9, hsz]
  replace c10 := hc
  replace hS := hS2
  clear hS2 hc hs9 hk9 hz9 kq
  refine W.eq (g2 := F0 m 74 ls [.ref (bx + 35), .int (z2 (5)), .ref (bx + 1)]) rfl ?_
  refine g_aast (n := 8) (f := (va_up (va_up (va_up (va_up (va_up (fun _ => none) 0 (some (bx + 5))) 1 (some (bx + 11))) 2 (some (bx + 17))) 3 (some (bx + 23))) 4 (some (bx + 29)))) hx hb hG hS 4 rfl c1 (Or.inl (show _ ≤ _ by omega)) c10.obj (r := (RX2, TX2, 13)) rfl 5 ⟨rfl, by decide, by decide⟩ dX4_init_74 (fun H locs he hz9 oq hS2 => ?_)
  replace c1 : ca D (bx + 1) (qA (ks 4) 8 (va_up (va_up (va_up (va_up (va_up (va_up (fun _ => none) 0 (some (bx + 5))) 1 (some (bx + 11))) 2 (some (bx + 17))) 3 (some (bx + 23))) 4 (some (bx + 29))) 5 (some (bx + 35)))) H := he
  replace c0 := c0.kept (oq _ (by omega))
  replace c2 := c2.kept (oq _ (by omega))
  replace c3 := c3.kept (oq _ (by omega))
  replace c4 := c4.kept (oq _ (by omega))
  replace c5 := c5.keep (fun q h1 h2 => oq q (by omega))
  replace c6 := c6.keep (fun q h1 h2 => oq q (by omega))
  replace c7 := c7.keep (fun q h1 h2 => oq q (by omega))
  replace c8 := c8.keep (fun q h1 h2 => oq q (by omega))
  replace c9 := c9.keep (fun q h1 h2 => oq q (by omega))
  replace c10 := c10.keep (fun q h1 h2 => oq q (by omega))
  replace hK : ∀ q : Nat, q < bx → H[q]? = s.heap[q]? := fun q h => (oq q (by omega)).trans (hK q h)
  replace hsz := hz9.trans hsz
  replace hS := hS2
  clear he oq hz9 hS2
  refine b_iinc (lv' := [(1, .int (z2 (6))), (0, .ref bx)]) hx hb dX4_init_75 hl (k := 0) rfl (by decide) rfl (fun ls hl => ?_)
  refine lv_goto (tgt := 55) hx hb dX4_init_78 (by decide) ?_
  refine lv_iload_n hx hb dX4_init_55 rfl (lv_at hl 0 rfl) ?_
  refine b_bipush hx hb dX4_init_56 (by decide +kernel) ?_
  refine b_icmp_ge (tgt := 81) hx hb dX4_init_58 (by decide) ⟨⟨by omega, by omega⟩, ⟨by omega, by omega⟩⟩ (fun c => absurd c (by omega)) (fun _ => ?_)
  refine lv_aload_n hx hb dX4_init_61 rfl (lv_at hl 1 rfl) ?_
  refine g_get (C := RX4) (T := TX4) (N := 7) hx hb hts inX4 hown hG c0 rfl 0 (by decide) (by decide +kernel) rfl (v := .ref (bx + 1)) rfl dX4_init_62 ?_
  refine lv_iload_n hx hb dX4_init_65 rfl (lv_at hl 0 rfl) ?_
  refine g_new (C := RX2) (T := TX2) (N := 13) (fs := [.int (z2 0), .int (z2 0), .null, .null, .int (z2 0), .int (z2 0), .int (z2 0), .int (z2 0), .int (z2 0), .int (z2 0), .int (z2 0), .int (z2 0), .int (z2 0)]) hx hb hts inX2 tyX2 tyX2_ok hown (by decide +kernel) (by decide +kernel) (by decide +kernel) hG hS (ci := 2) rfl dfX2 ⟨Nat.le_of_ble_eq_true rfl, Nat.le_of_ble_eq_true rfl⟩ dX4_init_66 (fun H hc z1 o1 hS2 => ?_)
  replace c0 := c0.kept (o1 _ c0.lt)
  replace c1 := c1.kept (o1 _ c1.lt)
  replace c2 := c2.kept (o1 _ c2.lt)
  replace c3 := c3.kept (o1 _ c3.lt)
  replace c4 := c4.kept (o1 _ c4.lt)
  replace c5 := c5.keep (fun q h1 h2 => o1 q (by omega))
  replace c6 := c6.keep (fun q h1 h2 => o1 q (by omega))
  replace c7 := c7.keep (fun q h1 h2 => o1 q (by omega))
  replace c8 := c8.keep (fun q h1 h2 => o1 q (by omega))
  replace c9 := c9.keep (fun q h1 h2 => o1 q (by omega))
  replace c10 := c10.keep (fun q h1 h2 => o1 q (by omega))
  replace hK : ∀ q : Nat, q < bx → H[q]? = s.heap[q]? := fun q h => (o1 q (by omega)).trans (hK q h)
  rw [hsz] at hc z1
  have c11 : ca D (bx + 41) (.inr (2, [.int (z2 0), .int (z2 0), .null, .null, .int (z2 0), .int (z2 0), .int (z2 0), .int (z2 0), .int (z2 0), .int (z2 0), .int (z2 0), .int (z2 0), .int (z2 0)])) H := hc
  refine W.eq (g2 := F0 m 69 ls [.ref (bx + 41), .int (z2 (6)), .ref (bx + 1)]) (by rw [hsz]) ?_
  replace hsz : H.size = bx + 42 := z1
  replace hS := hS2
  clear hS2 hc o1 z1
  refine lv_dup hx hb dX4_init_69 rfl ?_
  refine lv_iload_n hx hb dX4_init_70 rfl (lv_at hl 0 rfl) ?_
  refine g_run (vx_runI (As := [.int (z2 (6))]) (rest := [.ref (bx + 41), .int (z2 (6)), .ref (bx + 1)]) ⟨hx, hb, hml, hown, hts⟩ (k_X2init l D ks bx (bx + 41) _ c11 (by omega) (hsz.trans (by omega)) 6 (by decide)) (cwI 1 hts gX4_init_X2_init rfl rfl rfl (hts (.initialized RX2) (by decide +kernel)) (hts (.methodLink RX4 41 yX2_init) (by decide +kernel)) (hts (.instanceMethod yX2_init) (by decide +kernel)) rfl (by decide +kernel) ⟨Nat.le_of_ble_eq_true rfl, Nat.le_of_ble_eq_true rfl⟩) (g_preS hG hS (fun q h => Nat.le_trans hab h)) rfl rfl hl.1 rfl (lv_room (Nat.le_of_ble_eq_true rfl)) dX4_init_71 ⟨Nat.le_of_ble_eq_true rfl, Nat.le_of_ble_eq_true rfl⟩) hS (fun q h => (show _ ≤ _ from Nat.le_trans (by omega) (show bx + 41 ≤ q from h))) (fun _ _ _ _ _ h => h.elim) (fun v H locs hp hz9 hk9 hS2 => ?_)
  obtain ⟨rfl, hs9, hc⟩ := hp
  have kq := fun (q : Nat) (h : q < bx + 41) => hk9 q (by omega) (fun h2 => by have : bx + 41 ≤ q := h2; omega)
  replace c0 := c0.kept (kq _ (by omega))
  replace c1 := c1.kept (kq _ (by omega))
  replace c2 := c2.kept (kq _ (by omega))
  replace c3 := c3.kept (kq _ (by omega))
  replace c4 := c4.kept (kq _ (by omega))
  replace c5 := c5.keep (fun q h1 h2 => kq q (by omega))
  replace c6 := c6.keep (fun q h1 h2 => kq q (by omega))
  replace c7 := c7.keep (fun q h1 h2 => kq q (by omega))
  replace c8 := c8.keep (fun q h1 h2 => kq q (by omega))
  replace c9 := c9.keep (fun q h1 h2 => kq q (by omega))
  replace c10 := c10.keep (fun q h1 h2 => kq q (by omega))
  replace hK : ∀ q : Nat, q < bx → H[q]? = s.heap[q]? := fun q h => (kq q (by omega)).trans (hK q h)
  replace hsz : H.size = bx + 47 := by rw [hs9, hsz]
  replace c11 := hc
  replace hS := hS2
  clear hS2 hc hs9 hk9 hz9 kq
  refine W.eq (g2 := F0 m 74 ls [.ref (bx + 41), .int (z2 (6)), .ref (bx + 1)]) rfl ?_
  refine g_aast (n := 8) (f := (va_up (va_up (va_up (va_up (va_up (va_up (fun _ => none) 0 (some (bx + 5))) 1 (some (bx + 11))) 2 (some (bx + 17))) 3 (some (bx + 23))) 4 (some (bx + 29))) 5 (some (bx + 35)))) hx hb hG hS 4 rfl c1 (Or.inl (show _ ≤ _ by omega)) c11.obj (r := (RX2, TX2, 13)) rfl 6 ⟨rfl, by decide, by decide⟩ dX4_init_74 (fun H locs he hz9 oq hS2 => ?_)
  replace c1 : ca D (bx + 1) (qA (ks 4) 8 (va_up (va_up (va_up (va_up (va_up (va_up (va_up (fun _ => none) 0 (some (bx + 5))) 1 (some (bx + 11))) 2 (some (bx + 17))) 3 (some (bx + 23))) 4 (some (bx + 29))) 5 (some (bx + 35))) 6 (some (bx + 41)))) H := he
  replace c0 := c0.kept (oq _ (by omega))
  replace c2 := c2.kept (oq _ (by omega))
  replace c3 := c3.kept (oq _ (by omega))
  replace c4 := c4.kept (oq _ (by omega))
  replace c5 := c5.keep (fun q h1 h2 => oq q (by omega))
  replace c6 := c6.keep (fun q h1 h2 => oq q (by omega))
  replace c7 := c7.keep (fun q h1 h2 => oq q (by omega))
  replace c8 := c8.keep (fun q h1 h2 => oq q (by omega))
  replace c9 := c9.keep (fun q h1 h2 => oq q (by omega))
  replace c10 := c10.keep (fun q h1 h2 => oq q (by omega))
  replace c11 := c11.keep (fun q h1 h2 => oq q (by omega))
  replace hK : ∀ q : Nat, q < bx → H[q]? = s.heap[q]? := fun q h => (oq q (by omega)).trans (hK q h)
  replace hsz := hz9.trans hsz
  replace hS := hS2
  clear he oq hz9 hS2
  refine b_iinc (lv' := [(1, .int (z2 (7))), (0, .ref bx)]) hx hb dX4_init_75 hl (k := 0) rfl (by decide) rfl (fun ls hl => ?_)
  refine lv_goto (tgt := 55) hx hb dX4_init_78 (by decide) ?_
  refine lv_iload_n hx hb dX4_init_55 rfl (lv_at hl 0 rfl) ?_
  refine b_bipush hx hb dX4_init_56 (by decide +kernel) ?_
  refine b_icmp_ge (tgt := 81) hx hb dX4_init_58 (by decide) ⟨⟨by omega, by omega⟩, ⟨by omega, by omega⟩⟩ (fun c => absurd c (by omega)) (fun _ => ?_)
  refine lv_aload_n hx hb dX4_init_61 rfl (lv_at hl 1 rfl) ?_
  refine g_get (C := RX4) (T := TX4) (N := 7) hx hb hts inX4 hown hG c0 rfl 0 (by decide) (by decide +kernel) rfl (v := .ref (bx + 1)) rfl dX4_init_62 ?_
  refine lv_iload_n hx hb dX4_init_65 rfl (lv_at hl 0 rfl) ?_
  refine g_new (C := RX2) (T := TX2) (N := 13) (fs := [.int (z2 0), .int (z2 0), .null, .null, .int (z2 0), .int (z2 0), .int (z2 0), .int (z2 0), .int (z2 0), .int (z2 0), .int (z2 0), .int (z2 0), .int (z2 0)]) hx hb hts inX2 tyX2 tyX2_ok hown (by decide +kernel) (by decide +kernel) (by decide +kernel) hG hS (ci := 2) rfl dfX2 ⟨Nat.le_of_ble_eq_true rfl, Nat.le_of_ble_eq_true rfl⟩ dX4_init_66 (fun H hc z1 o1 hS2 => ?_)
  replace c0 := c0.kept (o1 _ c0.lt)
  replace c1 := c1.kept (o1 _ c1.lt)
  replace c2 := c2.kept (o1 _ c2.lt)
  replace c3 := c3.kept (o1 _ c3.lt)
  replace c4 := c4.kept (o1 _ c4.lt)
  replace c5 := c5.keep (fun q h1 h2 => o1 q (by omega))
  replace c6 := c6.keep (fun q h1 h2 => o1 q (by omega))
  replace c7 := c7.keep (fun q h1 h2 => o1 q (by omega))
  replace c8 := c8.keep (fun q h1 h2 => o1 q (by omega))
  replace c9 := c9.keep (fun q h1 h2 => o1 q (by omega))
  replace c10 := c10.keep (fun q h1 h2 => o1 q (by omega))
  replace c11 := c11.keep (fun q h1 h2 => o1 q (by omega))
  replace hK : ∀ q : Nat, q < bx → H[q]? = s.heap[q]? := fun q h => (o1 q (by omega)).trans (hK q h)
  rw [hsz] at hc z1
  have c12 : ca D (bx + 47) (.inr (2, [.int (z2 0), .int (z2 0), .null, .null, .int (z2 0), .int (z2 0), .int (z2 0), .int (z2 0), .int (z2 0), .int (z2 0), .int (z2 0), .int (z2 0), .int (z2 0)])) H := hc
  refine W.eq (g2 := F0 m 69 ls [.ref (bx + 47), .int (z2 (7)), .ref (bx + 1)]) (by rw [hsz]) ?_
  replace hsz : H.size = bx + 48 := z1
  replace hS := hS2
  clear hS2 hc o1 z1
  refine lv_dup hx hb dX4_init_69 rfl ?_
  refine lv_iload_n hx hb dX4_init_70 rfl (lv_at hl 0 rfl) ?_
  refine g_run (vx_runI (As := [.int (z2 (7))]) (rest := [.ref (bx + 47), .int (z2 (7)), .ref (bx + 1)]) ⟨hx, hb, hml, hown, hts⟩ (k_X2init l D ks bx (bx + 47) _ c12 (by omega) (hsz.trans (by omega)) 7 (by decide)) (cwI 1 hts gX4_init_X2_init rfl rfl rfl (hts (.initialized RX2) (by decide +kernel)) (hts (.methodLink RX4 41 yX2_init) (by decide +kernel)) (hts (.instanceMethod yX2_init) (by decide +kernel)) rfl (by decide +kernel) ⟨Nat.le_of_ble_eq_true rfl, Nat.le_of_ble_eq_true rfl⟩) (g_preS hG hS (fun q h => Nat.le_trans hab h)) rfl rfl hl.1 rfl (lv_room (Nat.le_of_ble_eq_true rfl)) dX4_init_71 ⟨Nat.le_of_ble_eq_true rfl, Nat.le_of_ble_eq_true rfl⟩) hS (fun q h => (show _ ≤ _ from Nat.le_trans (by omega) (show bx + 47 ≤ q from h))) (fun _ _ _ _ _ h => h.elim) (fun v H locs hp hz9 hk9 hS2 => ?_)
  obtain ⟨rfl, hs9, hc⟩ := hp
  have kq := fun (q : Nat) (h : q < bx + 47) => hk9 q (by omega) (fun h2 => by have : bx + 47 ≤ q := h2; omega)
  replace c0 := c0.kept (kq _ (by omega))
  replace c1 := c1.kept (kq _ (by omega))
  replace c2 := c2.kept (kq _ (by omega))
  replace c3 := c3.kept (kq _ (by omega))
  replace c4 := c4.kept (kq _ (by omega))
  replace c5 := c5.keep (fun q h1 h2 => kq q (by omega))
  replace c6 := c6.keep (fun q h1 h2 => kq q (by omega))
  replace c7 := c7.keep (fun q h1 h2 => kq q (by omega))
  replace c8 := c8.keep (fun q h1 h2 => kq q (by omega))
  replace c9 := c9.keep (fun q h1 h2 => kq q (by omega))
  replace c10 := c10.keep (fun q h1 h2 => kq q (by omega))
  replace c11 := c11.keep (fun q h1 h2 => kq q (by omega))
  replace hK : ∀ q : Nat, q < bx → H[q]? = s.heap[q]? := fun q h => (kq q (by omega)).trans (hK q h)
  replace hsz : H.size = bx + 53 := by rw [hs9, hsz]
  replace c12 := hc
  replace hS := hS2
  clear hS2 hc hs9 hk9 hz9 kq
  refine W.eq (g2 := F0 m 74 ls [.ref (bx + 47), .int (z2 (7)), .ref (bx + 1)]) rfl ?_
  refine g_aast (n := 8) (f := (va_up (va_up (va_up (va_up (va_up (va_up (va_up (fun _ => none) 0 (some (bx + 5))) 1 (some (bx + 11))) 2 (some (bx + 17))) 3 (some (bx + 23))) 4 (some (bx + 29))) 5 (some (bx + 35))) 6 (some (bx + 41)))) hx hb hG hS 4 rfl c1 (Or.inl (show _ ≤ _ by omega)) c12.obj (r := (RX2, TX2, 13)) rfl 7 ⟨rfl, by decide, by decide⟩ dX4_init_74 (fun H locs he hz9 oq hS2 => ?_)
  replace c1 : ca D (bx + 1) (qA (ks 4) 8 (va_up (va_up (va_up (va_up (va_up (va_up (va_up (va_up (fun _ => none) 0 (some (bx + 5))) 1 (some (bx + 11))) 2 (some (bx + 17))) 3 (some (bx + 23))) 4 (some (bx + 29))) 5 (some (bx + 35))) 6 (some (bx + 41))) 7 (some (bx + 47)))) H := he
  replace c0 := c0.kept (oq _ (by omega))
  replace c2 := c2.kept (oq _ (by omega))
  replace c3 := c3.kept (oq _ (by omega))
  replace c4 := c4.kept (oq _ (by omega))
  replace c5 := c5.keep (fun q h1 h2 => oq q (by omega))
  replace c6 := c6.keep (fun q h1 h2 => oq q (by omega))
  replace c7 := c7.keep (fun q h1 h2 => oq q (by omega))
  replace c8 := c8.keep (fun q h1 h2 => oq q (by omega))
  replace c9 := c9.keep (fun q h1 h2 => oq q (by omega))
  replace c10 := c10.keep (fun q h1 h2 => oq q (by omega))
  replace c11 := c11.keep (fun q h1 h2 => oq q (by omega))
  replace c12 := c12.keep (fun q h1 h2 => oq q (by omega))
  replace hK : ∀ q : Nat, q < bx → H[q]? = s.heap[q]? := fun q h => (oq q (by omega)).trans (hK q h)
  replace hsz := hz9.trans hsz
  replace hS := hS2
  clear he oq hz9 hS2
  refine b_iinc (lv' := [(1, .int (z2 (8))), (0, .ref bx)]) hx hb dX4_init_75 hl (k := 0) rfl (by decide) rfl (fun ls hl => ?_)
  refine lv_goto (tgt := 55) hx hb dX4_init_78 (by decide) ?_
  refine lv_iload_n hx hb dX4_init_55 rfl (lv_at hl 0 rfl) ?_
  refine b_bipush hx hb dX4_init_56 (by decide +kernel) ?_
  refine b_icmp_ge (tgt := 81) hx hb dX4_init_58 (by decide) ⟨⟨by omega, by omega⟩, ⟨by omega, by omega⟩⟩ (fun _ => ?_) (fun c => absurd c (by omega))
  refine b_iconst hx hb dX4_init_81 ?_
  refine lv_istore_n (lv' := [(1, .int (z2 (0))), (0, .ref bx)]) hx hb dX4_init_82 rfl hl (by decide) rfl (fun ls hl => ?_)
  refine lv_iload_n hx hb dX4_init_83 rfl (lv_at hl 0 rfl) ?_
  refine b_iconst hx hb dX4_init_84 ?_
  refine b_icmp_ge (tgt := 107) hx hb dX4_init_85 (by decide) ⟨⟨by omega, by omega⟩, ⟨by omega, by omega⟩⟩ (fun c => absurd c (by omega)) (fun _ => ?_)
  refine lv_aload_n hx hb dX4_init_88 rfl (lv_at hl 1 rfl) ?_
  refine g_get (C := RX4) (T := TX4) (N := 7) hx hb hts inX4 hown hG c0 rfl 1 (by decide) (by decide +kernel) rfl (v := .ref (bx + 2)) rfl dX4_init_89 ?_
  refine lv_iload_n hx hb dX4_init_92 rfl (lv_at hl 0 rfl) ?_
  refine g_new (C := RX1) (T := TX1) (N := 2) (fs := [.null, .int (z2 0)]) hx hb hts inX1 tyX1 tyX1_ok hown (by decide +kernel) (by decide +kernel) (by decide +kernel) hG hS (ci := 1) rfl dfX1 ⟨Nat.le_of_ble_eq_true rfl, Nat.le_of_ble_eq_true rfl⟩ dX4_init_93 (fun H hc z1 o1 hS2 => ?_)
  replace c0 := c0.kept (o1 _ c0.lt)
  replace c1 := c1.kept (o1 _ c1.lt)
  replace c2 := c2.kept (o1 _ c2.lt)
  replace c3 := c3.kept (o1 _ c3.lt)
  replace c4 := c4.kept (o1 _ c4.lt)
  replace c5 := c5.keep (fun q h1 h2 => o1 q (by omega))
  replace c6 := c6.keep (fun q h1 h2 => o1 q (by omega))
  replace c7 := c7.keep (fun q h1 h2 => o1 q (by omega))
  replace c8 := c8.keep (fun q h1 h2 => o1 q (by omega))
  replace c9 := c9.keep (fun q h1 h2 => o1 q (by omega))
  replace c10 := c10.keep (fun q h1 h2 => o1 q (by omega))
  replace c11 := c11.keep (fun q h1 h2 => o1 q (by omega))
  replace c12 := c12.keep (fun q h1 h2 => o1 q (by omega))
  replace hK : ∀ q : Nat, q < bx → H[q]? = s.heap[q]? := fun q h => (o1 q (by omega)).trans (hK q h)
  rw [hsz] at hc z1
  have c13 : ca D (bx + 53) (.inr (1, [.null, .int (z2 0)])) H := hc
  refine W.eq (g2 := F0 m 96 ls [.ref (bx + 53), .int (z2 (0)), .ref (bx + 2)]) (by rw [hsz]) ?_
  replace hsz : H.size = bx + 54 := z1
  replace hS := hS2
  clear hS2 hc o1 z1
  refine lv_dup hx hb dX4_init_96 rfl ?_
  refine g_run (vx_runIN (As := []) (rest := [.ref (bx + 53), .int (z2 (0)), .ref (bx + 2)]) ⟨hx, hb, hml, hown, hts⟩ (k_X1init l D ks bx (bx + 53) _ c13 (by omega)) ⟨va_cnB 0 hts gX4_init_X1_init_n44 rfl rfl rfl (hG.2.1 _ (List.mem_of_getElem? (i := 27) rfl)) (hts (.initialized RX1) (by decide +kernel)) (by decide +kernel) ⟨Nat.le_of_ble_eq_true rfl, Nat.le_of_ble_eq_true rfl⟩, rfl, hts (.instanceMethod yX1_init) (by decide +kernel)⟩ (g_preS hG hS (fun q h => Nat.le_trans hab h)) rfl rfl hl.1 rfl (lv_room (Nat.le_of_ble_eq_true rfl)) dX4_init_97 ⟨Nat.le_of_ble_eq_true rfl, Nat.le_of_ble_eq_true rfl⟩) hS (fun q h => (show _ ≤ _ from Nat.le_trans (by omega) (show bx + 53 ≤ q from h))) (fun _ _ _ _ _ h => h.elim) (fun v H locs hp hz9 hk9 hS2 => ?_)
  obtain ⟨rfl, hs9, hc⟩ := hp
  have kq := fun (q : Nat) (h : q < bx + 53) => hk9 q (by omega) (fun h2 => by have : bx + 53 ≤ q := h2; omega)
  replace c0 := c0.kept (kq _ (by omega))
  replace c1 := c1.kept (kq _ (by omega))
  replace c2 := c2.kept (kq _ (by omega))
  replace c3 := c3.kept (kq _ (by omega))
  replace c4 := c4.kept (kq _ (by omega))
  replace c5 := c5.keep (fun q h1 h2 => kq q (by omega))
  replace c6 := c6.keep (fun q h1 h2 => kq q (by omega))
  replace c7 := c7.keep (fun q h1 h2 => kq q (by omega))
  replace c8 := c8.keep (fun q h1 h2 => kq q (by omega))
  replace c9 := c9.keep (fun q h1 h2 => kq q (by omega))
  replace c10 := c10.keep (fun q h1 h2 => kq q (by omega))
  replace c11 := c11.keep (fun q h1 h2 => kq q (by omega))
  replace c12 := c12.keep (fun q h1 h2 => kq q (by omega))
  replace hK : ∀ q : Nat, q < bx → H[q]? = s.heap[q]? := fun q h => (kq q (by omega)).trans (hK q h)
  replace hsz : H.size = bx + 54 := by rw [hs9, hsz]
  replace c13 := hc
  replace hS := hS2
  clear hS2 hc hs9 hk9 hz9 kq
  refine W.eq (g2 := F0 m 100 ls [.ref (bx + 53), .int (z2 (0)), .ref (bx + 2)]) rfl ?_
  refine g_aast (n := 2) (f := (fun _ => none)) hx hb hG hS 3 rfl c2 (Or.inl (show _ ≤ _ by omega)) c13 (r := (RX1, TX1, 2)) rfl 0 ⟨rfl, by decide, by decide⟩ dX4_init_100 (fun H locs he hz9 oq hS2 => ?_)
  replace c2 : ca D (bx + 2) (qA (ks 3) 2 (va_up (fun _ => none) 0 (some (bx + 53)))) H := he
  replace c0 := c0.kept (oq _ (by omega))
  replace c1 := c1.kept (oq _ (by omega))
  replace c3 := c3.kept (oq _ (by omega))
  replace c4 := c4.kept (oq _ (by omega))
  replace c13 := c13.kept (oq _ (by omega))
  replace c5 := c5.keep (fun q h1 h2 => oq q (by omega))
  replace c6 := c6.keep (fun q h1 h2 => oq q (by omega))
  replace c7 := c7.keep (fun q h1 h2 => oq q (by omega))
  replace c8 := c8.keep (fun q h1 h2 => oq q (by omega))
  replace c9 := c9.keep (fun q h1 h2 => oq q (by omega))
  replace c10 := c10.keep (fun q h1 h2 => oq q (by omega))
  replace c11 := c11.keep (fun q h1 h2 => oq q (by omega))
  replace c12 := c12.keep (fun q h1 h2 => oq q (by omega))
  replace hK : ∀ q : Nat, q < bx → H[q]? = s.heap[q]? := fun q h => (oq q (by omega)).trans (hK q h)
  replace hsz := hz9.trans hsz
  replace hS := hS2
  clear he oq hz9 hS2
  refine b_iinc (lv' := [(1, .int (z2 (1))), (0, .ref bx)]) hx hb dX4_init_101 hl (k := 0) rfl (by decide) rfl (fun ls hl => ?_)
  refine lv_goto (tgt := 83) hx hb dX4_init_104 (by decide) ?_
  refine lv_iload_n hx hb dX4_init_83 rfl (lv_at hl 0 rfl) ?_
  refine b_iconst hx hb dX4_init_84 ?_
  refine b_icmp_ge (tgt := 107) hx hb dX4_init_85 (by decide) ⟨⟨by omega, by omega⟩, ⟨by omega, by omega⟩⟩ (fun c => absurd c (by omega)) (fun _ => ?_)
  refine lv_aload_n hx hb dX4_init_88 rfl (lv_at hl 1 rfl) ?_
  refine g_get (C := RX4) (T := TX4) (N := 7) hx hb hts inX4 hown hG c0 rfl 1 (by decide) (by decide +kernel) rfl (v := .ref (bx + 2)) rfl dX4_init_89 ?_
  refine lv_iload_n hx hb dX4_init_92 rfl (lv_at hl 0 rfl) ?_
  refine g_new (C := RX1) (T := TX1) (N := 2) (fs := [.null, .int (z2 0)]) hx hb hts inX1 tyX1 tyX1_ok hown (by decide +kernel) (by decide +kernel) (by decide +kernel) hG hS (ci := 1) rfl dfX1 ⟨Nat.le_of_ble_eq_true rfl, Nat.le_of_ble_eq_true rfl⟩ dX4_init_93 (fun H hc z1 o1 hS2 => ?_)
  replace c0 := c0.kept (o1 _ c0.lt)
  replace c1 := c1.kept (o1 _ c1.lt)
  replace c2 := c2.kept (o1 _ c2.lt)
  replace c3 := c3.kept (o1 _ c3.lt)
  replace c4 := c4.kept (o1 _ c4.lt)
  replace c13 := c13.kept (o1 _ c13.lt)
  replace c5 := c5.keep (fun q h1 h2 => o1 q (by omega))
  replace c6 := c6.keep (fun q h1 h2 => o1 q (by omega))
  replace c7 := c7.keep (fun q h1 h2 => o1 q (by omega))
  replace c8 := c8.keep (fun q h1 h2 => o1 q (by omega))
  replace c9 := c9.keep (fun q h1 h2 => o1 q (by omega))
  replace c10 := c10.keep (fun q h1 h2 => o1 q (by omega))
  replace c11 := c11.keep (fun q h1 h2 => o1 q (by omega))
  replace c12 := c12.keep (fun q h1 h2 => o1 q (by omega))
  replace hK : ∀ q : Nat, q < bx → H[q]? = s.heap[q]? := fun q h => (o1 q (by omega)).trans (hK q h)
  rw [hsz] at hc z1
  have c14 : ca D (bx + 54) (.inr (1, [.null, .int (z2 0)])) H := hc
  refine W.eq (g2 := F0 m 96 ls [.ref (bx + 54), .int (z2 (1)), .ref (bx + 2)]) (by rw [hsz]) ?_
  replace hsz : H.size = bx + 55 := z1
  replace hS := hS2
  clear hS2 hc o1 z1
  refine lv_dup hx hb dX4_init_96 rfl ?_
  refine g_run (vx_runIN (As := []) (rest := [.ref (bx + 54), .int (z2 (1)), .ref (bx + 2)]) ⟨hx, hb, hml, hown, hts⟩ (k_X1init l D ks bx (bx + 54) _ c14 (by omega)) ⟨va_cnB 0 hts gX4_init_X1_init_n44 rfl rfl rfl (hG.2.1 _ (List.mem_of_getElem? (i := 27) rfl)) (hts (.initialized RX1) (by decide +kernel)) (by decide +kernel) ⟨Nat.le_of_ble_eq_true rfl, Nat.le_of_ble_eq_true rfl⟩, rfl, hts (.instanceMethod yX1_init) (by decide +kernel)⟩ (g_preS hG hS (fun q h => Nat.le_trans hab h)) rfl rfl hl.1 rfl (lv_room (Nat.le_of_ble_eq_true rfl)) dX4_init_97 ⟨Nat.le_of_ble_eq_true rfl, Nat.le_of_ble_eq_true rfl⟩) hS (fun q h => (show _ ≤ _ from Nat.le_trans (by omega) (show bx + 54 ≤ q from h))) (fun _ _ _ _ _ h => h.elim) (fun v H locs hp hz9 hk9 hS2 => ?_)
  obtain ⟨rfl, hs9, hc⟩ := hp
  have kq := fun (q : Nat) (h : q < bx + 54) => hk9 q (by omega) (fun h2 => by have : bx + 54 ≤ q := h2; omega)
  replace c0 := c0.kept (kq _ (by omega))
  replace c1 := c1.kept (kq _ (by omega))
  replace c2 := c2.kept (kq _ (by omega))
  replace c3 := c3.kept (kq _ (by omega))
  replace c4 := c4.kept (kq _ (by omega))
  replace c13 := c13.kept (kq _ (by omega))
  replace c5 := c5.keep (fun q h1 h2 => kq q (by omega))
  replace c6 := c6.keep (fun q h1 h2 => kq q (by omega))
  replace c7 := c7.keep (fun q h1 h2 => kq q (by omega))
  replace c8 := c8.keep (fun q h1 h2 => kq q (by omega))
  replace c9 := c9.keep (fun q h1 h2 => kq q (by omega))
  replace c10 := c10.keep (fun q h1 h2 => kq q (by omega))
  replace c11 := c11.keep (fun q h1 h2 => kq q (by omega))
  replace c12 := c12.keep (fun q h1 h2 => kq q (by omega))
  replace hK : ∀ q : Nat, q < bx → H[q]? = s.heap[q]? := fun q h => (kq q (by omega)).trans (hK q h)
  replace hsz : H.size = bx + 55 := by rw [hs9, hsz]
  replace c14 := hc
  replace hS := hS2
  clear hS2 hc hs9 hk9 hz9 kq
  refine W.eq (g2 := F0 m 100 ls [.ref (bx + 54), .int (z2 (1)), .ref (bx + 2)]) rfl ?_
  refine g_aast (n := 2) (f := (va_up (fun _ => none) 0 (some (bx + 53)))) hx hb hG hS 3 rfl c2 (Or.inl (show _ ≤ _ by omega)) c14 (r := (RX1, TX1, 2)) rfl 1 ⟨rfl, by decide, by decide⟩ dX4_init_100 (fun H locs he hz9 oq hS2 => ?_)
  replace c2 : ca D (bx + 2) (qA (ks 3) 2 (va_up (va_up (fun _ => none) 0 (some (bx + 53))) 1 (some (bx + 54)))) H := he
  replace c0 := c0.kept (oq _ (by omega))
  replace c1 := c1.kept (oq _ (by omega))
  replace c3 := c3.kept (oq _ (by omega))
  replace c4 := c4.kept (oq _ (by omega))
  replace c13 := c13.kept (oq _ (by omega))
  replace c14 := c14.kept (oq _ (by omega))
  replace c5 := c5.keep (fun q h1 h2 => oq q (by omega))
  replace c6 := c6.keep (fun q h1 h2 => oq q (by omega))
  replace c7 := c7.keep (fun q h1 h2 => oq q (by omega))
  replace c8 := c8.keep (fun q h1 h2 => oq q (by omega))
  replace c9 := c9.keep (fun q h1 h2 => oq q (by omega))
  replace c10 := c10.keep (fun q h1 h2 => oq q (by omega))
  replace c11 := c11.keep (fun q h1 h2 => oq q (by omega))
  replace c12 := c12.keep (fun q h1 h2 => oq q (by omega))
  replace hK : ∀ q : Nat, q < bx → H[q]? = s.heap[q]? := fun q h => (oq q (by omega)).trans (hK q h)
  replace hsz := hz9.trans hsz
  replace hS := hS2
  clear he oq hz9 hS2
  refine b_iinc (lv' := [(1, .int (z2 (2))), (0, .ref bx)]) hx hb dX4_init_101 hl (k := 0) rfl (by decide) rfl (fun ls hl => ?_)
  refine lv_goto (tgt := 83) hx hb dX4_init_104 (by decide) ?_
  refine lv_iload_n hx hb dX4_init_83 rfl (lv_at hl 0 rfl) ?_
  refine b_iconst hx hb dX4_init_84 ?_
  refine b_icmp_ge (tgt := 107) hx hb dX4_init_85 (by decide) ⟨⟨by omega, by omega⟩, ⟨by omega, by omega⟩⟩ (fun _ => ?_) (fun c => absurd c (by omega))
  exact g_vret hx hb hr hlocks hS ⟨Nat.le_of_ble_eq_true rfl, Nat.le_of_ble_eq_true rfl⟩ (⟨rfl, by rw [hsz0]; exact hsz, ⟨c0, qa_cong c1 (fun j hj => by rcases j with _ | _ | _ | _ | _ | _ | _ | _ | j <;> first | rfl | omega), qa_cong c2 (fun j hj => by rcases j with _ | _ | j <;> first | rfl | omega), c3, c4, (fun h hh => by rcases h with _ | _ | _ | _ | _ | _ | _ | _ | h <;> first | exact c5 | exact c6 | exact c7 | exact c8 | exact c9 | exact c10 | exact c11 | exact c12 | omega), (fun k hk => by rcases k with _ | _ | k <;> first | exact c13 | exact c14 | omega)⟩⟩) dX4_init_107
