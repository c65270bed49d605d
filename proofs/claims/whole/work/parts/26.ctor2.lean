/-! the street, the reference -/
set_option maxHeartbeats 40000000 in
set_option maxRecDepth 100000 in
theorem k_X4init (l : Launch) (D : va_G) (ks : Nat → ClassId) (bx : Nat) (H : Heap) {v0 v1 v2 v3 v4 v5 v6 : Value} (he0 : ca D bx (.inr (4, [v0, v1, v2, v3, v4, v5, v6])) H) (hsz0 : H.size = bx + 1) : KM l yX4_init wsX4_init ({ frames := 3, cells := 54, slots := 466, locals := 66 } : Room) D ks bx [.ref bx] H (RC (bx)) (fun v H1 => v = none ∧ H1.size = H.size + 54 ∧ BB D ks bx H1) (fun _ _ => False) := by
  refine KM.of (cc := cX4_init) (maxL := 2) (ret := none) (by decide) rfl (Nat.le_of_ble_eq_true rfl) ?_
  intro p e s m below meth c hx hb hml hr hlocks hown hname hts hext hH0 hG ls hl
  subst hH0
  have hown : s.vm.findClass RX4 = some m.cls := hown
  have hS : va_S (AR (RC (bx)) s.heap.size) s.heap s.heap [] := va_S.rf
  have hl : lv_has ls 2 [(0, .ref bx)] := hl
  have inX1 : ∀ w ∈ wsX10, w ∈ wsX4_init := by decide +kernel
  have inX2 : ∀ w ∈ wsX20, w ∈ wsX4_init := by decide +kernel
  have inX4 : ∀ w ∈ wsX40, w ∈ wsX4_init := by decide +kernel
  have hK : ∀ q : Nat, q < bx → s.heap[q]? = s.heap[q]? := fun q h => rfl
  have c0 := he0
  have hsz : s.heap.size = bx + 1 := hsz0
  have hab : bx ≤ bx := Nat.le_refl _
  refine lv_aload_n hx hb dX4_init_0 rfl (lv_at hl 0 rfl) ?_
  refine W.objInit hx hb hown (hts (.methodLink RX4 1 objectInit) (by decide +kernel)) (hts (.instanceMethod objectInit) (by decide +kernel)) (hts (.code objectInit ⟨#[0xb1]⟩ 1 none) (by decide +kernel)) rfl (by rw [hml]; exact hl.1) rfl dX4_init_1 (Nat.le_of_ble_eq_true rfl) (Nat.le_of_ble_eq_true rfl) ?_
  refine lv_aload_n hx hb dX4_init_4 rfl (lv_at hl 0 rfl) ?_
  refine b_bipush hx hb dX4_init_5 (by decide +kernel) ?_
  refine g_anew hx hb hts hown (by decide +kernel) (by decide +kernel) hG hS 4 rfl (N := 8) rfl (by decide) ⟨Nat.le_of_ble_eq_true rfl, Nat.le_of_ble_eq_true rfl⟩ dX4_init_7 (fun H hc z1 o1 hS2 => ?_)
  replace c0 := c0.kept (o1 _ c0.lt)
  replace hK : ∀ q : Nat, q < bx → H[q]? = s.heap[q]? := fun q h => (o1 q (by omega)).trans (hK q h)
  rw [hsz] at hc z1
  have c1 : ca D (bx + 1) (qA (ks 4) 8 (fun _ => none)) H := hc
  refine W.eq (g2 := F0 m 10 ls [.ref (bx + 1), .ref bx]) (by rw [hsz]) ?_
  replace hsz : H.size = bx + 2 := z1
  replace hS := hS2
  clear hS2 hc o1 z1
  refine g_putF (C := RX4) (T := TX4) (N := 7) hx hb hts inX4 tyX4 tyX4_ok nmX4 hown hname hG hS c0 (Or.inl (show _ ≤ _ by omega)) rfl 0 (by decide) (by decide +kernel) rfl rfl (v := .ref (bx + 1)) rfl rfl (Nat.le_of_ble_eq_true rfl) dX4_init_10 (fun H locs he hz9 oq hS2 => ?_)
  replace c0 : ca D (bx) (.inr (4, [.ref (bx + 1), v1, v2, v3, v4, v5, v6])) H := he
  replace c1 := c1.kept (oq _ (by omega))
  replace hK : ∀ q : Nat, q < bx → H[q]? = s.heap[q]? := fun q h => (oq q (by omega)).trans (hK q h)
  replace hsz := hz9.trans hsz
  replace hS := hS2
  clear he oq hz9 hS2
  refine lv_aload_n hx hb dX4_init_13 rfl (lv_at hl 0 rfl) ?_
  refine b_iconst hx hb dX4_init_14 ?_
  refine g_anew hx hb hts hown (by decide +kernel) (by decide +kernel) hG hS 3 rfl (N := 2) rfl (by decide) ⟨Nat.le_of_ble_eq_true rfl, Nat.le_of_ble_eq_true rfl⟩ dX4_init_15 (fun H hc z1 o1 hS2 => ?_)
  replace c0 := c0.kept (o1 _ c0.lt)
  replace c1 := c1.kept (o1 _ c1.lt)
  replace hK : ∀ q : Nat, q < bx → H[q]? = s.heap[q]? := fun q h => (o1 q (by omega)).trans (hK q h)
  rw [hsz] at hc z1
  have c2 : ca D (bx + 2) (qA (ks 3) 2 (fun _ => none)) H := hc
  refine W.eq (g2 := F0 m 18 ls [.ref (bx + 2), .ref bx]) (by rw [hsz]) ?_
  replace hsz : H.size = bx + 3 := z1
  replace hS := hS2
  clear hS2 hc o1 z1
  refine g_putF (C := RX4) (T := TX4) (N := 7) hx hb hts inX4 tyX4 tyX4_ok nmX4 hown hname hG hS c0 (Or.inl (show _ ≤ _ by omega)) rfl 1 (by decide) (by decide +kernel) rfl rfl (v := .ref (bx + 2)) rfl rfl (Nat.le_of_ble_eq_true rfl) dX4_init_18 (fun H locs he hz9 oq hS2 => ?_)
  replace c0 : ca D (bx) (.inr (4, [.ref (bx + 1), .ref (bx + 2), v2, v3, v4, v5, v6])) H := he
  replace c1 := c1.kept (oq _ (by omega))
  replace c2 := c2.kept (oq _ (by omega))
  replace hK : ∀ q : Nat, q < bx → H[q]? = s.heap[q]? := fun q h => (oq q (by omega)).trans (hK q h)
  replace hsz := hz9.trans hsz
  replace hS := hS2
  clear he oq hz9 hS2
  refine lv_aload_n hx hb dX4_init_21 rfl (lv_at hl 0 rfl) ?_
  refine b_bipush hx hb dX4_init_22 (by decide +kernel) ?_
  refine g_anew hx hb hts hown (by decide +kernel) (by decide +kernel) hG hS 5 rfl (N := 12) rfl (by decide) ⟨Nat.le_of_ble_eq_true rfl, Nat.le_of_ble_eq_true rfl⟩ dX4_init_24 (fun H hc z1 o1 hS2 => ?_)
  replace c0 := c0.kept (o1 _ c0.lt)
  replace c1 := c1.kept (o1 _ c1.lt)
  replace c2 := c2.kept (o1 _ c2.lt)
  replace hK : ∀ q : Nat, q < bx → H[q]? = s.heap[q]? := fun q h => (o1 q (by omega)).trans (hK q h)
  rw [hsz] at hc z1
  have c3 : ca D (bx + 3) (qA (ks 5) 12 (fun _ => none)) H := hc
  refine W.eq (g2 := F0 m 27 ls [.ref (bx + 3), .ref bx]) (by rw [hsz]) ?_
  replace hsz : H.size = bx + 4 := z1
  replace hS := hS2
  clear hS2 hc o1 z1
  refine g_putF (C := RX4) (T := TX4) (N := 7) hx hb hts inX4 tyX4 tyX4_ok nmX4 hown hname hG hS c0 (Or.inl (show _ ≤ _ by omega)) rfl 2 (by decide) (by decide +kernel) rfl rfl (v := .ref (bx + 3)) rfl rfl (Nat.le_of_ble_eq_true rfl) dX4_init_27 (fun H locs he hz9 oq hS2 => ?_)
  replace c0 : ca D (bx) (.inr (4, [.ref (bx + 1), .ref (bx + 2), .ref (bx + 3), v3, v4, v5, v6])) H := he
  replace c1 := c1.kept (oq _ (by omega))
  replace c2 := c2.kept (oq _ (by omega))
  replace c3 := c3.kept (oq _ (by omega))
  replace hK : ∀ q : Nat, q < bx → H[q]? = s.heap[q]? := fun q h => (oq q (by omega)).trans (hK q h)
  replace hsz := hz9.trans hsz
  replace hS := hS2
  clear he oq hz9 hS2
  refine lv_aload_n hx hb dX4_init_30 rfl (lv_at hl 0 rfl) ?_
  refine b_bipush hx hb dX4_init_31 (by decide +kernel) ?_
  refine g_newa (atype := .int) (ty := .int) hx hb hts (by decide +kernel) hG hS 0 rfl rfl (fun h => h) (N := 100) (100, .inl (fun _ => z2 0)) (za_i 100) rfl (by decide) (by decide) ⟨Nat.le_of_ble_eq_true rfl, Nat.le_of_ble_eq_true rfl⟩ dX4_init_33 (fun H hc z1 o1 hS2 => ?_)
  replace c0 := c0.kept (o1 _ c0.lt)
  replace c1 := c1.kept (o1 _ c1.lt)
  replace c2 := c2.kept (o1 _ c2.lt)
  replace c3 := c3.kept (o1 _ c3.lt)
  replace hK : ∀ q : Nat, q < bx → H[q]? = s.heap[q]? := fun q h => (o1 q (by omega)).trans (hK q h)
  rw [hsz] at hc z1
  have c4 : ca D (bx + 4) (iA (ks 0) 100 (fun _ => z2 0)) H := hc
  refine W.eq (g2 := F0 m 35 ls [.ref (bx + 4), .ref bx]) (by rw [hsz]) ?_
  replace hsz : H.size = bx + 5 := z1
  replace hS := hS2
  clear hS2 hc o1 z1
  refine g_putF (C := RX4) (T := TX4) (N := 7) hx hb hts inX4 tyX4 tyX4_ok nmX4 hown hname hG hS c0 (Or.inl (show _ ≤ _ by omega)) rfl 3 (by decide) (by decide +kernel) rfl rfl (v := .ref (bx + 4)) rfl rfl (Nat.le_of_ble_eq_true rfl) dX4_init_35 (fun H locs he hz9 oq hS2 => ?_)
  replace c0 : ca D (bx) (.inr (4, [.ref (bx + 1), .ref (bx + 2), .ref (bx + 3), .ref (bx + 4), v4, v5, v6])) H := he
  replace c1 := c1.kept (oq _ (by omega))
  replace c2 := c2.kept (oq _ (by omega))
  replace c3 := c3.kept (oq _ (by omega))
  replace c4 := c4.kept (oq _ (by omega))
  replace hK : ∀ q : Nat, q < bx → H[q]? = s.heap[q]? := fun q h => (oq q (by omega)).trans (hK q h)
  replace hsz := hz9.trans hsz
  replace hS := hS2
  clear he oq hz9 hS2
  refine lv_aload_n hx hb dX4_init_38 rfl (lv_at hl 0 rfl) ?_
  refine b_iconst hx hb dX4_init_39 ?_
  refine g_put (C := RX4) (T := TX4) (N := 7) hx hb hts inX4 tyX4 tyX4_ok nmX4 hown hG hS c0 (Or.inl (show _ ≤ _ by omega)) rfl 4 (by decide) (by decide +kernel) rfl rfl (v := .int (z2 (0))) rfl rfl (Nat.le_of_ble_eq_true rfl) dX4_init_40 (fun H locs he hz9 oq hS2 => ?_)
  replace c0 : ca D (bx) (.inr (4, [.ref (bx + 1), .ref (bx + 2), .ref (bx + 3), .ref (bx + 4), .int (z2 (0)), v5, v6])) H := he
  replace c1 := c1.kept (oq _ (by omega))
  replace c2 := c2.kept (oq _ (by omega))
  replace c3 := c3.kept (oq _ (by omega))
  replace c4 := c4.kept (oq _ (by omega))
  replace hK : ∀ q : Nat, q < bx → H[q]? = s.heap[q]? := fun q h => (oq q (by omega)).trans (hK q h)
  replace hsz := hz9.trans hsz
  replace hS := hS2
  clear he oq hz9 hS2
  refine lv_aload_n hx hb dX4_init_43 rfl (lv_at hl 0 rfl) ?_
  refine b_iconst hx hb dX4_init_44 ?_
  refine g_put (C := RX4) (T := TX4) (N := 7) hx hb hts inX4 tyX4 tyX4_ok nmX4 hown hG hS c0 (Or.inl (show _ ≤ _ by omega)) rfl 5 (by decide) (by decide +kernel) rfl rfl (v := .int (z2 (0))) rfl rfl (Nat.le_of_ble_eq_true rfl) dX4_init_45 (fun H locs he hz9 oq hS2 => ?_)
  replace c0 : ca D (bx) (.inr (4, [.ref (bx + 1), .ref (bx + 2), .ref (bx + 3), .ref (bx + 4), .int (z2 (0)), .int (z2 (0)), v6])) H := he
  replace c1 := c1.kept (oq _ (by omega))
  replace c2 := c2.kept (oq _ (by omega))
  replace c3 := c3.kept (oq _ (by omega))
  replace c4 := c4.kept (oq _ (by omega))
  replace hK : ∀ q : Nat, q < bx → H[q]? = s.heap[q]? := fun q h => (oq q (by omega)).trans (hK q h)
  replace hsz := hz9.trans hsz
  replace hS := hS2
  clear he oq hz9 hS2
  refine lv_aload_n hx hb dX4_init_48 rfl (lv_at hl 0 rfl) ?_
  refine b_iconst hx hb dX4_init_49 ?_
  refine g_put (C := RX4) (T := TX4) (N := 7) hx hb hts inX4 tyX4 tyX4_ok nmX4 hown hG hS c0 (Or.inl (show _ ≤ _ by omega)) rfl 6 (by decide) (by decide +kernel) rfl rfl (v := .int (z2 (0))) rfl rfl (Nat.le_of_ble_eq_true rfl) dX4_init_50 (fun H locs he hz9 oq hS2 => ?_)
  replace c0 : ca D (bx) (.inr (4, [.ref (bx + 1), .ref (bx + 2), .ref (bx + 3), .ref (bx + 4), .int (z2 (0)), .int (z2 (0)), .int (z2 (0))])) H := he
  replace c1 := c1.kept (oq _ (by omega))
  replace c2 := c2.kept (oq _ (by omega))
  replace c3 := c3.kept (oq _ (by omega))
  replace c4 := c4.kept (oq _ (by omega))
  replace hK : ∀ q : Nat, q < bx → H[q]? = s.heap[q]? := fun q h => (oq q (by omega)).trans (hK q h)
  replace hsz := hz9.trans hsz
  replace hS := hS2
  clear he oq hz9 hS2
  refine b_iconst hx hb dX4_init_53 ?_
  refine lv_istore_n (lv' := [(1, .int (z2 (0))), (0, .ref bx)]) hx hb dX4_init_54 rfl hl (by decide) rfl (fun ls hl => ?_)
  refine lv_iload_n hx hb dX4_init_55 rfl (lv_at hl 0 rfl) ?_
  refine b_bipush hx hb dX4_init_56 (by decide +kernel) ?_
  refine b_icmp_ge (tgt := 81) hx hb dX4_init_58 (by decide) ⟨⟨by omega, by omega⟩, ⟨by omega, by omega⟩⟩ (fun c => absurd c (by omega)) (fun _ => ?_)
  refine lv_aload_n hx hb dX4_init_61 rfl (lv_at hl 1 rfl) ?_
  refine g_get (C := RX4) (T := TX4) (N := 7) hx hb hts inX4 hown hG c0 rfl 0 (by decide) (by decide +kernel) rfl (v := .ref (bx + 1)) rfl dX4_init_62 ?_
  refine lv_iload_n hx hb dX4_init_65 rfl (lv_at hl 0 rfl) ?_
  refine g_new (C := RX2) (T := TX2) (N := 13) (fs := [.int (z2 0), .int (z2 0), .null, .null, .int (z2 0), .int (z2 0), .int (z2 0), .int (z2 0), .int (z2 0), .int (z2 0), .int (z2 0), .int (z2 0), .int (z2 0)]) hx hb hts inX2 tyX2 tyX2_ok hown (by decide +kernel) (by decide +kernel) (by decide +kernel) hG hS (ci := 2) rfl dfX2 ⟨Nat.le_of_ble_eq_true rfl, Nat.le_of_ble_eq_true rfl⟩ dX4_init_66 (fun H hc z1 o1 hS2 => ?_)
  replace c0 := c0.kept (o1 _ c0.lt)
  replace c1 := c1.kept (o1 _ c1.lt)
  replace c2 := c2.kept (o1 _ c2.lt)
  replace c3 := c3.kept (o1 _ c3.lt)
  replace c4 := c4.kept (o1 _ c4.lt)
  replace hK : ∀ q : Nat, q < bx → H[q]? = s.heap[q]? := fun q h => (o1 q (by omega)).trans (hK q h)
  rw [hsz] at hc z1
  have c5 : ca D (bx + 5) (.inr (2, [.int (z2 0), .int (z2 0), .null, .null, .int (z2 0), .int (z2 0), .int (z2 0), .int (z2 0), .int (z2 0), .int (z2 0), .int (z2 0), .int (z2 0), .int (z2 0)])) H := hc
  refine W.eq (g2 := F0 m 69 ls [.ref (bx + 5), .int (z2 (0)), .ref (bx + 1)]) (by rw [hsz]) ?_
  replace hsz : H.size = bx + 6 := z1
  replace hS := hS2
  clear hS2 hc o1 z1
  refine lv_dup hx hb dX4_init_69 rfl ?_
  refine lv_iload_n hx hb dX4_init_70 rfl (lv_at hl 0 rfl) ?_
  refine g_run (vx_runI (As := [.int (z2 (0))]) (rest := [.ref (bx + 5), .int (z2 (0)), .ref (bx + 1)]) ⟨hx, hb, hml, hown, hts⟩ (k_X2init l D ks bx (bx + 5) _ c5 (by omega) (hsz.trans (by omega)) 0 (by decide)) (cwI 1 hts gX4_init_X2_init rfl rfl rfl (hts (.initialized RX2) (by decide +kernel)) (hts (.methodLink RX4 41 yX2_init) (by decide +kernel)) (hts (.instanceMethod yX2_init) (by decide +kernel)) rfl (by decide +kernel) ⟨Nat.le_of_ble_eq_true rfl, Nat.le_of_ble_eq_true rfl⟩) (g_preS hG hS (fun q h => Nat.le_trans hab h)) rfl rfl hl.1 rfl (lv_room (Nat.le_of_ble_eq_true rfl)) dX4_init_71 ⟨Nat.le_of_ble_eq_true rfl, Nat.le_of_ble_eq_true rfl⟩) hS (fun q h => (show _ ≤ _ from Nat.le_trans (by omega) (show bx + 5 ≤ q from h))) (fun _ _ _ _ _ h => h.elim) (fun v H locs hp hz9 hk9 hS2 => ?_)
  obtain ⟨rfl, hs9, hc⟩ := hp
  have kq := fun (q : Nat) (h : q < bx + 5) => hk9 q (by omega) (fun h2 => by have : bx + 5 ≤ q := h2; omega)
  replace c0 := c0.kept (kq _ (by omega))
  replace c1 := c1.kept (kq _ (by omega))
  replace c2 := c2.kept (kq _ (by omega))
  replace c3 := c3.kept (kq _ (by omega))
  replace c4 := c4.kept (kq _ (by omega))
  replace hK : ∀ q : Nat, q < bx → H[q]? = s.heap[q]? := fun q h => (kq q (by omega)).trans (hK q h)
  replace hsz : H.size = bx + 11 := by rw [hs9, hsz]
  replace c5 := hc
  replace hS := hS2
  clear hS2 hc hs9 hk9 hz9 kq
  refine W.eq (g2 := F0 m 74 ls [.ref (bx + 5), .int (z2 (0)), .ref (bx + 1)]) rfl ?_
  refine g_aast (n := 8) (f := (fun _ => none)) hx hb hG hS 4 rfl c1 (Or.inl (show _ ≤ _ by omega)) c5.obj (r := (RX2, TX2, 13)) rfl 0 ⟨rfl, by decide, by decide⟩ dX4_init_74 (fun H locs he hz9 oq hS2 => ?_)
  replace c1 : ca D (bx + 1) (qA (ks 4) 8 (va_up (fun _ => none) 0 (some (bx + 5)))) H := he
  replace c0 := c0.kept (oq _ (by omega))
  replace c2 := c2.kept (oq _ (by omega))
  replace c3 := c3.kept (oq _ (by omega))
  replace c4 := c4.kept (oq _ (by omega))
  replace c5 := c5.keep (fun q h1 h2 => oq q (by omega))
  replace hK : ∀ q : Nat, q < bx → H[q]? = s.heap[q]? := fun q h => (oq q (by omega)).trans (hK q h)
  replace hsz := hz9.trans hsz
  replace hS := hS2
  clear he oq hz9 hS2
  refine b_iinc (lv' := [(1, .int (z2 (1))), (0, .ref bx)]) hx hb dX4_init_75 hl (k := 0) rfl (by decide) rfl (fun ls hl => ?_)
  refine lv_goto (tgt := 55) hx hb dX4_init_78 (by decide) ?_
  refine lv_iload_n hx hb dX4_init_55 rfl (lv_at hl 0 rfl) ?_
  refine b_bipush hx hb dX4_init_56 (by decide +kernel) ?_
  refine b_icmp_ge (tgt := 81) hx hb dX4_init_58 (by decide) ⟨⟨by omega, by omega⟩, ⟨by omega, by omega⟩⟩ (fun c => absurd c (by omega)) (fun _ => ?_)
  refine lv_aload_n hx hb dX4_init_61 rfl (lv_at hl 1 rfl) ?_
  refine g_get (C := RX4) (T := TX4) (N := 7) hx hb hts inX4 hown hG c0 rfl 0 (by decide) (by decide +kernel) rfl (v := .ref (bx + 1)) rfl dX4_init_62 ?_
  refine lv_iload_n hx hb dX4_init_65 rfl (lv_at hl 0 rfl) ?_
  refine g_new (C := RX2) (T := TX2) (N := 13) (fs := [.int (z2 0), .int (z2 0), .null, .null, .int (z2 0), .int (z2 0), .int (z2 0), .int (z2 0), .int (z2 0), .int (z2 0), .int (z2 0), .int (z2 0), .int (z2 0)]) hx hb hts inX2 tyX2 tyX2_ok hown (by decide +kernel) (by decide +kernel) (by decide +kernel) hG hS (ci := 2) rfl dfX2 ⟨Nat.le_of_ble_eq_true rfl, Nat.le_of_ble_eq_true rfl⟩ dX4_init_66 (fun H hc z1 o1 hS2 => ?_)
  replace c0 := c0.kept (o1 _ c0.lt)
  replace c1 := c1.kept (o1 _ c1.lt)
  replace c2 := c2.kept (o1 _ c2.lt)
  replace c3 := c3.kept (o1 _ c3.lt)
  replace c4 := c4.kept (o1 _ c4.lt)
  replace c5 := c5.keep (fun q h1 h2 => o1 q (by omega))
  replace hK : ∀ q : Nat, q < bx → H[q]? = s.heap[q]? := fun q h => (o1 q (by omega)).trans (hK q h)
  rw [hsz] at hc z1
  have c6 : ca D (bx + 11) (.inr (2, [.int (z2 0), .int (z2 0), .null, .null, .int (z2 0), .int (z2 0), .int (z2 0), .int (z2 0), .int (z2 0), .int (z2 0), .int (z2 0), .int (z2 0), .int (z2 0)])) H := hc
  refine W.eq (g2 := F0 m 69 ls [.ref (bx + 11), .int (z2 (1)), .ref (bx + 1)]) (by rw [hsz]) ?_
  replace hsz : H.size = bx + 12 := z1
  replace hS := hS2
  clear hS2 hc o1 z1
  refine lv_dup hx hb dX4_init_69 rfl ?_
  refine lv_iload_n hx hb dX4_init_70 rfl (lv_at hl 0 rfl) ?_
  refine g_run (vx_runI (As := [.int (z2 (1))]) (rest := [.ref (bx + 11), .int (z2 (1)), .ref (bx + 1)]) ⟨hx, hb, hml, hown, hts⟩ (k_X2init l D ks bx (bx + 11) _ c6 (by omega) (hsz.trans (by omega)) 1 (by decide)) (cwI 1 hts gX4_init_X2_init rfl rfl rfl (hts (.initialized RX2) (by decide +kernel)) (hts (.methodLink RX4 41 yX2_init) (by decide +kernel)) (hts (.instanceMethod yX2_init) (by decide +kernel)) rfl (by decide +kernel) ⟨Nat.le_of_ble_eq_true rfl, Nat.le_of_ble_eq_true rfl⟩) (g_preS hG hS (fun q h => Nat.le_trans hab h)) rfl rfl hl.1 rfl (lv_room (Nat.le_of_ble_eq_true rfl)) dX4_init_71 ⟨Nat.le_of_ble_eq_true rfl, Nat.le_of_ble_eq_true rfl⟩) hS (fun q h => (show _ ≤ _ from Nat.le_trans (by omega) (show bx + 11 ≤ q from h))) (fun _ _ _ _ _ h => h.elim) (fun v H locs hp hz9 hk9 hS2 => ?_)
  obtain ⟨rfl, hs9, hc⟩ := hp
  have kq := fun (q : Nat) (h : q < bx + 11) => hk9 q (by omega) (fun h2 => by have : bx + 11 ≤ q := h2; omega)
  replace c0 := c0.kept (kq _ (by omega))
  replace c1 := c1.kept (kq _ (by omega))
  replace c2 := c2.kept (kq _ (by omega))
  replace c3 := c3.kept (kq _ (by omega))
  replace c4 := c4.kept (kq _ (by omega))
  replace c5 := c5.keep (fun q h1 h2 => kq q (by omega))
  replace hK : ∀ q : Nat, q < bx → H[q]? = s.heap[q]? := fun q h => (kq q (by omega)).trans (hK q h)
  replace hsz : H.size = bx + 17 := by rw [hs9, hsz]
  replace c6 := hc
  replace hS := hS2
  clear hS2 hc hs9 hk9 hz9 kq
  refine W.eq (g2 := F0 m 74 ls [.ref (bx + 11), .int (z2 (1)), .ref (bx + 1)]) rfl ?_
  refine g_aast (n := 8) (f := (va_up (fun _ => none) 0 (some (bx + 5)))) hx hb hG hS 4 rfl c1 (Or.inl (show _ ≤ _ by omega)) c6.obj (r := (RX2, TX2, 13)) rfl 1 ⟨rfl, by decide, by decide⟩ dX4_init_74 (fun H locs he hz9 oq hS2 => ?_)
  replace c1 : ca D (bx + 1) (qA (ks 4) 8 (va_up (va_up (fun _ => none) 0 (some (bx + 5))) 1 (some (bx + 11)))) H := he
  replace c0 := c0.kept (oq _ (by omega))
  replace c2 := c2.kept (oq _ (by omega))
  replace c3 := c3.kept (oq _ (by omega))
  replace c4 := c4.kept (oq _ (by omega))
  replace c5 := c5.keep (fun q h1 h2 => oq q (by omega))
  replace c6 := c6.keep (fun q h1 h2 => oq q (by omega))
  replace hK : ∀ q : Nat, q < bx → H[q]? = s.heap[q]? := fun q h => (oq q (by omega)).trans (hK q h)
  replace hsz := hz9.trans hsz
  replace hS := hS2
  clear he oq hz9 hS2
  refine b_iinc (lv' := [(1, .int (z2 (2))), (0, .ref bx)]) hx hb dX4_init_75 hl (k := 0) rfl (by decide) rfl (fun ls hl => ?_)
  refine lv_goto (tgt := 55) hx hb dX4_init_78 (by decide) ?_
  refine lv_iload_n hx hb dX4_init_55 rfl (lv_at hl 0 rfl) ?_
  refine b_bipush hx hb dX4_init_56 (by decide +kernel) ?_
  refine b_icmp_ge (tgt := 81) hx hb dX4_init_58 (by decide) ⟨⟨by omega, by omega⟩, ⟨by omega, by omega⟩⟩ (fun c => absurd c (by omega)) (fun _ => ?_)
  refine lv_aload_n hx hb dX4_init_61 rfl (lv_at hl 1 rfl) ?_
  refine g_get (C := RX4) (T := TX4) (N := 7) hx hb hts inX4 hown hG c0 rfl 0 (by decide) (by decide +kernel) rfl (v := .ref (bx + 1)) rfl dX4_init_62 ?_
  refine lv_iload_n hx hb dX4_init_65 rfl (lv_at hl 0 rfl) ?_
  refine g_new (C := RX2) (T := TX2) (N := 13) (fs := [.int (z2 0), .int (z2 0), .null, .null, .int (z2 0), .int (z2 0), .int (z2 0), .int (z2 0), .int (z2 0), .int (z2 0), .int (z2 0), .int (z2 0), .int (z2 0)]) hx hb hts inX2 tyX2 tyX2_ok hown (by decide +kernel) (by decide +kernel) (by decide +kernel) hG hS (ci := 2) rfl dfX2 ⟨Nat.le_of_ble_eq_true rfl, Nat.le_of_ble_eq_true rfl⟩ dX4_init_66 (fun H hc z1 o1 hS2 => ?_)
  replace c0 := c0.kept (o1 _ c0.lt)
  replace c1 := c1.kept (o1 _ c1.lt)
  replace c2 := c2.kept (o1 _ c2.lt)
  replace c3 := c3.kept (o1 _ c3.lt)
  replace c4 := c4.kept (o1 _ c4.lt)
  replace c5 := c5.keep (fun q h1 h2 => o1 q (by omega))
  replace c6 := c6.keep (fun q h1 h2 => o1 q (by omega))
  replace hK : ∀ q : Nat, q < bx → H[q]? = s.heap[q]? := fun q h => (o1 q (by omega)).trans (hK q h)
  rw [hsz] at hc z1
  have c7 : ca D (bx + 17) (.inr (2, [.int (z2 0), .int (z2 0), .null, .null, .int (z2 0), .int (z2 0), .int (z2 0), .int (z2 0), .int (z2 0), .int (z2 0), .int (z2 0), .int (z2 0), .int (z2 0)])) H := hc
  refine W.eq (g2 := F0 m 69 ls [.ref (bx + 17), .int (z2 (2)), .ref (bx + 1)]) (by rw [hsz]) ?_
  replace hsz : H.size = bx + 18 := z1
  replace hS := hS2
  clear hS2 hc o1 z1
  refine lv_dup hx hb dX4_init_69 rfl ?_
  refine lv_iload_n hx hb dX4_init_70 rfl (lv_at hl 0 rfl) ?_
  refine g_run (vx_runI (As := [.int (z2 (2))]) (rest := [.ref (bx + 17), .int (z2 (2)), .ref (bx + 1)]) ⟨hx, hb, hml, hown, hts⟩ (k_X2init l D ks bx (bx + 17) _ c7 (by omega) (hsz.trans (by omega)) 2 (by decide)) (cwI 1 hts gX4_init_X2_init rfl rfl rfl (hts (.initialized RX2) (by decide +kernel)) (hts (.methodLink RX4 41 yX2_init) (by decide +kernel)) (hts (.instanceMethod yX2_init) (by decide +kernel)) rfl (by decide +kernel) ⟨Nat.le_of_ble_eq_true rfl, Nat.le_of_ble_eq_true rfl⟩) (g_preS hG hS (fun q h => Nat.le_trans hab h)) rfl rfl hl.1 rfl (lv_room (Nat.le_of_ble_eq_true rfl)) dX4_init_71 ⟨Nat.le_of_ble_eq_true rfl, Nat.le_of_ble_eq_true rfl⟩) hS (fun q h => (show _ ≤ _ from Nat.le_trans (by omega) (show bx + 17 ≤ q from h))) (fun _ _ _ _ _ h => h.elim) (fun v H locs hp hz9 hk9 hS2 => ?_)
  obtain ⟨rfl, hs9, hc⟩ := hp
  have kq := fun (q : Nat) (h : q < bx + 17) => hk9 q (by omega) (fun h2 => by have : bx + 17 ≤ q := h2; omega)
  replace c0 := c0.kept (kq _ (by omega))
  replace c1 := c1.kept (kq _ (by omega))
  replace c2 := c2.kept (kq _ (by omega))
  replace c3 := c3.kept (kq _ (by omega))
  replace c4 := c4.kept (kq _ (by omega))
  replace c5 := c5.keep (fun q h1 h2 => kq q (by omega))
  replace c6 := c6.keep (fun q h1 h2 => kq q (by omega))
  replace hK : ∀ q : Nat, q < bx → H[q]? = s.heap[q]? := fun q h => (kq q (by omega)).trans (hK q h)
  replace hsz : H.size = bx + 23 := by rw [hs9, hsz]
  replace c7 := hc
  replace hS := hS2
  clear hS2 hc hs9 hk9 hz9 kq
  refine W.eq (g2 := F0 m 74 ls [.ref (bx + 17), .int (z2 (2)), .ref (bx + 1)]) rfl ?_
  refine g_aast (n := 8) (f := (va_up (va_up (fun _ => none) 0 (some (bx + 5))) 1 (some (bx + 11)))) hx hb hG hS 4 rfl c1 (Or.inl (show _ ≤ _ by omega)) c7.obj (r := (RX2, TX2, 13)) rfl 2 ⟨rfl, by decide, by decide⟩ dX4_init_74 (fun H locs he hz9 oq hS2 => ?_)
  replace c1 : ca D (bx + 1) (qA (ks 4) 8 (va_up (va_up (va_up (fun _ => none) 0 (some (bx + 5))) 1 (some (bx + 11))) 2 (some (bx + 17)))) H := he
  replace c0 := c0.kept (oq _ (by omega))
  replace c2 := c2.kept (oq _ (by omega))
  replace c3 := c3.kept (oq _ (by omega))
  replace c4 := c4.kept (oq _ (by omega))
  replace c5 := c5.keep (fun q h1 h2 => oq q (by omega))
  replace c6 := c6.keep (fun q h1 h2 => oq q (by omega))
  replace c7 := c7.keep (fun q h1 h2 => oq q (by omega))
  replace hK : ∀ q : Nat, q < bx → H[q]? = s.heap[q]? := fun q h => (oq q (by omega)).trans (hK q h)
  replace hsz := hz9.trans hsz
  replace hS := hS2
  clear he oq hz9 hS2
  refine b_iinc (lv' := [(1, .int (z2 (3))), (0, .ref bx)]) hx hb dX4_init_75 hl (k := 0) rfl (by decide) rfl (fun ls hl => ?_)
  refine lv_goto (tgt := 55) hx hb dX4_init_78 (by decide) ?_
  refine lv_iload_n hx hb dX4_init_55 rfl (lv_at hl 0 rfl) ?_
  refine b_bipush hx hb dX4_init_56 (by decide +kernel) ?_
  refine b_icmp_ge (tgt := 81) hx hb dX4_init_58 (by decide) ⟨⟨by omega, by omega⟩, ⟨by omega, by omega⟩⟩ (fun c => absurd c (by omega)) (fun _ => ?_)
  refine lv_aload_n hx hb dX4_init_61 rfl (lv_at hl 1 rfl) ?_
  refine g_get (C := RX4) (T := TX4) (N := 7) hx hb hts inX4 hown hG c0 rfl 0 (by decide) (by decide +kernel) rfl (v := .ref (bx + 1)) rfl dX4_init_62 ?_
  refine lv_iload_n hx hb dX4_init_65 rfl (lv_at hl 0 rfl) ?_
  refine g_new (C := RX2) (T := TX2) (N := 13) (fs := [.int (z2 0), .int (z2 0), .null, .null, .int (z2 0), .int (z2 0), .int (z2 0), .int (z2 0), .int (z2 0), .int (z2 0), .int (z2 0), .int (z2 0), .int (z2 0)]) hx hb hts inX2 tyX2 tyX2_ok hown (by decide +kernel) (by decide +kernel) (by decide +kernel) hG hS (ci := 2) rfl dfX2 ⟨Nat.le_of_ble_eq_true rfl, Nat.le_of_ble_eq_true rfl⟩ dX4_init_66 (fun H hc z1 o1 hS2 => ?_)
  replace c0 := c0.kept (o1 _ c0.lt)
  replace c1 := c1.kept (o1 _ c1.lt)
  replace c2 := c2.kept (o1 _ c2.lt)
  replace c3 := c3.kept (o1 _ c3.lt)
  replace c4 := c4.kept (o1 _ c4.lt)
  replace c5 := c5.keep (fun q h1 h2 => o1 q (by omega))
  replace c6 := c6.keep (fun q h1 h2 => o1 q (by omega))
  replace c7 := c7.keep (fun q h1 h2 => o1 q (by omega))
  replace hK : ∀ q : Nat, q < bx → H[q]? = s.heap[q]? := fun q h => (o1 q (by omega)).trans (hK q h)
  rw [hsz] at hc z1
  have c8 : ca D (bx + 23) (.inr (2, [.int (z2 0), .int (z2 0), .null, .null, .int (z2 0), .int (z2 0), .int (z2 0), .int (z2 0), .int (z2 0), .int (z2 0), .int (z2 0), .int (z2 0), .int (z2 0)])) H := hc
  refine W.eq (g2 := F0 m 69 ls [.ref (bx + 23), .int (z2 (3)), .ref (bx + 1)]) (by rw [hsz]) ?_
  replace hsz : H.size = bx + 24 := z1
  replace hS := hS2
  clear hS2 hc o1 z1
  refine lv_dup hx hb dX4_init_69 rfl ?_
  refine lv_iload_n hx hb dX4_init_70 rfl (lv_at hl 0 rfl) ?_
  refine g_run (vx_runI (As := [.int (z2 (3))]) (rest := [.ref (bx + 23), .int (z2 (3)), .ref (bx + 1)]) ⟨hx, hb, hml, hown, hts⟩ (k_X2init l D ks bx (bx + 23) _ c8 (by omega) (hsz.trans (by omega)) 3 (by decide)) (cwI 1 hts gX4_init_X2_init rfl rfl rfl (hts (.initialized RX2) (by decide +kernel)) (hts (.methodLink RX4 41 yX2_init) (by decide +kernel)) (hts (.instanceMethod yX2_init) (by decide +kernel)) rfl (by decide +kernel) ⟨Nat.le_of_ble_eq_true rfl, Nat.le_of_ble_eq_true rfl⟩) (g_preS hG hS (fun q h => Nat.le_trans hab h)) rfl rfl hl.1 rfl (lv_room (Nat.le_of_ble_eq_true rfl)) dX4_init_71 ⟨Nat.le_of_ble_eq_true rfl, Nat.le_of_ble_eq_true rfl⟩) hS (fun q h => (show _ ≤ _ from Nat.le_trans (by omega) (show bx + 23 ≤ q from h))) (fun _ _ _ _ _ h => h.elim) (fun v H locs hp hz9 hk9 hS2 => ?_)
  obtain ⟨rfl, hs9, hc⟩ := hp
  have kq := fun (q : Nat) (h : q < bx + 23) => hk9 q (by omega) (fun h2 => by have : bx + 23 ≤ q := h2; omega)
  replace c0 := c0.kept (kq _ (by omega))
  replace c1 := c1.kept (kq _ (by omega))
  replace c2 := c2.kept (kq _ (by omega))
  replace c3 := c3.kept (kq _ (by omega))
  replace c4 := c4.kept (kq _ (by omega))
  replace c5 := c5.keep (fun q h1 h2 => kq q (by omega))
  replace c6 := c6.keep (fun q h1 h2 => kq q (by omega))
  replace c7 := c7.keep (fun q h1 h2 => kq q (by omega))
  replace hK : ∀ q : Nat, q < bx → H[q]? = s.heap[q]? := fun q h => (kq q (by omega)).trans (hK q h)
  replace hsz : H.size = bx + 29 := by rw [hs9, hsz]
  replace c8 := hc
  replace hS := hS2
  clear hS2 hc hs9 hk9 hz9 kq
  refine W.eq (g2 := F0 m 74 ls [.ref (bx + 23), .int (z2 (3)), .ref (bx + 1)]) rfl ?_
  refine g_aast (n := 8) (f := (va_up (va_up (va_up (fun _ => none) 0 (some (bx + 5))) 1 (some (bx + 11))) 2 (some (bx + 17)))) hx hb hG hS 4 rfl c1 (Or.inl (show _ ≤ _ by omega)) c8.obj (r := (RX2, TX2, 13)) rfl 3 ⟨rfl, by decide, by decide⟩ dX4_init_74 (fun H locs he hz9 oq hS2 => ?_)
  replace c1 : ca D (bx + 1) (qA (ks 4) 8 (va_up (va_up (va_up (va_up (fun _ => none) 0 (some (bx + 5))) 1 (some (bx + 11))) 2 (some (bx + 17))) 3 (some (bx + 23)))) H := he
  replace c0 := c0.kept (oq _ (by omega))
  replace c2 := c2.kept (oq _ (by omega))
  replace c3 := c3.kept (oq _ (by omega))
  replace c4 := c4.kept (oq _ (by omega))
  replace c5 := c5.keep (fun q h1 h2 => oq q (by omega))
  replace c6 := c6.keep (fun q h1 h2 => oq q (by omega))
  replace c7 := c7.keep (fun q h1 h2 => oq q (by omega))
  replace c8 := c8.keep (fun q h1 h2 => oq q (by omega))
  replace hK : ∀ q : Nat, q < bx → H[q]? = s.heap[q]? := fun q h => (oq q (by omega)).trans (hK q h)
  replace hsz := hz9.trans hsz
  replace hS := hS2
  clear he oq hz9 hS2
  refine b_iinc (lv' := [(1, .int (z2 (4))), (0, .ref bx)]) hx hb dX4_init_75 hl (k := 0) rfl (by decide) rfl (fun ls hl => ?_)
  refine lv_goto (tgt := 55) hx hb dX4_init_78 (by decide) ?_
  refine lv_iload_n hx hb dX4_init_55 rfl (lv_at hl 0 rfl) ?_
  refine b_bipush hx hb dX4_init_56 (by decide +kernel) ?_
  refine b_icmp_ge (tgt := 81) hx hb dX4_init_58 (by decide) ⟨⟨by omega, by omega⟩, ⟨by omega, by omega⟩⟩ (fun c => absurd c (by omega)) (fun _ => ?_)
  refine lv_aload_n hx hb dX4_init_61 rfl (lv_at hl 1 rfl) ?_
  refine g_get (C := RX4) (T := TX4) (N := 7) hx hb hts inX4 hown hG c0 rfl 0 (by decide) (by decide +kernel) rfl (v := .ref (bx + 1)) rfl dX4_init_62 ?_
  refine lv_iload_n hx hb dX4_init_65 rfl (lv_at hl 0 rfl) ?_
  refine g_new (C := RX2) (T := TX2) (N := 13) (fs := [.int (z2 0), .int (z2 0), .null, .null, .int (z2 0), .int (z2 0), .int (z2 0), .int (z2 0), .int (z2 0), .int (z2 0), .int (z2 0), .int (z2 0), .int (z2 0)]) hx hb hts inX2 tyX2 tyX2_ok hown (by decide +kernel) (by decide +kernel) (by decide +kernel) hG hS (ci := 2) rfl dfX2 ⟨Nat.le_of_ble_eq_true rfl, Nat.le_of_ble_eq_true rfl⟩ dX4_init_66 (fun H hc z1 o1 hS2 => ?_)
  replace c0 := c0.kept (o1 _ c0.lt)
  replace c1 := c1.kept (o1 _ c1.lt)
  replace c2 := c2.kept (o1 _ c2.lt)
  replace c3 := c3.kept (o1 _ c3.lt)
  replace c4 := c4.kept (o1 _ c4.lt)
  replace c5 := c5.keep (fun q h1 h2 => o1 q (by omega))
  replace c6 := c6.keep (fun q h1 h2 => o1 q (by omega))
  replace c7 := c7.keep (fun q h1 h2 => o1 q (by omega))
  replace c8 := c8.keep (fun q h1 h2 => o1 q (by omega))
  replace hK : ∀ q : Nat, q < bx → H[q]? = s.heap[q]? := fun q h => (o1 q (by omega)).trans (hK q h)
  rw [hsz] at hc z1
  have c9 : ca D (bx + 29) (.inr (2, [.int (z2 0), .int (z2 0), .null, .null, .int (z2 0), .int (z2 0), .int (z2 0), .int (z2 0), .int (z2 0), .int (z2 0), .int (z2 0), .int (z2 0), .int (z2 0)])) H := hc
  refine W.eq (g2 := F0 m 69 ls [.ref (bx + 29), .int (z2 (4)), .ref (bx + 1)]) (by rw [hsz]) ?_
  replace hsz : H.size = bx + 30 := z1
  replace hS := hS2
  clear hS2 hc o1 z1
  refine lv_dup hx hb dX4_init_69 rfl ?_
  refine lv_iload_n hx hb dX4_init_70 rfl (lv_at hl 0 rfl) ?_
  refine g_run (vx_runI (As := [.int (z2 (4))]) (rest := [.ref (bx + 29), .int (z2 (4)), .ref (bx + 1)]) ⟨hx, hb, hml, hown, hts⟩ (k_X2init l D ks bx (bx + 29) _ c9 (by omega) (hsz.trans (by omega)) 4 (by decide)) (cwI 1 hts gX4_init_X2_init rfl rfl rfl (hts (.initialized RX2) (by decide +kernel)) (hts (.methodLink RX4 41 yX2_init) (by decide +kernel)) (hts (.instanceMethod yX2_init) (by decide +kernel)) rfl (by decide +kernel) ⟨Nat.le_of_ble_eq_true rfl, Nat.le_of_ble_eq_true rfl⟩) (g_preS hG hS (fun q h => Nat.le_trans hab h)) rfl rfl hl.1 rfl (lv_room (Nat.le_of_ble_eq_true rfl)) dX4_init_71 ⟨Nat.le_of_ble_eq_true rfl, Nat.le_of_ble_eq_true rfl⟩) hS (fun q h => (show _ ≤ _ from Nat.le_trans (by omega) (show bx + 29 ≤ q from h))) (fun _ _ _ _ _ h => h.elim) (fun v H locs hp hz9 hk9 hS2 => ?_)
  obtain ⟨rfl, hs9, hc⟩ := hp
  have kq := fun (q : Nat) (h : q < bx + 29) => hk9 q (by omega) (fun h2 => by have : bx + 29 ≤ q := h2; omega)
  replace c0 := c0.kept (kq _ (by omega))
  replace c1 := c1.kept (kq _ (by omega))
  replace c2 := c2.kept (kq _ (by omega))
  replace c3 := c3.kept (kq _ (by omega))
  replace c4 := c4.kept (kq _ (by omega))
  replace c5 := c5.keep (fun q h1 h2 => kq q (by omega))
  replace c6 := c6.keep (fun q h1 h2 => kq q (by omega))
  replace c7 := c7.keep (fun q h1 h2 => kq q (by omega))
  replace c8 := c8.keep (fun q h1 h2 => kq q (by omega))
  replace hK : ∀ q : Nat, q < bx → H[q]? = s.heap[q]? := fun q h => (kq q (by omega)).trans (hK q h)
  replace hsz : H.size = bx + 35 := by rw [hs9, hsz]
  replace c9 := hc
  replace hS := hS2
  clear hS2 hc hs9 hk9 hz9 kq
  refine W.eq (g2 := F0 m 74 ls [.ref (bx + 29), .int (z2 (4)), .ref (bx + 1)]) rfl ?_
  refine g_aast (n := 8) (f := (va_up (va_up (va_up (va_up (fun _ => none) 0 (some (bx + 5))) 1 (some (bx + 11))) 2 (some (bx + 17))) 3 (some (bx + 23)))) hx hb hG hS 4 rfl c1 (Or.inl (show _ ≤ _ by omega)) c9.obj (r := (RX2, TX2, 13)) rfl 4 ⟨rfl, by decide, by decide⟩ dX4_init_74 (fun H locs he hz9 oq hS2 => ?_)
  replace c1 : ca D (bx + 1) (qA (ks 4) 8 (va_up (va_up (va_up (va_up (va_up (fun _ => none) 0 (some (bx + 5))) 1 (some (bx + 11))) 2 (some (bx + 17))) 3 (some (bx + 23))) 4 (some (bx + 29)))) H := he
  replace c0 := c0.kept (oq _ (by omega))
  replace c2 := c2.kept (oq _ (by omega))
  replace c3 := c3.kept (oq _ (by omega))
  replace c4 := c4.kept (oq _ (by omega))
  replace c5 := c5.keep (fun q h1 h2 => oq q (by omega))
  replace c6 := c6.keep (fun q h1 h2 => oq q (by omega))
  replace c7 := c7.keep (fun q h1 h2 => oq q (by omega))
  replace c8 := c8.keep (fun q h1 h2 => oq q (by omega))
  replace c9 := c9.keep (fun q h1 h2 => oq q (by omega))
  replace hK : ∀ q : Nat, q < bx → H[q]? = s.heap[q]? := fun q h => (oq q (by omega)).trans (hK q h)
  replace hsz := hz9.trans hsz
  replace hS := hS2
  clear he oq hz9 hS2
  refine b_iinc (lv' := [(1, .int (z2 (5))), (0, .ref bx)]) hx hb dX4_init_75 hl (k := 0) rfl (by decide) rfl (fun ls hl => ?_)
  refine lv_goto (tgt := 55) hx hb dX4_init_78 (by decide) ?_
  refine lv_iload_n hx hb dX4_init_55 rfl (lv_at hl 0 rfl) ?_
  refine b_bipush hx hb dX4_init_56 (by decide +kernel) ?_
  refine b_icmp_ge (tgt := 81) hx hb dX4_init_58 (by decide) ⟨⟨by omega, by omega⟩, ⟨by omega, by omega⟩⟩ (fun c => absurd c (by omega)) (fun _ => ?_)
  refine lv_aload_n hx hb dX4_init_61 rfl (lv_at hl 1 rfl) ?_
  refine g_get (C := RX4) (T := TX4) (N := 7) hx hb hts inX4 hown hG c0 rfl 0 (by decide) (by decide +kernel) rfl (v := .ref (bx + 1)) rfl dX4_init_62 ?_
  refine lv_iload_n hx hb dX4_init_65 rfl (lv_at hl 0 rfl) ?_
  refine g_new (C := RX2) (T := TX2) (N := 13) (fs := [.int (z2 0), .int (z2 0), .null, .null, .int (z2 0), .int (z2 0), .int (z2 0), .int (z2 0), .int (z2 0), .int (z2 0), .int (z2 0), .int (z2 0), .int (z2 0)]) hx hb hts inX2 tyX2 tyX2_ok hown (by decide +kernel) (by decide +kernel) (by decide +kernel) hG hS (ci := 2) rfl dfX2 ⟨Nat.le_of_ble_eq_true rfl, Nat.le_of_ble_eq_true rfl⟩ dX4_init_66 (fun H hc z1 o1 hS2 => ?_)
  replace c0 := c0.kept (o1 _ c0.lt)
  replace c1 := c1.kept (o1 _ c1.lt)
  replace c2 := c2.kept (o1 _ c2.lt)
  replace c3 := c3.kept (o1 _ c3.lt)
  replace c4 := c4.kept (o1 _ c4.lt)
  replace c5 := c5.keep (fun q h1 h2 => o1 q (by omega))
  replace c6 := c6.keep (fun q h1 h2 => o1 q (by omega))
  replace c7 := c7.keep (fun q h1 h2 => o1 q (by omega))
  replace c8 := c8.keep (fun q h1 h2 => o1 q (by omega))
  replace c9 := c9.keep (fun q h1 h2 => o1 q (by omega))
  replace hK : ∀ q : Nat, q < bx → H[q]? = s.heap[q]? := fun q h => (o1 q (by omega)).trans (hK q h)
  rw [hsz] at hc z1
  have c10 : ca D (bx + 35) (.inr (2, [.int (z2 0), .int (z2 0), .null, .null, .int (z2 0), .int (z2 0), .int (z2 0), .int (z2 0), .int (z2 0), .int (z2 0), .int (z2 0), .int (z2 0), .int (z2 0)])) H := hc
  refine W.eq (g2 := F0 m 69 ls [.ref (bx + 35), .int (z2 (5)), .ref (bx + 1)]) (by rw [hsz]) ?_
  replace hsz : H.size = bx + 36 := z1
  replace hS := hS2
  clear hS2 hc o1 z1
  refine lv_dup hx hb dX4_init_69 rfl ?_
  refine lv_iload_n hx hb dX4_init_70 rfl (lv_at hl 0 rfl) ?_
  refine g_run (vx_runI (As := [.int (z2 (5))]) (rest := [.ref (bx + 35), .int (z2 (5)), .ref (bx + 1)]) ⟨hx, hb, hml, hown, hts⟩ (k_X2init l D ks bx (bx + 35) _ c10 (by omega) (hsz.trans (by omega)) 5 (by decide)) (cwI 1 hts gX4_init_X2_init rfl rfl rfl (hts (.initialized RX2) (by decide +kernel)) (hts (.methodLink RX4 41 yX2_init) (by decide +kernel)) (hts (.instanceMethod yX2_init) (by decide +kernel)) rfl (by decide +kernel) ⟨Nat.le_of_ble_eq_true rfl, Nat.le_of_ble_eq_true rfl⟩) (g_preS hG hS (fun q h => Nat.le_trans hab h)) rfl rfl hl.1 rfl (lv_room (Nat.le_of_ble_eq_true rfl)) dX4_init_71 ⟨Nat.le_of_ble_eq_true rfl, Nat.le_of_ble_eq_true rfl⟩) hS (fun q h => (show _ ≤ _ from Nat.le_trans (by omega) (show bx + 35 ≤ q from h))) (fun _ _ _ _ _ h => h.elim) (fun v H locs hp hz9 hk9 hS2 => ?_)
  obtain ⟨rfl, hs9, hc⟩ := hp
  have kq := fun (q : Nat) (h : q < bx + 35) => hk9 q (by omega) (fun h2 => by have : bx + 35 ≤ q := h2; omega)
  replace c0 := c0.kept (kq _ (by omega))
  replace c1 := c1.kept (kq _ (by omega))
  replace c2 := c2.kept (kq _ (by omega))
  replace c3 := c3.kept (kq _ (by omega))
  replace c4 := c4.kept (kq _ (by omega))
  replace c5 := c5.keep (fun q h1 h2 => kq q (by omega))
  replace c6 := c6.keep (fun q h1 h2 => kq q (by omega))
  replace c7 := c7.keep (fun q h1 h2 => kq q (by omega))
  replace c8 := c8.keep (fun q h1 h2 => kq q (by omega))
  replace c9 := c9.keep (fun q h1 h2 => kq q (by omega))
  replace hK : ∀ q : Nat, q < bx → H[q]? = s.heap[q]? := fun q h => (kq q (by omega)).trans (hK q h)
  replace hsz : H.size = bx + 41 := by rw [hs9, hsz]
  replace c10 := hc
  replace hS := hS2
  clear hS2 hc hs9 hk9 hz9 kq
  refine W.eq (g2 := F0 m 74 ls [.ref (bx + 35), .int (z2 (5)), .ref (bx + 1)]) rfl ?_
  refine g_aast (n := 8) (f := (va_up (va_up (va_up (va_up (va_up (fun _ => none) 0 (some (bx + 5))) 1 (some (bx + 11))) 2 (some (bx + 17))) 3 (some (bx + 23))) 4 (some (bx + 29)))) hx hb hG hS 4 rfl c1 (Or.inl (show _ ≤ _ by omega)) c10.obj (r := (RX2, TX2, 13)) rfl 5 ⟨rfl, by decide, by decide⟩ dX4_init_74 (fun H locs he hz9 oq hS2 => ?_)
  replace c1 : ca D (bx + 1) (qA (ks 4) 8 (va_up (va_up (va_up (va_up (va_up (va_up (fun _ => none) 0 (some (bx + 5))) 1 (some (bx + 11))) 2 (some (bx + 17))) 3 (some (bx + 23))) 4 (some (bx + 29))) 5 (some (bx + 35)))) H := he
  replace c0 := c0.kept (oq _ (by omega))
  replace c2 := c2.kept (oq _ (by omega))
  replace c3 := c3.kept (oq _ (by omega))
  replace c4 := c4.kept (oq _ (by omega))
  replace c5 := c5.keep (fun q h1 h2 => oq q (by omega))
  replace c6 := c6.keep (fun q h1 h2 => oq q (by omega))
  replace c7 := c7.keep (fun q h1 h2 => oq q (by omega))
  replace c8 := c8.keep (fun q h1 h2 => oq q (by omega))
  replace c9 := c9.keep (fun q h1 h2 => oq q (by omega))
  replace c10 := c10.keep (fun q h1 h2 => oq q (by omega))
  replace hK : ∀ q : Nat, q < bx → H[q]? = s.heap[q]? := fun q h => (oq q (by omega)).trans (hK q h)
  replace hsz := hz9.trans hsz
  replace hS := hS2
  clear he oq hz9 hS2
  refine b_iinc (lv' := [(1, .int (z2 (6))), (0, .ref bx)]) hx hb dX4_init_75 hl (k := 0) rfl (by decide) rfl (fun ls hl => ?_)
  refine lv_goto (tgt := 55) hx hb dX4_init_78 (by decide) ?_
  refine lv_iload_n hx hb dX4_init_55 rfl (lv_at hl 0 rfl) ?_
  refine b_bipush hx hb dX4_init_56 (by decide +kernel) ?_
  refine b_icmp_ge (tgt := 81) hx hb dX4_init_58 (by decide) ⟨⟨by omega, by omega⟩, ⟨by omega, by omega⟩⟩ (fun c => absurd c (by omega)) (fun _ => ?_)
  refine lv_aload_n hx hb dX4_init_61 rfl (lv_at hl 1 rfl) ?_
  refine g_get (C := RX4) (T := TX4) (N := 7) hx hb hts inX4 hown hG c0 rfl 0 (by decide) (by decide +kernel) rfl (v := .ref (bx + 1)) rfl dX4_init_62 ?_
  refine lv_iload_n hx hb dX4_init_65 rfl (lv_at hl 0 rfl) ?_
  refine g_new (C := RX2) (T := TX2) (N := 13) (fs := [.int (z2 0), .int (z2 0), .null, .null, .int (z2 0), .int (z2 0), .int (z2 0), .int (z2 0), .int (z2 0), .int (z2 0), .int (z2 0), .int (z2 0), .int (z2 0)]) hx hb hts inX2 tyX2 tyX2_ok hown (by decide +kernel) (by decide +kernel) (by decide +kernel) hG hS (ci := 2) rfl dfX2 ⟨Nat.le_of_ble_eq_true rfl, Nat.le_of_ble_eq_true rfl⟩ dX4_init_66 (fun H hc z1 o1 hS2 => ?_)
  replace c0 := c0.kept (o1 _ c0.lt)
  replace c1 := c1.kept (o1 _ c1.lt)
  replace c2 := c2.kept (o1 _ c2.lt)
  replace c3 := c3.kept (o1 _ c3.lt)
  replace c4 := c4.kept (o1 _ c4.lt)
  replace c5 := c5.keep (fun q h1 h2 => o1 q (by omega))
  replace c6 := c6.keep (fun q h1 h2 => o1 q (by omega))
  replace c7 := c7.keep (fun q h1 h2 => o1 q (by omega))
  replace c8 := c8.keep (fun q h1 h2 => o1 q (by omega))
  replace c9 := c9.keep (fun q h1 h2 => o1 q (by omega))
  replace c10 := c10.keep (fun q h1 h2 => o1 q (by omega))
  replace hK : ∀ q : Nat, q < bx → H[q]? = s.heap[q]? := fun q h => (o1 q (by omega)).trans (hK q h)
  rw [hsz] at hc z1
  have c11 : ca D (bx + 41) (.inr (2, [.int (z2 0), .int (z2 0), .null, .null, .int (z2 0), .int (z2 0), .int (z2 0), .int (z2 0), .int (z2 0), .int (z2 0), .int (z2 0), .int (z2 0), .int (z2 0)])) H := hc
  refine W.eq (g2 := F0 m 69 ls [.ref (bx + 41), .int (z2 (6)), .ref (bx + 1)]) (by rw [hsz]) ?_
  replace hsz : H.size = bx + 42 := z1
  replace hS := hS2
  clear hS2 hc o1 z1
  refine lv_dup hx hb dX4_init_69 rfl ?_
  refine lv_iload_n hx hb dX4_init_70 rfl (lv_at hl 0 rfl) ?_
  refine g_run (vx_runI (As := [.int (z2 (6))]) (rest := [.ref (bx + 41), .int (z2 (6)), .ref (bx + 1)]) ⟨hx, hb, hml, hown, hts⟩ (k_X2init l D ks bx (bx + 41) _ c11 (by omega) (hsz.trans (by omega)) 6 (by decide)) (cwI 1 hts gX4_init_X2_init rfl rfl rfl (hts (.initialized RX2) (by decide +kernel)) (hts (.methodLink RX4 41 yX2_init) (by decide +kernel)) (hts (.instanceMethod yX2_init) (by decide +kernel)) rfl (by decide +kernel) ⟨Nat.le_of_ble_eq_true rfl, Nat.le_of_ble_eq_true rfl⟩) (g_preS hG hS (fun q h => Nat.le_trans hab h)) rfl rfl hl.1 rfl (lv_room (Nat.le_of_ble_eq_true rfl)) dX4_init_71 ⟨Nat.le_of_ble_eq_true rfl, Nat.le_of_ble_eq_true rfl⟩) hS (fun q h => (show _ ≤ _ from Nat.le_trans (by omega) (show bx + 41 ≤ q from h))) (fun _ _ _ _ _ h => h.elim) (fun v H locs hp hz9 hk9 hS2 => ?_)
  obtain ⟨rfl, hs9, hc⟩ := hp
  have kq := fun (q : Nat) (h : q < bx + 41) => hk9 q (by omega) (fun h2 => by have : bx + 41 ≤ q := h2; omega)
  replace c0 := c0.kept (kq _ (by omega))
  replace c1 := c1.kept (kq _ (by omega))
  replace c2 := c2.kept (kq _ (by omega))
  replace c3 := c3.kept (kq _ (by omega))
  replace c4 := c4.kept (kq _ (by omega))
  replace c5 := c5.keep (fun q h1 h2 => kq q (by omega))
  replace c6 := c6.keep (fun q h1 h2 => kq q (by omega))
  replace c7 := c7.keep (fun q h1 h2 => kq q (by omega))
  replace c8 := c8.keep (fun q h1 h2 => kq q (by omega))
  replace c9 := c9.keep (fun q h1 h2 => kq q (by omega))
  replace c10 := c10.keep (fun q h1 h2 => kq q (by omega))
  replace hK : ∀ q : Nat, q < bx → H[q]? = s.heap[q]? := fun q h => (kq q (by omega)).trans (hK q h)
  replace hsz : H.size = bx + 47 := by rw [hs9, hsz]
  replace c11 := hc
  replace hS := hS2
  clear hS2 hc hs9 hk9 hz9 kq
  refine W.eq (g2 := F0 m 74 ls [.ref (bx + 41), .int (z2 (6)), .ref (bx + 1)]) rfl ?_
  refine g_aast (n := 8) (f := (va_up (va_up (va_up (va_up (va_up (va_up (fun _ => none) 0 (some (bx + 5))) 1 (some (bx + 11))) 2 (some (bx + 17))) 3 (some (bx + 23))) 4 (some (bx + 29))) 5 (some (bx + 35)))) hx hb hG hS 4 rfl c1 (Or.inl (show _ ≤ _ by omega)) c11.obj (r := (RX2, TX2, 13)) rfl 6 ⟨rfl, by decide, by decide⟩ dX4_init_74 (fun H locs he hz9 oq hS2 => ?_)
  replace c1 : ca D (bx + 1) (qA (ks 4) 8 (va_up (va_up (va_up (va_up (va_up (va_up (va_up (fun _ => none) 0 (some (bx + 5))) 1 (some (bx + 11))) 2 (some (bx + 17))) 3 (some (bx + 23))) 4 (some (bx + 29))) 5 (some (bx + 35))) 6 (some (bx + 41)))) H := he
  replace c0 := c0.kept (oq _ (by omega))
  replace c2 := c2.kept (oq _ (by omega))
  replace c3 := c3.kept (oq _ (by omega))
  replace c4 := c4.kept (oq _ (by omega))
  replace c5 := c5.keep (fun q h1 h2 => oq q (by omega))
  replace c6 := c6.keep (fun q h1 h2 => oq q (by omega))
  replace c7 := c7.keep (fun q h1 h2 => oq q (by omega))
  replace c8 := c8.keep (fun q h1 h2 => oq q (by omega))
  replace c9 := c9.keep (fun q h1 h2 => oq q (by omega))
  replace c10 := c10.keep (fun q h1 h2 => oq q (by omega))
  replace c11 := c11.keep (fun q h1 h2 => oq q (by omega))
  replace hK : ∀ q : Nat, q < bx → H[q]? = s.heap[q]? := fun q h => (oq q (by omega)).trans (hK q h)
  replace hsz := hz9.trans hsz
  replace hS := hS2
  clear he oq hz9 hS2
  refine b_iinc (lv' := [(1, .int (z2 (7))), (0, .ref bx)]) hx hb dX4_init_75 hl (k := 0) rfl (by decide) rfl (fun ls hl => ?_)
  refine lv_goto (tgt := 55) hx hb dX4_init_78 (by decide) ?_
  refine lv_iload_n hx hb dX4_init_55 rfl (lv_at hl 0 rfl) ?_
  refine b_bipush hx hb dX4_init_56 (by decide +kernel) ?_
  refine b_icmp_ge (tgt := 81) hx hb dX4_init_58 (by decide) ⟨⟨by omega, by omega⟩, ⟨by omega, by omega⟩⟩ (fun c => absurd c (by omega)) (fun _ => ?_)
  refine lv_aload_n hx hb dX4_init_61 rfl (lv_at hl 1 rfl) ?_
  refine g_get (C := RX4) (T := TX4) (N := 7) hx hb hts inX4 hown hG c0 rfl 0 (by decide) (by decide +kernel) rfl (v := .ref (bx + 1)) rfl dX4_init_62 ?_
  refine lv_iload_n hx hb dX4_init_65 rfl (lv_at hl 0 rfl) ?_
  refine g_new (C := RX2) (T := TX2) (N := 13) (fs := [.int (z2 0), .int (z2 0), .null, .null, .int (z2 0), .int (z2 0), .int (z2 0), .int (z2 0), .int (z2 0), .int (z2 0), .int (z2 0), .int (z2 0), .int (z2 0)]) hx hb hts inX2 tyX2 tyX2_ok hown (by decide +kernel) (by decide +kernel) (by decide +kernel) hG hS (ci := 2) rfl dfX2 ⟨Nat.le_of_ble_eq_true rfl, Nat.le_of_ble_eq_true rfl⟩ dX4_init_66 (fun H hc z1 o1 hS2 => ?_)
  replace c0 := c0.kept (o1 _ c0.lt)
  replace c1 := c1.kept (o1 _ c1.lt)
  replace c2 := c2.kept (o1 _ c2.lt)
  replace c3 := c3.kept (o1 _ c3.lt)
  replace c4 := c4.kept (o1 _ c4.lt)
  replace c5 := c5.keep (fun q h1 h2 => o1 q (by omega))
  replace c6 := c6.keep (fun q h1 h2 => o1 q (by omega))
  replace c7 := c7.keep (fun q h1 h2 => o1 q (by omega))
  replace c8 := c8.keep (fun q h1 h2 => o1 q (by omega))
  replace c9 := c9.keep (fun q h1 h2 => o1 q (by omega))
  replace c10 := c10.keep (fun q h1 h2 => o1 q (by omega))
  replace c11 := c11.keep (fun q h1 h2 => o1 q (by omega))
  replace hK : ∀ q : Nat, q < bx → H[q]? = s.heap[q]? := fun q h => (o1 q (by omega)).trans (hK q h)
  rw [hsz] at hc z1
  have c12 : ca D (bx + 47) (.inr (2, [.int (z2 0), .int (z2 0), .null, .null, .int (z2 0), .int (z2 0), .int (z2 0), .int (z2 0), .int (z2 0), .int (z2 0), .int (z2 0), .int (z2 0), .int (z2 0)])) H := hc
  refine W.eq (g2 := F0 m 69 ls [.ref (bx + 47), .int (z2 (7)), .ref (bx + 1)]) (by rw [hsz]) ?_
  replace hsz : H.size = bx + 48 := z1
  replace hS := hS2
  clear hS2 hc o1 z1
  refine lv_dup hx hb dX4_init_69 rfl ?_
  refine lv_iload_n hx hb dX4_init_70 rfl (lv_at hl 0 rfl) ?_
  refine g_run (vx_runI (As := [.int (z2 (7))]) (rest := [.ref (bx + 47), .int (z2 (7)), .ref (bx + 1)]) ⟨hx, hb, hml, hown, hts⟩ (k_X2init l D ks bx (bx + 47) _ c12 (by omega) (hsz.trans (by omega)) 7 (by decide)) (cwI 1 hts gX4_init_X2_init rfl rfl rfl (hts (.initialized RX2) (by decide +kernel)) (hts (.methodLink RX4 41 yX2_init) (by decide +kernel)) (hts (.instanceMethod yX2_init) (by decide +kernel)) rfl (by decide +kernel) ⟨Nat.le_of_ble_eq_true rfl, Nat.le_of_ble_eq_true rfl⟩) (g_preS hG hS (fun q h => Nat.le_trans hab h)) rfl rfl hl.1 rfl (lv_room (Nat.le_of_ble_eq_true rfl)) dX4_init_71 ⟨Nat.le_of_ble_eq_true rfl, Nat.le_of_ble_eq_true rfl⟩) hS (fun q h => (show _ ≤ _ from Nat.le_trans (by omega) (show bx + 47 ≤ q from h))) (fun _ _ _ _ _ h => h.elim) (fun v H locs hp hz9 hk9 hS2 => ?_)
  obtain ⟨rfl, hs9, hc⟩ := hp
  have kq := fun (q : Nat) (h : q < bx + 47) => hk9 q (by omega) (fun h2 => by have : bx + 47 ≤ q := h2; omega)
  replace c0 := c0.kept (kq _ (by omega))
  replace c1 := c1.kept (kq _ (by omega))
  replace c2 := c2.kept (kq _ (by omega))
  replace c3 := c3.kept (kq _ (by omega))
  replace c4 := c4.kept (kq _ (by omega))
  replace c5 := c5.keep (fun q h1 h2 => kq q (by omega))
  replace c6 := c6.keep (fun q h1 h2 => kq q (by omega))
  replace c7 := c7.keep (fun q h1 h2 => kq q (by omega))
  replace c8 := c8.keep (fun q h1 h2 => kq q (by omega))
  replace c9 := c9.keep (fun q h1 h2 => kq q (by omega))
  replace c10 := c10.keep (fun q h1 h2 => kq q (by omega))
  replace c11 := c11.keep (fun q h1 h2 => kq q (by omega))
  replace hK : ∀ q : Nat, q < bx → H[q]? = s.heap[q]? := fun q h => (kq q (by omega)).trans (hK q h)
  replace hsz : H.size = bx + 53 := by rw [hs9, hsz]
  replace c12 := hc
  replace hS := hS2
  clear hS2 hc hs9 hk9 hz9 kq
  refine W.eq (g2 := F0 m 74 ls [.ref (bx + 47), .int (z2 (7)), .ref (bx + 1)]) rfl ?_
  refine g_aast (n := 8) (f := (va_up (va_up (va_up (va_up (va_up (va_up (va_up (fun _ => none) 0 (some (bx + 5))) 1 (some (bx + 11))) 2 (some (bx + 17))) 3 (some (bx + 23))) 4 (some (bx + 29))) 5 (some (bx + 35))) 6 (some (bx + 41)))) hx hb hG hS 4 rfl c1 (Or.inl (show _ ≤ _ by omega)) c12.obj (r := (RX2, TX2, 13)) rfl 7 ⟨rfl, by decide, by decide⟩ dX4_init_74 (fun H locs he hz9 oq hS2 => ?_)
  replace c1 : ca D (bx + 1) (qA (ks 4) 8 (va_up (va_up (va_up (va_up (va_up (va_up (va_up (va_up (fun _ => none) 0 (some (bx + 5))) 1 (some (bx + 11))) 2 (some (bx + 17))) 3 (some (bx + 23))) 4 (some (bx + 29))) 5 (some (bx + 35))) 6 (some (bx + 41))) 7 (some (bx + 47)))) H := he
  replace c0 := c0.kept (oq _ (by omega))
  replace c2 := c2.kept (oq _ (by omega))
  replace c3 := c3.kept (oq _ (by omega))
  replace c4 := c4.kept (oq _ (by omega))
  replace c5 := c5.keep (fun q h1 h2 => oq q (by omega))
  replace c6 := c6.keep (fun q h1 h2 => oq q (by omega))
  replace c7 := c7.keep (fun q h1 h2 => oq q (by omega))
  replace c8 := c8.keep (fun q h1 h2 => oq q (by omega))
  replace c9 := c9.keep (fun q h1 h2 => oq q (by omega))
  replace c10 := c10.keep (fun q h1 h2 => oq q (by omega))
  replace c11 := c11.keep (fun q h1 h2 => oq q (by omega))
  replace c12 := c12.keep (fun q h1 h2 => oq q (by omega))
  replace hK : ∀ q : Nat, q < bx → H[q]? = s.heap[q]? := fun q h => (oq q (by omega)).trans (hK q h)
  replace hsz := hz9.trans hsz
  replace hS := hS2
  clear he oq hz9 hS2
  refine b_iinc (lv' := [(1, .int (z2 (8))), (0, .ref bx)]) hx hb dX4_init_75 hl (k := 0) rfl (by decide) rfl (fun ls hl => ?_)
  refine lv_goto (tgt := 55) hx hb dX4_init_78 (by decide) ?_
  refine lv_iload_n hx hb dX4_init_55 rfl (lv_at hl 0 rfl) ?_
  refine b_bipush hx hb dX4_init_56 (by decide +kernel) ?_
  refine b_icmp_ge (tgt := 81) hx hb dX4_init_58 (by decide) ⟨⟨by omega, by omega⟩, ⟨by omega, by omega⟩⟩ (fun _ => ?_) (fun c => absurd c (by omega))
  refine b_iconst hx hb dX4_init_81 ?_
  refine lv_istore_n (lv' := [(1, .int (z2 (0))), (0, .ref bx)]) hx hb dX4_init_82 rfl hl (by decide) rfl (fun ls hl => ?_)
  refine lv_iload_n hx hb dX4_init_83 rfl (lv_at hl 0 rfl) ?_
  refine b_iconst hx hb dX4_init_84 ?_
  refine b_icmp_ge (tgt := 107) hx hb dX4_init_85 (by decide) ⟨⟨by omega, by omega⟩, ⟨by omega, by omega⟩⟩ (fun c => absurd c (by omega)) (fun _ => ?_)
  refine lv_aload_n hx hb dX4_init_88 rfl (lv_at hl 1 rfl) ?_
  refine g_get (C := RX4) (T := TX4) (N := 7) hx hb hts inX4 hown hG c0 rfl 1 (by decide) (by decide +kernel) rfl (v := .ref (bx + 2)) rfl dX4_init_89 ?_
  refine lv_iload_n hx hb dX4_init_92 rfl (lv_at hl 0 rfl) ?_
  refine g_new (C := RX1) (T := TX1) (N := 2) (fs := [.null, .int (z2 0)]) hx hb hts inX1 tyX1 tyX1_ok hown (by decide +kernel) (by decide +kernel) (by decide +kernel) hG hS (ci := 1) rfl dfX1 ⟨Nat.le_of_ble_eq_true rfl, Nat.le_of_ble_eq_true rfl⟩ dX4_init_93 (fun H hc z1 o1 hS2 => ?_)
  replace c0 := c0.kept (o1 _ c0.lt)
  replace c1 := c1.kept (o1 _ c1.lt)
  replace c2 := c2.kept (o1 _ c2.lt)
  replace c3 := c3.kept (o1 _ c3.lt)
  replace c4 := c4.kept (o1 _ c4.lt)
  replace c5 := c5.keep (fun q h1 h2 => o1 q (by omega))
  replace c6 := c6.keep (fun q h1 h2 => o1 q (by omega))
  replace c7 := c7.keep (fun q h1 h2 => o1 q (by omega))
  replace c8 := c8.keep (fun q h1 h2 => o1 q (by omega))
  replace c9 := c9.keep (fun q h1 h2 => o1 q (by omega))
  replace c10 := c10.keep (fun q h1 h2 => o1 q (by omega))
  replace c11 := c11.keep (fun q h1 h2 => o1 q (by omega))
  replace c12 := c12.keep (fun q h1 h2 => o1 q (by omega))
  replace hK : ∀ q : Nat, q < bx → H[q]? = s.heap[q]? := fun q h => (o1 q (by omega)).trans (hK q h)
  rw [hsz] at hc z1
  have c13 : ca D (bx + 53) (.inr (1, [.null, .int (z2 0)])) H := hc
  refine W.eq (g2 := F0 m 96 ls [.ref (bx + 53), .int (z2 (0)), .ref (bx + 2)]) (by rw [hsz]) ?_
  replace hsz : H.size = bx + 54 := z1
  replace hS := hS2
  clear hS2 hc o1 z1
  refine lv_dup hx hb dX4_init_96 rfl ?_
  refine g_run (vx_runIN (As := []) (rest := [.ref (bx + 53), .int (z2 (0)), .ref (bx + 2)]) ⟨hx, hb, hml, hown, hts⟩ (k_X1init l D ks bx (bx + 53) _ c13 (by omega)) ⟨va_cnB 0 hts gX4_init_X1_init_n44 rfl rfl rfl (hG.2.1 _ (List.mem_of_getElem? (i := 27) rfl)) (hts (.initialized RX1) (by decide +kernel)) (by decide +kernel) ⟨Nat.le_of_ble_eq_true rfl, Nat.le_of_ble_eq_true rfl⟩, rfl, hts (.instanceMethod yX1_init) (by decide +kernel)⟩ (g_preS hG hS (fun q h => Nat.le_trans hab h)) rfl rfl hl.1 rfl (lv_room (Nat.le_of_ble_eq_true rfl)) dX4_init_97 ⟨Nat.le_of_ble_eq_true rfl, Nat.le_of_ble_eq_true rfl⟩) hS (fun q h => (show _ ≤ _ from Nat.le_trans (by omega) (show bx + 53 ≤ q from h))) (fun _ _ _ _ _ h => h.elim) (fun v H locs hp hz9 hk9 hS2 => ?_)
  obtain ⟨rfl, hs9, hc⟩ := hp
  have kq := fun (q : Nat) (h : q < bx + 53) => hk9 q (by omega) (fun h2 => by have : bx + 53 ≤ q := h2; omega)
  replace c0 := c0.kept (kq _ (by omega))
  replace c1 := c1.kept (kq _ (by omega))
  replace c2 := c2.kept (kq _ (by omega))
  replace c3 := c3.kept (kq _ (by omega))
  replace c4 := c4.kept (kq _ (by omega))
  replace c5 := c5.keep (fun q h1 h2 => kq q (by omega))
  replace c6 := c6.keep (fun q h1 h2 => kq q (by omega))
  replace c7 := c7.keep (fun q h1 h2 => kq q (by omega))
  replace c8 := c8.keep (fun q h1 h2 => kq q (by omega))
  replace c9 := c9.keep (fun q h1 h2 => kq q (by omega))
  replace c10 := c10.keep (fun q h1 h2 => kq q (by omega))
  replace c11 := c11.keep (fun q h1 h2 => kq q (by omega))
  replace c12 := c12.keep (fun q h1 h2 => kq q (by omega))
  replace hK : ∀ q : Nat, q < bx → H[q]? = s.heap[q]? := fun q h => (kq q (by omega)).trans (hK q h)
  replace hsz : H.size = bx + 54 := by rw [hs9, hsz]
  replace c13 := hc
  replace hS := hS2
  clear hS2 hc hs9 hk9 hz9 kq
  refine W.eq (g2 := F0 m 100 ls [.ref (bx + 53), .int (z2 (0)), .ref (bx + 2)]) rfl ?_
  refine g_aast (n := 2) (f := (fun _ => none)) hx hb hG hS 3 rfl c2 (Or.inl (show _ ≤ _ by omega)) c13 (r := (RX1, TX1, 2)) rfl 0 ⟨rfl, by decide, by decide⟩ dX4_init_100 (fun H locs he hz9 oq hS2 => ?_)
  replace c2 : ca D (bx + 2) (qA (ks 3) 2 (va_up (fun _ => none) 0 (some (bx + 53)))) H := he
  replace c0 := c0.kept (oq _ (by omega))
  replace c1 := c1.kept (oq _ (by omega))
  replace c3 := c3.kept (oq _ (by omega))
  replace c4 := c4.kept (oq _ (by omega))
  replace c13 := c13.kept (oq _ (by omega))
  replace c5 := c5.keep (fun q h1 h2 => oq q (by omega))
  replace c6 := c6.keep (fun q h1 h2 => oq q (by omega))
  replace c7 := c7.keep (fun q h1 h2 => oq q (by omega))
  replace c8 := c8.keep (fun q h1 h2 => oq q (by omega))
  replace c9 := c9.keep (fun q h1 h2 => oq q (by omega))
  replace c10 := c10.keep (fun q h1 h2 => oq q (by omega))
  replace c11 := c11.keep (fun q h1 h2 => oq q (by omega))
  replace c12 := c12.keep (fun q h1 h2 => oq q (by omega))
  replace hK : ∀ q : Nat, q < bx → H[q]? = s.heap[q]? := fun q h => (oq q (by omega)).trans (hK q h)
  replace hsz := hz9.trans hsz
  replace hS := hS2
  clear he oq hz9 hS2
  refine b_iinc (lv' := [(1, .int (z2 (1))), (0, .ref bx)]) hx hb dX4_init_101 hl (k := 0) rfl (by decide) rfl (fun ls hl => ?_)
  refine lv_goto (tgt := 83) hx hb dX4_init_104 (by decide) ?_
  refine lv_iload_n hx hb dX4_init_83 rfl (lv_at hl 0 rfl) ?_
  refine b_iconst hx hb dX4_init_84 ?_
  refine b_icmp_ge (tgt := 107) hx hb dX4_init_85 (by decide) ⟨⟨by omega, by omega⟩, ⟨by omega, by omega⟩⟩ (fun c => absurd c (by omega)) (fun _ => ?_)
  refine lv_aload_n hx hb dX4_init_88 rfl (lv_at hl 1 rfl) ?_
  refine g_get (C := RX4) (T := TX4) (N := 7) hx hb hts inX4 hown hG c0 rfl 1 (by decide) (by decide +kernel) rfl (v := .ref (bx + 2)) rfl dX4_init_89 ?_
  refine lv_iload_n hx hb dX4_init_92 rfl (lv_at hl 0 rfl) ?_
  refine g_new (C := RX1) (T := TX1) (N := 2) (fs := [.null, .int (z2 0)]) hx hb hts inX1 tyX1 tyX1_ok hown (by decide +kernel) (by decide +kernel) (by decide +kernel) hG hS (ci := 1) rfl dfX1 ⟨Nat.le_of_ble_eq_true rfl, Nat.le_of_ble_eq_true rfl⟩ dX4_init_93 (fun H hc z1 o1 hS2 => ?_)
  replace c0 := c0.kept (o1 _ c0.lt)
  replace c1 := c1.kept (o1 _ c1.lt)
  replace c2 := c2.kept (o1 _ c2.lt)
  replace c3 := c3.kept (o1 _ c3.lt)
  replace c4 := c4.kept (o1 _ c4.lt)
  replace c13 := c13.kept (o1 _ c13.lt)
  replace c5 := c5.keep (fun q h1 h2 => o1 q (by omega))
  replace c6 := c6.keep (fun q h1 h2 => o1 q (by omega))
  replace c7 := c7.keep (fun q h1 h2 => o1 q (by omega))
  replace c8 := c8.keep (fun q h1 h2 => o1 q (by omega))
  replace c9 := c9.keep (fun q h1 h2 => o1 q (by omega))
  replace c10 := c10.keep (fun q h1 h2 => o1 q (by omega))
  replace c11 := c11.keep (fun q h1 h2 => o1 q (by omega))
  replace c12 := c12.keep (fun q h1 h2 => o1 q (by omega))
  replace hK : ∀ q : Nat, q < bx → H[q]? = s.heap[q]? := fun q h => (o1 q (by omega)).trans (hK q h)
  rw [hsz] at hc z1
  have c14 : ca D (bx + 54) (.inr (1, [.null, .int (z2 0)])) H := hc
  refine W.eq (g2 := F0 m 96 ls [.ref (bx + 54), .int (z2 (1)), .ref (bx + 2)]) (by rw [hsz]) ?_
  replace hsz : H.size = bx + 55 := z1
  replace hS := hS2
  clear hS2 hc o1 z1
  refine lv_dup hx hb dX4_init_96 rfl ?_
  refine g_run (vx_runIN (As := []) (rest := [.ref (bx + 54), .int (z2 (1)), .ref (bx + 2)]) ⟨hx, hb, hml, hown, hts⟩ (k_X1init l D ks bx (bx + 54) _ c14 (by omega)) ⟨va_cnB 0 hts gX4_init_X1_init_n44 rfl rfl rfl (hG.2.1 _ (List.mem_of_getElem? (i := 27) rfl)) (hts (.initialized RX1) (by decide +kernel)) (by decide +kernel) ⟨Nat.le_of_ble_eq_true rfl, Nat.le_of_ble_eq_true rfl⟩, rfl, hts (.instanceMethod yX1_init) (by decide +kernel)⟩ (g_preS hG hS (fun q h => Nat.le_trans hab h)) rfl rfl hl.1 rfl (lv_room (Nat.le_of_ble_eq_true rfl)) dX4_init_97 ⟨Nat.le_of_ble_eq_true rfl, Nat.le_of_ble_eq_true rfl⟩) hS (fun q h => (show _ ≤ _ from Nat.le_trans (by omega) (show bx + 54 ≤ q from h))) (fun _ _ _ _ _ h => h.elim) (fun v H locs hp hz9 hk9 hS2 => ?_)
  obtain ⟨rfl, hs9, hc⟩ := hp
  have kq := fun (q : Nat) (h : q < bx + 54) => hk9 q (by omega) (fun h2 => by have : bx + 54 ≤ q := h2; omega)
  replace c0 := c0.kept (kq _ (by omega))
  replace c1 := c1.kept (kq _ (by omega))
  replace c2 := c2.kept (kq _ (by omega))
  replace c3 := c3.kept (kq _ (by omega))
  replace c4 := c4.kept (kq _ (by omega))
  replace c13 := c13.kept (kq _ (by omega))
  replace c5 := c5.keep (fun q h1 h2 => kq q (by omega))
  replace c6 := c6.keep (fun q h1 h2 => kq q (by omega))
  replace c7 := c7.keep (fun q h1 h2 => kq q (by omega))
  replace c8 := c8.keep (fun q h1 h2 => kq q (by omega))
  replace c9 := c9.keep (fun q h1 h2 => kq q (by omega))
  replace c10 := c10.keep (fun q h1 h2 => kq q (by omega))
  replace c11 := c11.keep (fun q h1 h2 => kq q (by omega))
  replace c12 := c12.keep (fun q h1 h2 => kq q (by omega))
  replace hK : ∀ q : Nat, q < bx → H[q]? = s.heap[q]? := fun q h => (kq q (by omega)).trans (hK q h)
  replace hsz : H.size = bx + 55 := by rw [hs9, hsz]
  replace c14 := hc
  replace hS := hS2
  clear hS2 hc hs9 hk9 hz9 kq
  refine W.eq (g2 := F0 m 100 ls [.ref (bx + 54), .int (z2 (1)), .ref (bx + 2)]) rfl ?_
  refine g_aast (n := 2) (f := (va_up (fun _ => none) 0 (some (bx + 53)))) hx hb hG hS 3 rfl c2 (Or.inl (show _ ≤ _ by omega)) c14 (r := (RX1, TX1, 2)) rfl 1 ⟨rfl, by decide, by decide⟩ dX4_init_100 (fun H locs he hz9 oq hS2 => ?_)
  replace c2 : ca D (bx + 2) (qA (ks 3) 2 (va_up (va_up (fun _ => none) 0 (some (bx + 53))) 1 (some (bx + 54)))) H := he
  replace c0 := c0.kept (oq _ (by omega))
  replace c1 := c1.kept (oq _ (by omega))
  replace c3 := c3.kept (oq _ (by omega))
  replace c4 := c4.kept (oq _ (by omega))
  replace c13 := c13.kept (oq _ (by omega))
  replace c14 := c14.kept (oq _ (by omega))
  replace c5 := c5.keep (fun q h1 h2 => oq q (by omega))
  replace c6 := c6.keep (fun q h1 h2 => oq q (by omega))
  replace c7 := c7.keep (fun q h1 h2 => oq q (by omega))
  replace c8 := c8.keep (fun q h1 h2 => oq q (by omega))
  replace c9 := c9.keep (fun q h1 h2 => oq q (by omega))
  replace c10 := c10.keep (fun q h1 h2 => oq q (by omega))
  replace c11 := c11.keep (fun q h1 h2 => oq q (by omega))
  replace c12 := c12.keep (fun q h1 h2 => oq q (by omega))
  replace hK : ∀ q : Nat, q < bx → H[q]? = s.heap[q]? := fun q h => (oq q (by omega)).trans (hK q h)
  replace hsz := hz9.trans hsz
  replace hS := hS2
  clear he oq hz9 hS2
  refine b_iinc (lv' := [(1, .int (z2 (2))), (0, .ref bx)]) hx hb dX4_init_101 hl (k := 0) rfl (by decide) rfl (fun ls hl => ?_)
  refine lv_goto (tgt := 83) hx hb dX4_init_104 (by decide) ?_
  refine lv_iload_n hx hb dX4_init_83 rfl (lv_at hl 0 rfl) ?_
  refine b_iconst hx hb dX4_init_84 ?_
  refine b_icmp_ge (tgt := 107) hx hb dX4_init_85 (by decide) ⟨⟨by omega, by omega⟩, ⟨by omega, by omega⟩⟩ (fun _ => ?_) (fun c => absurd c (by omega))
  exact g_vret hx hb hr hlocks hS ⟨Nat.le_of_ble_eq_true rfl, Nat.le_of_ble_eq_true rfl⟩ (⟨rfl, by rw [hsz0]; exact hsz, ⟨c0, qa_cong c1 (fun j hj => by rcases j with _ | _ | _ | _ | _ | _ | _ | _ | j <;> first | rfl | omega), qa_cong c2 (fun j hj => by rcases j with _ | _ | j <;> first | rfl | omega), c3, c4, (fun h hh => by rcases h with _ | _ | _ | _ | _ | _ | _ | _ | h <;> first | exact c5 | exact c6 | exact c7 | exact c8 | exact c9 | exact c10 | exact c11 | exact c12 | omega), (fun k hk => by rcases k with _ | _ | k <;> first | exact c13 | exact c14 | omega)⟩⟩) dX4_init_107
set_option maxHeartbeats 40000000 in
set_option maxRecDepth 100000 in
theorem k_X5init (l : Launch) (D : va_G) (ks : Nat → ClassId) (bx : Nat) (bm : Nat) (hab : bx ≤ bm) (H : Heap) (he0 : ca D bm (.inr (5, [.int (z2 0), .int (z2 0), .null, .null, .null, .null, .null, .null, .null, .null, .null, .null, .null, .null, .null, .null, .null, .null, .null, .null, .int (z2 0), .null, .int (z2 0)])) H) (hsz0 : H.size = bm + 1) : KM l yX5_init wsX5_init ({ frames := 1, cells := 19, slots := 380, locals := 24 } : Room) D ks bx [.ref bm] H (RC (bm)) (fun v H1 => v = none ∧ H1.size = H.size + 19 ∧ PM D ks bm S0 H1) (fun _ _ => False) := by
  refine KM.of (cc := cX5_init) (maxL := 2) (ret := none) (by decide) rfl (Nat.le_of_ble_eq_true rfl) ?_
  intro p e s m below meth c hx hb hml hr hlocks hown hname hts hext hH0 hG ls hl
  subst hH0
  have hown : s.vm.findClass RX5 = some m.cls := hown
  have hS : va_S (AR (RC (bm)) s.heap.size) s.heap s.heap [] := va_S.rf
  have hl : lv_has ls 2 [(0, .ref bm)] := hl
  have inX5 : ∀ w ∈ wsX50, w ∈ wsX5_init := by decide +kernel
  have hK : ∀ q : Nat, q < bm → s.heap[q]? = s.heap[q]? := fun q h => rfl
  have c0 := he0
  have hsz : s.heap.size = bm + 1 := hsz0
  refine lv_aload_n hx hb dX5_init_0 rfl (lv_at hl 0 rfl) ?_
  refine W.objInit hx hb hown (hts (.methodLink RX5 1 objectInit) (by decide +kernel)) (hts (.instanceMethod objectInit) (by decide +kernel)) (hts (.code objectInit ⟨#[0xb1]⟩ 1 none) (by decide +kernel)) rfl (by rw [hml]; exact hl.1) rfl dX5_init_1 (Nat.le_of_ble_eq_true rfl) (Nat.le_of_ble_eq_true rfl) ?_
  refine lv_aload_n hx hb dX5_init_4 rfl (lv_at hl 0 rfl) ?_
  refine b_bipush hx hb dX5_init_5 (by decide +kernel) ?_
  refine g_newa (atype := .int) (ty := .int) hx hb hts (by decide +kernel) hG hS 0 rfl rfl (fun h => h) (N := 12) (12, .inl (fun _ => z2 0)) (za_i 12) rfl (by decide) (by decide) ⟨Nat.le_of_ble_eq_true rfl, Nat.le_of_ble_eq_true rfl⟩ dX5_init_7 (fun H hc z1 o1 hS2 => ?_)
  replace c0 := c0.kept (o1 _ c0.lt)
  replace hK : ∀ q : Nat, q < bm → H[q]? = s.heap[q]? := fun q h => (o1 q (by omega)).trans (hK q h)
  rw [hsz] at hc z1
  have c1 : ca D (bm + 1) (iA (ks 0) 12 (fun _ => z2 0)) H := hc
  refine W.eq (g2 := F0 m 9 ls [.ref (bm + 1), .ref bm]) (by rw [hsz]) ?_
  replace hsz : H.size = bm + 2 := z1
  replace hS := hS2
  clear hS2 hc o1 z1
  refine g_putF (C := RX5) (T := TX5) (N := 23) hx hb hts inX5 tyX5 tyX5_ok nmX5 hown hname hG hS c0 (Or.inl (show _ ≤ _ by omega)) rfl 2 (by decide) (by decide +kernel) rfl rfl (v := .ref (bm + 1)) rfl rfl (Nat.le_of_ble_eq_true rfl) dX5_init_9 (fun H locs he hz9 oq hS2 => ?_)
  replace c0 : ca D (bm) (.inr (5, [.int (z2 0), .int (z2 0), .ref (bm + 1), .null, .null, .null, .null, .null, .null, .null, .null, .null, .null, .null, .null, .null, .null, .null, .null, .null, .int (z2 0), .null, .int (z2 0)])) H := he
  replace c1 := c1.kept (oq _ (by omega))
  replace hK : ∀ q : Nat, q < bm → H[q]? = s.heap[q]? := fun q h => (oq q (by omega)).trans (hK q h)
  replace hsz := hz9.trans hsz
  replace hS := hS2
  clear he oq hz9 hS2
  refine lv_aload_n hx hb dX5_init_12 rfl (lv_at hl 0 rfl) ?_
  refine b_bipush hx hb dX5_init_13 (by decide +kernel) ?_
  refine g_newa (atype := .int) (ty := .int) hx hb hts (by decide +kernel) hG hS 0 rfl rfl (fun h => h) (N := 12) (12, .inl (fun _ => z2 0)) (za_i 12) rfl (by decide) (by decide) ⟨Nat.le_of_ble_eq_true rfl, Nat.le_of_ble_eq_true rfl⟩ dX5_init_15 (fun H hc z1 o1 hS2 => ?_)
  replace c0 := c0.kept (o1 _ c0.lt)
  replace c1 := c1.kept (o1 _ c1.lt)
  replace hK : ∀ q : Nat, q < bm → H[q]? = s.heap[q]? := fun q h => (o1 q (by omega)).trans (hK q h)
  rw [hsz] at hc z1
  have c2 : ca D (bm + 2) (iA (ks 0) 12 (fun _ => z2 0)) H := hc
  refine W.eq (g2 := F0 m 17 ls [.ref (bm + 2), .ref bm]) (by rw [hsz]) ?_
  replace hsz : H.size = bm + 3 := z1
  replace hS := hS2
  clear hS2 hc o1 z1
  refine g_putF (C := RX5) (T := TX5) (N := 23) hx hb hts inX5 tyX5 tyX5_ok nmX5 hown hname hG hS c0 (Or.inl (show _ ≤ _ by omega)) rfl 3 (by decide) (by decide +kernel) rfl rfl (v := .ref (bm + 2)) rfl rfl (Nat.le_of_ble_eq_true rfl) dX5_init_17 (fun H locs he hz9 oq hS2 => ?_)
  replace c0 : ca D (bm) (.inr (5, [.int (z2 0), .int (z2 0), .ref (bm + 1), .ref (bm + 2), .null, .null, .null, .null, .null, .null, .null, .null, .null, .null, .null, .null, .null, .null, .null, .null, .int (z2 0), .null, .int (z2 0)])) H := he
  replace c1 := c1.kept (oq _ (by omega))
  replace c2 := c2.kept (oq _ (by omega))
  replace hK : ∀ q : Nat, q < bm → H[q]? = s.heap[q]? := fun q h => (oq q (by omega)).trans (hK q h)
  replace hsz := hz9.trans hsz
  replace hS := hS2
  clear he oq hz9 hS2
  refine lv_aload_n hx hb dX5_init_20 rfl (lv_at hl 0 rfl) ?_
  refine b_bipush hx hb dX5_init_21 (by decide +kernel) ?_
  refine g_newa (atype := .long) (ty := .long) hx hb hts (by decide +kernel) hG hS 1 rfl rfl (fun h => h) (N := 12) (12, .inr (.inl (fun _ => l2 0))) (za_l 12) rfl (by decide) (by decide) ⟨Nat.le_of_ble_eq_true rfl, Nat.le_of_ble_eq_true rfl⟩ dX5_init_23 (fun H hc z1 o1 hS2 => ?_)
  replace c0 := c0.kept (o1 _ c0.lt)
  replace c1 := c1.kept (o1 _ c1.lt)
  replace c2 := c2.kept (o1 _ c2.lt)
  replace hK : ∀ q : Nat, q < bm → H[q]? = s.heap[q]? := fun q h => (o1 q (by omega)).trans (hK q h)
  rw [hsz] at hc z1
  have c3 : ca D (bm + 3) (jA (ks 1) 12 (fun _ => l2 0)) H := hc
  refine W.eq (g2 := F0 m 25 ls [.ref (bm + 3), .ref bm]) (by rw [hsz]) ?_
  replace hsz : H.size = bm + 4 := z1
  replace hS := hS2
  clear hS2 hc o1 z1
  refine g_putF (C := RX5) (T := TX5) (N := 23) hx hb hts inX5 tyX5 tyX5_ok nmX5 hown hname hG hS c0 (Or.inl (show _ ≤ _ by omega)) rfl 4 (by decide) (by decide +kernel) rfl rfl (v := .ref (bm + 3)) rfl rfl (Nat.le_of_ble_eq_true rfl) dX5_init_25 (fun H locs he hz9 oq hS2 => ?_)
  replace c0 : ca D (bm) (.inr (5, [.int (z2 0), .int (z2 0), .ref (bm + 1), .ref (bm + 2), .ref (bm + 3), .null, .null, .null, .null, .null, .null, .null, .null, .null, .null, .null, .null, .null, .null, .null, .int (z2 0), .null, .int (z2 0)])) H := he
  replace c1 := c1.kept (oq _ (by omega))
  replace c2 := c2.kept (oq _ (by omega))
  replace c3 := c3.kept (oq _ (by omega))
  replace hK : ∀ q : Nat, q < bm → H[q]? = s.heap[q]? := fun q h => (oq q (by omega)).trans (hK q h)
  replace hsz := hz9.trans hsz
  replace hS := hS2
  clear he oq hz9 hS2
  refine lv_aload_n hx hb dX5_init_28 rfl (lv_at hl 0 rfl) ?_
  refine b_bipush hx hb dX5_init_29 (by decide +kernel) ?_
  refine g_newa (atype := .int) (ty := .int) hx hb hts (by decide +kernel) hG hS 0 rfl rfl (fun h => h) (N := 24) (24, .inl (fun _ => z2 0)) (za_i 24) rfl (by decide) (by decide) ⟨Nat.le_of_ble_eq_true rfl, Nat.le_of_ble_eq_true rfl⟩ dX5_init_31 (fun H hc z1 o1 hS2 => ?_)
  replace c0 := c0.kept (o1 _ c0.lt)
  replace c1 := c1.kept (o1 _ c1.lt)
  replace c2 := c2.kept (o1 _ c2.lt)
  replace c3 := c3.kept (o1 _ c3.lt)
  replace hK : ∀ q : Nat, q < bm → H[q]? = s.heap[q]? := fun q h => (o1 q (by omega)).trans (hK q h)
  rw [hsz] at hc z1
  have c4 : ca D (bm + 4) (iA (ks 0) 24 (fun _ => z2 0)) H := hc
  refine W.eq (g2 := F0 m 33 ls [.ref (bm + 4), .ref bm]) (by rw [hsz]) ?_
  replace hsz : H.size = bm + 5 := z1
  replace hS := hS2
  clear hS2 hc o1 z1
  refine g_putF (C := RX5) (T := TX5) (N := 23) hx hb hts inX5 tyX5 tyX5_ok nmX5 hown hname hG hS c0 (Or.inl (show _ ≤ _ by omega)) rfl 5 (by decide) (by decide +kernel) rfl rfl (v := .ref (bm + 4)) rfl rfl (Nat.le_of_ble_eq_true rfl) dX5_init_33 (fun H locs he hz9 oq hS2 => ?_)
  replace c0 : ca D (bm) (.inr (5, [.int (z2 0), .int (z2 0), .ref (bm + 1), .ref (bm + 2), .ref (bm + 3), .ref (bm + 4), .null, .null, .null, .null, .null, .null, .null, .null, .null, .null, .null, .null, .null, .null, .int (z2 0), .null, .int (z2 0)])) H := he
  replace c1 := c1.kept (oq _ (by omega))
  replace c2 := c2.kept (oq _ (by omega))
  replace c3 := c3.kept (oq _ (by omega))
  replace c4 := c4.kept (oq _ (by omega))
  replace hK : ∀ q : Nat, q < bm → H[q]? = s.heap[q]? := fun q h => (oq q (by omega)).trans (hK q h)
  replace hsz := hz9.trans hsz
  replace hS := hS2
  clear he oq hz9 hS2
  refine lv_aload_n hx hb dX5_init_36 rfl (lv_at hl 0 rfl) ?_
  refine b_bipush hx hb dX5_init_37 (by decide +kernel) ?_
  refine g_newa (atype := .int) (ty := .int) hx hb hts (by decide +kernel) hG hS 0 rfl rfl (fun h => h) (N := 24) (24, .inl (fun _ => z2 0)) (za_i 24) rfl (by decide) (by decide) ⟨Nat.le_of_ble_eq_true rfl, Nat.le_of_ble_eq_true rfl⟩ dX5_init_39 (fun H hc z1 o1 hS2 => ?_)
  replace c0 := c0.kept (o1 _ c0.lt)
  replace c1 := c1.kept (o1 _ c1.lt)
  replace c2 := c2.kept (o1 _ c2.lt)
  replace c3 := c3.kept (o1 _ c3.lt)
  replace c4 := c4.kept (o1 _ c4.lt)
  replace hK : ∀ q : Nat, q < bm → H[q]? = s.heap[q]? := fun q h => (o1 q (by omega)).trans (hK q h)
  rw [hsz] at hc z1
  have c5 : ca D (bm + 5) (iA (ks 0) 24 (fun _ => z2 0)) H := hc
  refine W.eq (g2 := F0 m 41 ls [.ref (bm + 5), .ref bm]) (by rw [hsz]) ?_
  replace hsz : H.size = bm + 6 := z1
  replace hS := hS2
  clear hS2 hc o1 z1
  refine g_putF (C := RX5) (T := TX5) (N := 23) hx hb hts inX5 tyX5 tyX5_ok nmX5 hown hname hG hS c0 (Or.inl (show _ ≤ _ by omega)) rfl 6 (by decide) (by decide +kernel) rfl rfl (v := .ref (bm + 5)) rfl rfl (Nat.le_of_ble_eq_true rfl) dX5_init_41 (fun H locs he hz9 oq hS2 => ?_)
  replace c0 : ca D (bm) (.inr (5, [.int (z2 0), .int (z2 0), .ref (bm + 1), .ref (bm + 2), .ref (bm + 3), .ref (bm + 4), .ref (bm + 5), .null, .null, .null, .null, .null, .null, .null, .null, .null, .null, .null, .null, .null, .int (z2 0), .null, .int (z2 0)])) H := he
  replace c1 := c1.kept (oq _ (by omega))
  replace c2 := c2.kept (oq _ (by omega))
  replace c3 := c3.kept (oq _ (by omega))
  replace c4 := c4.kept (oq _ (by omega))
  replace c5 := c5.kept (oq _ (by omega))
  replace hK : ∀ q : Nat, q < bm → H[q]? = s.heap[q]? := fun q h => (oq q (by omega)).trans (hK q h)
  replace hsz := hz9.trans hsz
  replace hS := hS2
  clear he oq hz9 hS2
  refine lv_aload_n hx hb dX5_init_44 rfl (lv_at hl 0 rfl) ?_
  refine b_bipush hx hb dX5_init_45 (by decide +kernel) ?_
  refine g_newa (atype := .int) (ty := .int) hx hb hts (by decide +kernel) hG hS 0 rfl rfl (fun h => h) (N := 24) (24, .inl (fun _ => z2 0)) (za_i 24) rfl (by decide) (by decide) ⟨Nat.le_of_ble_eq_true rfl, Nat.le_of_ble_eq_true rfl⟩ dX5_init_47 (fun H hc z1 o1 hS2 => ?_)
  replace c0 := c0.kept (o1 _ c0.lt)
  replace c1 := c1.kept (o1 _ c1.lt)
  replace c2 := c2.kept (o1 _ c2.lt)
  replace c3 := c3.kept (o1 _ c3.lt)
  replace c4 := c4.kept (o1 _ c4.lt)
  replace c5 := c5.kept (o1 _ c5.lt)
  replace hK : ∀ q : Nat, q < bm → H[q]? = s.heap[q]? := fun q h => (o1 q (by omega)).trans (hK q h)
  rw [hsz] at hc z1
  have c6 : ca D (bm + 6) (iA (ks 0) 24 (fun _ => z2 0)) H := hc
  refine W.eq (g2 := F0 m 49 ls [.ref (bm + 6), .ref bm]) (by rw [hsz]) ?_
  replace hsz : H.size = bm + 7 := z1
  replace hS := hS2
  clear hS2 hc o1 z1
  refine g_putF (C := RX5) (T := TX5) (N := 23) hx hb hts inX5 tyX5 tyX5_ok nmX5 hown hname hG hS c0 (Or.inl (show _ ≤ _ by omega)) rfl 7 (by decide) (by decide +kernel) rfl rfl (v := .ref (bm + 6)) rfl rfl (Nat.le_of_ble_eq_true rfl) dX5_init_49 (fun H locs he hz9 oq hS2 => ?_)
  replace c0 : ca D (bm) (.inr (5, [.int (z2 0), .int (z2 0), .ref (bm + 1), .ref (bm + 2), .ref (bm + 3), .ref (bm + 4), .ref (bm + 5), .ref (bm + 6), .null, .null, .null, .null, .null, .null, .null, .null, .null, .null, .null, .null, .int (z2 0), .null, .int (z2 0)])) H := he
  replace c1 := c1.kept (oq _ (by omega))
  replace c2 := c2.kept (oq _ (by omega))
  replace c3 := c3.kept (oq _ (by omega))
  replace c4 := c4.kept (oq _ (by omega))
  replace c5 := c5.kept (oq _ (by omega))
  replace c6 := c6.kept (oq _ (by omega))
  replace hK : ∀ q : Nat, q < bm → H[q]? = s.heap[q]? := fun q h => (oq q (by omega)).trans (hK q h)
  replace hsz := hz9.trans hsz
  replace hS := hS2
  clear he oq hz9 hS2
  refine lv_aload_n hx hb dX5_init_52 rfl (lv_at hl 0 rfl) ?_
  refine b_bipush hx hb dX5_init_53 (by decide +kernel) ?_
  refine g_newa (atype := .int) (ty := .int) hx hb hts (by decide +kernel) hG hS 0 rfl rfl (fun h => h) (N := 96) (96, .inl (fun _ => z2 0)) (za_i 96) rfl (by decide) (by decide) ⟨Nat.le_of_ble_eq_true rfl, Nat.le_of_ble_eq_true rfl⟩ dX5_init_55 (fun H hc z1 o1 hS2 => ?_)
  replace c0 := c0.kept (o1 _ c0.lt)
  replace c1 := c1.kept (o1 _ c1.lt)
  replace c2 := c2.kept (o1 _ c2.lt)
  replace c3 := c3.kept (o1 _ c3.lt)
  replace c4 := c4.kept (o1 _ c4.lt)
  replace c5 := c5.kept (o1 _ c5.lt)
  replace c6 := c6.kept (o1 _ c6.lt)
  replace hK : ∀ q : Nat, q < bm → H[q]? = s.heap[q]? := fun q h => (o1 q (by omega)).trans (hK q h)
  rw [hsz] at hc z1
  have c7 : ca D (bm + 7) (iA (ks 0) 96 (fun _ => z2 0)) H := hc
  refine W.eq (g2 := F0 m 57 ls [.ref (bm + 7), .ref bm]) (by rw [hsz]) ?_
  replace hsz : H.size = bm + 8 := z1
  replace hS := hS2
  clear hS2 hc o1 z1
  refine g_putF (C := RX5) (T := TX5) (N := 23) hx hb hts inX5 tyX5 tyX5_ok nmX5 hown hname hG hS c0 (Or.inl (show _ ≤ _ by omega)) rfl 8 (by decide) (by decide +kernel) rfl rfl (v := .ref (bm + 7)) rfl rfl (Nat.le_of_ble_eq_true rfl) dX5_init_57 (fun H locs he hz9 oq hS2 => ?_)
  replace c0 : ca D (bm) (.inr (5, [.int (z2 0), .int (z2 0), .ref (bm + 1), .ref (bm + 2), .ref (bm + 3), .ref (bm + 4), .ref (bm + 5), .ref (bm + 6), .ref (bm + 7), .null, .null, .null, .null, .null, .null, .null, .null, .null, .null, .null, .int (z2 0), .null, .int (z2 0)])) H := he
  replace c1 := c1.kept (oq _ (by omega))
  replace c2 := c2.kept (oq _ (by omega))
  replace c3 := c3.kept (oq _ (by omega))
  replace c4 := c4.kept (oq _ (by omega))
  replace c5 := c5.kept (oq _ (by omega))
  replace c6 := c6.kept (oq _ (by omega))
  replace c7 := c7.kept (oq _ (by omega))
  replace hK : ∀ q : Nat, q < bm → H[q]? = s.heap[q]? := fun q h => (oq q (by omega)).trans (hK q h)
  replace hsz := hz9.trans hsz
  replace hS := hS2
  clear he oq hz9 hS2
  refine lv_aload_n hx hb dX5_init_60 rfl (lv_at hl 0 rfl) ?_
  refine b_bipush hx hb dX5_init_61 (by decide +kernel) ?_
  refine g_newa (atype := .int) (ty := .int) hx hb hts (by decide +kernel) hG hS 0 rfl rfl (fun h => h) (N := 8) (8, .inl (fun _ => z2 0)) (za_i 8) rfl (by decide) (by decide) ⟨Nat.le_of_ble_eq_true rfl, Nat.le_of_ble_eq_true rfl⟩ dX5_init_63 (fun H hc z1 o1 hS2 => ?_)
  replace c0 := c0.kept (o1 _ c0.lt)
  replace c1 := c1.kept (o1 _ c1.lt)
  replace c2 := c2.kept (o1 _ c2.lt)
  replace c3 := c3.kept (o1 _ c3.lt)
  replace c4 := c4.kept (o1 _ c4.lt)
  replace c5 := c5.kept (o1 _ c5.lt)
  replace c6 := c6.kept (o1 _ c6.lt)
  replace c7 := c7.kept (o1 _ c7.lt)
  replace hK : ∀ q : Nat, q < bm → H[q]? = s.heap[q]? := fun q h => (o1 q (by omega)).trans (hK q h)
  rw [hsz] at hc z1
  have c8 : ca D (bm + 8) (iA (ks 0) 8 (fun _ => z2 0)) H := hc
  refine W.eq (g2 := F0 m 65 ls [.ref (bm + 8), .ref bm]) (by rw [hsz]) ?_
  replace hsz : H.size = bm + 9 := z1
  replace hS := hS2
  clear hS2 hc o1 z1
  refine g_putF (C := RX5) (T := TX5) (N := 23) hx hb hts inX5 tyX5 tyX5_ok nmX5 hown hname hG hS c0 (Or.inl (show _ ≤ _ by omega)) rfl 9 (by decide) (by decide +kernel) rfl rfl (v := .ref (bm + 8)) rfl rfl (Nat.le_of_ble_eq_true rfl) dX5_init_65 (fun H locs he hz9 oq hS2 => ?_)
  replace c0 : ca D (bm) (.inr (5, [.int (z2 0), .int (z2 0), .ref (bm + 1), .ref (bm + 2), .ref (bm + 3), .ref (bm + 4), .ref (bm + 5), .ref (bm + 6), .ref (bm + 7), .ref (bm + 8), .null, .null, .null, .null, .null, .null, .null, .null, .null, .null, .int (z2 0), .null, .int (z2 0)])) H := he
  replace c1 := c1.kept (oq _ (by omega))
  replace c2 := c2.kept (oq _ (by omega))
  replace c3 := c3.kept (oq _ (by omega))
  replace c4 := c4.kept (oq _ (by omega))
  replace c5 := c5.kept (oq _ (by omega))
  replace c6 := c6.kept (oq _ (by omega))
  replace c7 := c7.kept (oq _ (by omega))
  replace c8 := c8.kept (oq _ (by omega))
  replace hK : ∀ q : Nat, q < bm → H[q]? = s.heap[q]? := fun q h => (oq q (by omega)).trans (hK q h)
  replace hsz := hz9.trans hsz
  replace hS := hS2
  clear he oq hz9 hS2
  refine lv_aload_n hx hb dX5_init_68 rfl (lv_at hl 0 rfl) ?_
  refine b_bipush hx hb dX5_init_69 (by decide +kernel) ?_
  refine g_newa (atype := .int) (ty := .int) hx hb hts (by decide +kernel) hG hS 0 rfl rfl (fun h => h) (N := 8) (8, .inl (fun _ => z2 0)) (za_i 8) rfl (by decide) (by decide) ⟨Nat.le_of_ble_eq_true rfl, Nat.le_of_ble_eq_true rfl⟩ dX5_init_71 (fun H hc z1 o1 hS2 => ?_)
  replace c0 := c0.kept (o1 _ c0.lt)
  replace c1 := c1.kept (o1 _ c1.lt)
  replace c2 := c2.kept (o1 _ c2.lt)
  replace c3 := c3.kept (o1 _ c3.lt)
  replace c4 := c4.kept (o1 _ c4.lt)
  replace c5 := c5.kept (o1 _ c5.lt)
  replace c6 := c6.kept (o1 _ c6.lt)
  replace c7 := c7.kept (o1 _ c7.lt)
  replace c8 := c8.kept (o1 _ c8.lt)
  replace hK : ∀ q : Nat, q < bm → H[q]? = s.heap[q]? := fun q h => (o1 q (by omega)).trans (hK q h)
  rw [hsz] at hc z1
  have c9 : ca D (bm + 9) (iA (ks 0) 8 (fun _ => z2 0)) H := hc
  refine W.eq (g2 := F0 m 73 ls [.ref (bm + 9), .ref bm]) (by rw [hsz]) ?_
  replace hsz : H.size = bm + 10 := z1
  replace hS := hS2
  clear hS2 hc o1 z1
  refine g_putF (C := RX5) (T := TX5) (N := 23) hx hb hts inX5 tyX5 tyX5_ok nmX5 hown hname hG hS c0 (Or.inl (show _ ≤ _ by omega)) rfl 10 (by decide) (by decide +kernel) rfl rfl (v := .ref (bm + 9)) rfl rfl (Nat.le_of_ble_eq_true rfl) dX5_init_73 (fun H locs he hz9 oq hS2 => ?_)
  replace c0 : ca D (bm) (.inr (5, [.int (z2 0), .int (z2 0), .ref (bm + 1), .ref (bm + 2), .ref (bm + 3), .ref (bm + 4), .ref (bm + 5), .ref (bm + 6), .ref (bm + 7), .ref (bm + 8), .ref (bm + 9), .null, .null, .null, .null, .null, .null, .null, .null, .null, .int (z2 0), .null, .int (z2 0)])) H := he
  replace c1 := c1.kept (oq _ (by omega))
  replace c2 := c2.kept (oq _ (by omega))
  replace c3 := c3.kept (oq _ (by omega))
  replace c4 := c4.kept (oq _ (by omega))
  replace c5 := c5.kept (oq _ (by omega))
  replace c6 := c6.kept (oq _ (by omega))
  replace c7 := c7.kept (oq _ (by omega))
  replace c8 := c8.kept (oq _ (by omega))
  replace c9 := c9.kept (oq _ (by omega))
  replace hK : ∀ q : Nat, q < bm → H[q]? = s.heap[q]? := fun q h => (oq q (by omega)).trans (hK q h)
  replace hsz := hz9.trans hsz
  replace hS := hS2
  clear he oq hz9 hS2
  refine lv_aload_n hx hb dX5_init_76 rfl (lv_at hl 0 rfl) ?_
  refine b_bipush hx hb dX5_init_77 (by decide +kernel) ?_
  refine g_newa (atype := .int) (ty := .int) hx hb hts (by decide +kernel) hG hS 0 rfl rfl (fun h => h) (N := 8) (8, .inl (fun _ => z2 0)) (za_i 8) rfl (by decide) (by decide) ⟨Nat.le_of_ble_eq_true rfl, Nat.le_of_ble_eq_true rfl⟩ dX5_init_79 (fun H hc z1 o1 hS2 => ?_)
  replace c0 := c0.kept (o1 _ c0.lt)
  replace c1 := c1.kept (o1 _ c1.lt)
  replace c2 := c2.kept (o1 _ c2.lt)
  replace c3 := c3.kept (o1 _ c3.lt)
  replace c4 := c4.kept (o1 _ c4.lt)
  replace c5 := c5.kept (o1 _ c5.lt)
  replace c6 := c6.kept (o1 _ c6.lt)
  replace c7 := c7.kept (o1 _ c7.lt)
  replace c8 := c8.kept (o1 _ c8.lt)
  replace c9 := c9.kept (o1 _ c9.lt)
  replace hK : ∀ q : Nat, q < bm → H[q]? = s.heap[q]? := fun q h => (o1 q (by omega)).trans (hK q h)
  rw [hsz] at hc z1
  have c10 : ca D (bm + 10) (iA (ks 0) 8 (fun _ => z2 0)) H := hc
  refine W.eq (g2 := F0 m 81 ls [.ref (bm + 10), .ref bm]) (by rw [hsz]) ?_
  replace hsz : H.size = bm + 11 := z1
  replace hS := hS2
  clear hS2 hc o1 z1
  refine g_putF (C := RX5) (T := TX5) (N := 23) hx hb hts inX5 tyX5 tyX5_ok nmX5 hown hname hG hS c0 (Or.inl (show _ ≤ _ by omega)) rfl 11 (by decide) (by decide +kernel) rfl rfl (v := .ref (bm + 10)) rfl rfl (Nat.le_of_ble_eq_true rfl) dX5_init_81 (fun H locs he hz9 oq hS2 => ?_)
  replace c0 : ca D (bm) (.inr (5, [.int (z2 0), .int (z2 0), .ref (bm + 1), .ref (bm + 2), .ref (bm + 3), .ref (bm + 4), .ref (bm + 5), .ref (bm + 6), .ref (bm + 7), .ref (bm + 8), .ref (bm + 9), .ref (bm + 10), .null, .null, .null, .null, .null, .null, .null, .null, .int (z2 0), .null, .int (z2 0)])) H := he
  replace c1 := c1.kept (oq _ (by omega))
  replace c2 := c2.kept (oq _ (by omega))
  replace c3 := c3.kept (oq _ (by omega))
  replace c4 := c4.kept (oq _ (by omega))
  replace c5 := c5.kept (oq _ (by omega))
  replace c6 := c6.kept (oq _ (by omega))
  replace c7 := c7.kept (oq _ (by omega))
  replace c8 := c8.kept (oq _ (by omega))
  replace c9 := c9.kept (oq _ (by omega))
  replace c10 := c10.kept (oq _ (by omega))
  replace hK : ∀ q : Nat, q < bm → H[q]? = s.heap[q]? := fun q h => (oq q (by omega)).trans (hK q h)
  replace hsz := hz9.trans hsz
  replace hS := hS2
  clear he oq hz9 hS2
  refine lv_aload_n hx hb dX5_init_84 rfl (lv_at hl 0 rfl) ?_
  refine b_bipush hx hb dX5_init_85 (by decide +kernel) ?_
  refine g_newa (atype := .int) (ty := .int) hx hb hts (by decide +kernel) hG hS 0 rfl rfl (fun h => h) (N := 8) (8, .inl (fun _ => z2 0)) (za_i 8) rfl (by decide) (by decide) ⟨Nat.le_of_ble_eq_true rfl, Nat.le_of_ble_eq_true rfl⟩ dX5_init_87 (fun H hc z1 o1 hS2 => ?_)
  replace c0 := c0.kept (o1 _ c0.lt)
  replace c1 := c1.kept (o1 _ c1.lt)
  replace c2 := c2.kept (o1 _ c2.lt)
  replace c3 := c3.kept (o1 _ c3.lt)
  replace c4 := c4.kept (o1 _ c4.lt)
  replace c5 := c5.kept (o1 _ c5.lt)
  replace c6 := c6.kept (o1 _ c6.lt)
  replace c7 := c7.kept (o1 _ c7.lt)
  replace c8 := c8.kept (o1 _ c8.lt)
  replace c9 := c9.kept (o1 _ c9.lt)
  replace c10 := c10.kept (o1 _ c10.lt)
  replace hK : ∀ q : Nat, q < bm → H[q]? = s.heap[q]? := fun q h => (o1 q (by omega)).trans (hK q h)
  rw [hsz] at hc z1
  have c11 : ca D (bm + 11) (iA (ks 0) 8 (fun _ => z2 0)) H := hc
  refine W.eq (g2 := F0 m 89 ls [.ref (bm + 11), .ref bm]) (by rw [hsz]) ?_
  replace hsz : H.size = bm + 12 := z1
  replace hS := hS2
  clear hS2 hc o1 z1
  refine g_putF (C := RX5) (T := TX5) (N := 23) hx hb hts inX5 tyX5 tyX5_ok nmX5 hown hname hG hS c0 (Or.inl (show _ ≤ _ by omega)) rfl 12 (by decide) (by decide +kernel) rfl rfl (v := .ref (bm + 11)) rfl rfl (Nat.le_of_ble_eq_true rfl) dX5_init_89 (fun H locs he hz9 oq hS2 => ?_)
  replace c0 : ca D (bm) (.inr (5, [.int (z2 0), .int (z2 0), .ref (bm + 1), .ref (bm + 2), .ref (bm + 3), .ref (bm + 4), .ref (bm + 5), .ref (bm + 6), .ref (bm + 7), .ref (bm + 8), .ref (bm + 9), .ref (bm + 10), .ref (bm + 11), .null, .null, .null, .null, .null, .null, .null, .int (z2 0), .null, .int (z2 0)])) H := he
  replace c1 := c1.kept (oq _ (by omega))
  replace c2 := c2.kept (oq _ (by omega))
  replace c3 := c3.kept (oq _ (by omega))
  replace c4 := c4.kept (oq _ (by omega))
  replace c5 := c5.kept (oq _ (by omega))
  replace c6 := c6.kept (oq _ (by omega))
  replace c7 := c7.kept (oq _ (by omega))
  replace c8 := c8.kept (oq _ (by omega))
  replace c9 := c9.kept (oq _ (by omega))
  replace c10 := c10.kept (oq _ (by omega))
  replace c11 := c11.kept (oq _ (by omega))
  replace hK : ∀ q : Nat, q < bm → H[q]? = s.heap[q]? := fun q h => (oq q (by omega)).trans (hK q h)
  replace hsz := hz9.trans hsz
  replace hS := hS2
  clear he oq hz9 hS2
  refine lv_aload_n hx hb dX5_init_92 rfl (lv_at hl 0 rfl) ?_
  refine b_bipush hx hb dX5_init_93 (by decide +kernel) ?_
  refine g_newa (atype := .int) (ty := .int) hx hb hts (by decide +kernel) hG hS 0 rfl rfl (fun h => h) (N := 8) (8, .inl (fun _ => z2 0)) (za_i 8) rfl (by decide) (by decide) ⟨Nat.le_of_ble_eq_true rfl, Nat.le_of_ble_eq_true rfl⟩ dX5_init_95 (fun H hc z1 o1 hS2 => ?_)
  replace c0 := c0.kept (o1 _ c0.lt)
  replace c1 := c1.kept (o1 _ c1.lt)
  replace c2 := c2.kept (o1 _ c2.lt)
  replace c3 := c3.kept (o1 _ c3.lt)
  replace c4 := c4.kept (o1 _ c4.lt)
  replace c5 := c5.kept (o1 _ c5.lt)
  replace c6 := c6.kept (o1 _ c6.lt)
  replace c7 := c7.kept (o1 _ c7.lt)
  replace c8 := c8.kept (o1 _ c8.lt)
  replace c9 := c9.kept (o1 _ c9.lt)
  replace c10 := c10.kept (o1 _ c10.lt)
  replace c11 := c11.kept (o1 _ c11.lt)
  replace hK : ∀ q : Nat, q < bm → H[q]? = s.heap[q]? := fun q h => (o1 q (by omega)).trans (hK q h)
  rw [hsz] at hc z1
  have c12 : ca D (bm + 12) (iA (ks 0) 8 (fun _ => z2 0)) H := hc
  refine W.eq (g2 := F0 m 97 ls [.ref (bm + 12), .ref bm]) (by rw [hsz]) ?_
  replace hsz : H.size = bm + 13 := z1
  replace hS := hS2
  clear hS2 hc o1 z1
  refine g_putF (C := RX5) (T := TX5) (N := 23) hx hb hts inX5 tyX5 tyX5_ok nmX5 hown hname hG hS c0 (Or.inl (show _ ≤ _ by omega)) rfl 13 (by decide) (by decide +kernel) rfl rfl (v := .ref (bm + 12)) rfl rfl (Nat.le_of_ble_eq_true rfl) dX5_init_97 (fun H locs he hz9 oq hS2 => ?_)
  replace c0 : ca D (bm) (.inr (5, [.int (z2 0), .int (z2 0), .ref (bm + 1), .ref (bm + 2), .ref (bm + 3), .ref (bm + 4), .ref (bm + 5), .ref (bm + 6), .ref (bm + 7), .ref (bm + 8), .ref (bm + 9), .ref (bm + 10), .ref (bm + 11), .ref (bm + 12), .null, .null, .null, .null, .null, .null, .int (z2 0), .null, .int (z2 0)])) H := he
  replace c1 := c1.kept (oq _ (by omega))
  replace c2 := c2.kept (oq _ (by omega))
  replace c3 := c3.kept (oq _ (by omega))
  replace c4 := c4.kept (oq _ (by omega))
  replace c5 := c5.kept (oq _ (by omega))
  replace c6 := c6.kept (oq _ (by omega))
  replace c7 := c7.kept (oq _ (by omega))
  replace c8 := c8.kept (oq _ (by omega))
  replace c9 := c9.kept (oq _ (by omega))
  replace c10 := c10.kept (oq _ (by omega))
  replace c11 := c11.kept (oq _ (by omega))
  replace c12 := c12.kept (oq _ (by omega))
  replace hK : ∀ q : Nat, q < bm → H[q]? = s.heap[q]? := fun q h => (oq q (by omega)).trans (hK q h)
  replace hsz := hz9.trans hsz
  replace hS := hS2
  clear he oq hz9 hS2
  refine lv_aload_n hx hb dX5_init_100 rfl (lv_at hl 0 rfl) ?_
  refine b_bipush hx hb dX5_init_101 (by decide +kernel) ?_
  refine g_newa (atype := .int) (ty := .int) hx hb hts (by decide +kernel) hG hS 0 rfl rfl (fun h => h) (N := 8) (8, .inl (fun _ => z2 0)) (za_i 8) rfl (by decide) (by decide) ⟨Nat.le_of_ble_eq_true rfl, Nat.le_of_ble_eq_true rfl⟩ dX5_init_103 (fun H hc z1 o1 hS2 => ?_)
  replace c0 := c0.kept (o1 _ c0.lt)
  replace c1 := c1.kept (o1 _ c1.lt)
  replace c2 := c2.kept (o1 _ c2.lt)
  replace c3 := c3.kept (o1 _ c3.lt)
  replace c4 := c4.kept (o1 _ c4.lt)
  replace c5 := c5.kept (o1 _ c5.lt)
  replace c6 := c6.kept (o1 _ c6.lt)
  replace c7 := c7.kept (o1 _ c7.lt)
  replace c8 := c8.kept (o1 _ c8.lt)
  replace c9 := c9.kept (o1 _ c9.lt)
  replace c10 := c10.kept (o1 _ c10.lt)
  replace c11 := c11.kept (o1 _ c11.lt)
  replace c12 := c12.kept (o1 _ c12.lt)
  replace hK : ∀ q : Nat, q < bm → H[q]? = s.heap[q]? := fun q h => (o1 q (by omega)).trans (hK q h)
  rw [hsz] at hc z1
  have c13 : ca D (bm + 13) (iA (ks 0) 8 (fun _ => z2 0)) H := hc
  refine W.eq (g2 := F0 m 105 ls [.ref (bm + 13), .ref bm]) (by rw [hsz]) ?_
  replace hsz : H.size = bm + 14 := z1
  replace hS := hS2
  clear hS2 hc o1 z1
  refine g_putF (C := RX5) (T := TX5) (N := 23) hx hb hts inX5 tyX5 tyX5_ok nmX5 hown hname hG hS c0 (Or.inl (show _ ≤ _ by omega)) rfl 14 (by decide) (by decide +kernel) rfl rfl (v := .ref (bm + 13)) rfl rfl (Nat.le_of_ble_eq_true rfl) dX5_init_105 (fun H locs he hz9 oq hS2 => ?_)
  replace c0 : ca D (bm) (.inr (5, [.int (z2 0), .int (z2 0), .ref (bm + 1), .ref (bm + 2), .ref (bm + 3), .ref (bm + 4), .ref (bm + 5), .ref (bm + 6), .ref (bm + 7), .ref (bm + 8), .ref (bm + 9), .ref (bm + 10), .ref (bm + 11), .ref (bm + 12), .ref (bm + 13), .null, .null, .null, .null, .null, .int (z2 0), .null, .int (z2 0)])) H := he
  replace c1 := c1.kept (oq _ (by omega))
  replace c2 := c2.kept (oq _ (by omega))
  replace c3 := c3.kept (oq _ (by omega))
  replace c4 := c4.kept (oq _ (by omega))
  replace c5 := c5.kept (oq _ (by omega))
  replace c6 := c6.kept (oq _ (by omega))
  replace c7 := c7.kept (oq _ (by omega))
  replace c8 := c8.kept (oq _ (by omega))
  replace c9 := c9.kept (oq _ (by omega))
  replace c10 := c10.kept (oq _ (by omega))
  replace c11 := c11.kept (oq _ (by omega))
  replace c12 := c12.kept (oq _ (by omega))
  replace c13 := c13.kept (oq _ (by omega))
  replace hK : ∀ q : Nat, q < bm → H[q]? = s.heap[q]? := fun q h => (oq q (by omega)).trans (hK q h)
  replace hsz := hz9.trans hsz
  replace hS := hS2
  clear he oq hz9 hS2
  refine lv_aload_n hx hb dX5_init_108 rfl (lv_at hl 0 rfl) ?_
  refine b_bipush hx hb dX5_init_109 (by decide +kernel) ?_
  refine g_newa (atype := .int) (ty := .int) hx hb hts (by decide +kernel) hG hS 0 rfl rfl (fun h => h) (N := 8) (8, .inl (fun _ => z2 0)) (za_i 8) rfl (by decide) (by decide) ⟨Nat.le_of_ble_eq_true rfl, Nat.le_of_ble_eq_true rfl⟩ dX5_init_111 (fun H hc z1 o1 hS2 => ?_)
  replace c0 := c0.kept (o1 _ c0.lt)
  replace c1 := c1.kept (o1 _ c1.lt)
  replace c2 := c2.kept (o1 _ c2.lt)
  replace c3 := c3.kept (o1 _ c3.lt)
  replace c4 := c4.kept (o1 _ c4.lt)
  replace c5 := c5.kept (o1 _ c5.lt)
  replace c6 := c6.kept (o1 _ c6.lt)
  replace c7 := c7.kept (o1 _ c7.lt)
  replace c8 := c8.kept (o1 _ c8.lt)
  replace c9 := c9.kept (o1 _ c9.lt)
  replace c10 := c10.kept (o1 _ c10.lt)
  replace c11 := c11.kept (o1 _ c11.lt)
  replace c12 := c12.kept (o1 _ c12.lt)
  replace c13 := c13.kept (o1 _ c13.lt)
  replace hK : ∀ q : Nat, q < bm → H[q]? = s.heap[q]? := fun q h => (o1 q (by omega)).trans (hK q h)
  rw [hsz] at hc z1
  have c14 : ca D (bm + 14) (iA (ks 0) 8 (fun _ => z2 0)) H := hc
  refine W.eq (g2 := F0 m 113 ls [.ref (bm + 14), .ref bm]) (by rw [hsz]) ?_
  replace hsz : H.size = bm + 15 := z1
  replace hS := hS2
  clear hS2 hc o1 z1
  refine g_putF (C := RX5) (T := TX5) (N := 23) hx hb hts inX5 tyX5 tyX5_ok nmX5 hown hname hG hS c0 (Or.inl (show _ ≤ _ by omega)) rfl 15 (by decide) (by decide +kernel) rfl rfl (v := .ref (bm + 14)) rfl rfl (Nat.le_of_ble_eq_true rfl) dX5_init_113 (fun H locs he hz9 oq hS2 => ?_)
  replace c0 : ca D (bm) (.inr (5, [.int (z2 0), .int (z2 0), .ref (bm + 1), .ref (bm + 2), .ref (bm + 3), .ref (bm + 4), .ref (bm + 5), .ref (bm + 6), .ref (bm + 7), .ref (bm + 8), .ref (bm + 9), .ref (bm + 10), .ref (bm + 11), .ref (bm + 12), .ref (bm + 13), .ref (bm + 14), .null, .null, .null, .null, .int (z2 0), .null, .int (z2 0)])) H := he
  replace c1 := c1.kept (oq _ (by omega))
  replace c2 := c2.kept (oq _ (by omega))
  replace c3 := c3.kept (oq _ (by omega))
  replace c4 := c4.kept (oq _ (by omega))
  replace c5 := c5.kept (oq _ (by omega))
  replace c6 := c6.kept (oq _ (by omega))
  replace c7 := c7.kept (oq _ (by omega))
  replace c8 := c8.kept (oq _ (by omega))
  replace c9 := c9.kept (oq _ (by omega))
  replace c10 := c10.kept (oq _ (by omega))
  replace c11 := c11.kept (oq _ (by omega))
  replace c12 := c12.kept (oq _ (by omega))
  replace c13 := c13.kept (oq _ (by omega))
  replace c14 := c14.kept (oq _ (by omega))
  replace hK : ∀ q : Nat, q < bm → H[q]? = s.heap[q]? := fun q h => (oq q (by omega)).trans (hK q h)
  replace hsz := hz9.trans hsz
  replace hS := hS2
  clear he oq hz9 hS2
  refine lv_aload_n hx hb dX5_init_116 rfl (lv_at hl 0 rfl) ?_
  refine b_bipush hx hb dX5_init_117 (by decide +kernel) ?_
  refine g_newa (atype := .int) (ty := .int) hx hb hts (by decide +kernel) hG hS 0 rfl rfl (fun h => h) (N := 8) (8, .inl (fun _ => z2 0)) (za_i 8) rfl (by decide) (by decide) ⟨Nat.le_of_ble_eq_true rfl, Nat.le_of_ble_eq_true rfl⟩ dX5_init_119 (fun H hc z1 o1 hS2 => ?_)
  replace c0 := c0.kept (o1 _ c0.lt)
  replace c1 := c1.kept (o1 _ c1.lt)
  replace c2 := c2.kept (o1 _ c2.lt)
  replace c3 := c3.kept (o1 _ c3.lt)
  replace c4 := c4.kept (o1 _ c4.lt)
  replace c5 := c5.kept (o1 _ c5.lt)
  replace c6 := c6.kept (o1 _ c6.lt)
  replace c7 := c7.kept (o1 _ c7.lt)
  replace c8 := c8.kept (o1 _ c8.lt)
  replace c9 := c9.kept (o1 _ c9.lt)
  replace c10 := c10.kept (o1 _ c10.lt)
  replace c11 := c11.kept (o1 _ c11.lt)
  replace c12 := c12.kept (o1 _ c12.lt)
  replace c13 := c13.kept (o1 _ c13.lt)
  replace c14 := c14.kept (o1 _ c14.lt)
  replace hK : ∀ q : Nat, q < bm → H[q]? = s.heap[q]? := fun q h => (o1 q (by omega)).trans (hK q h)
  rw [hsz] at hc z1
  have c15 : ca D (bm + 15) (iA (ks 0) 8 (fun _ => z2 0)) H := hc
  refine W.eq (g2 := F0 m 121 ls [.ref (bm + 15), .ref bm]) (by rw [hsz]) ?_
  replace hsz : H.size = bm + 16 := z1
  replace hS := hS2
  clear hS2 hc o1 z1
  refine g_putF (C := RX5) (T := TX5) (N := 23) hx hb hts inX5 tyX5 tyX5_ok nmX5 hown hname hG hS c0 (Or.inl (show _ ≤ _ by omega)) rfl 16 (by decide) (by decide +kernel) rfl rfl (v := .ref (bm + 15)) rfl rfl (Nat.le_of_ble_eq_true rfl) dX5_init_121 (fun H locs he hz9 oq hS2 => ?_)
  replace c0 : ca D (bm) (.inr (5, [.int (z2 0), .int (z2 0), .ref (bm + 1), .ref (bm + 2), .ref (bm + 3), .ref (bm + 4), .ref (bm + 5), .ref (bm + 6), .ref (bm + 7), .ref (bm + 8), .ref (bm + 9), .ref (bm + 10), .ref (bm + 11), .ref (bm + 12), .ref (bm + 13), .ref (bm + 14), .ref (bm + 15), .null, .null, .null, .int (z2 0), .null, .int (z2 0)])) H := he
  replace c1 := c1.kept (oq _ (by omega))
  replace c2 := c2.kept (oq _ (by omega))
  replace c3 := c3.kept (oq _ (by omega))
  replace c4 := c4.kept (oq _ (by omega))
  replace c5 := c5.kept (oq _ (by omega))
  replace c6 := c6.kept (oq _ (by omega))
  replace c7 := c7.kept (oq _ (by omega))
  replace c8 := c8.kept (oq _ (by omega))
  replace c9 := c9.kept (oq _ (by omega))
  replace c10 := c10.kept (oq _ (by omega))
  replace c11 := c11.kept (oq _ (by omega))
  replace c12 := c12.kept (oq _ (by omega))
  replace c13 := c13.kept (oq _ (by omega))
  replace c14 := c14.kept (oq _ (by omega))
  replace c15 := c15.kept (oq _ (by omega))
  replace hK : ∀ q : Nat, q < bm → H[q]? = s.heap[q]? := fun q h => (oq q (by omega)).trans (hK q h)
  replace hsz := hz9.trans hsz
  replace hS := hS2
  clear he oq hz9 hS2
  refine lv_aload_n hx hb dX5_init_124 rfl (lv_at hl 0 rfl) ?_
  refine b_bipush hx hb dX5_init_125 (by decide +kernel) ?_
  refine g_newa (atype := .int) (ty := .int) hx hb hts (by decide +kernel) hG hS 0 rfl rfl (fun h => h) (N := 8) (8, .inl (fun _ => z2 0)) (za_i 8) rfl (by decide) (by decide) ⟨Nat.le_of_ble_eq_true rfl, Nat.le_of_ble_eq_true rfl⟩ dX5_init_127 (fun H hc z1 o1 hS2 => ?_)
  replace c0 := c0.kept (o1 _ c0.lt)
  replace c1 := c1.kept (o1 _ c1.lt)
  replace c2 := c2.kept (o1 _ c2.lt)
  replace c3 := c3.kept (o1 _ c3.lt)
  replace c4 := c4.kept (o1 _ c4.lt)
  replace c5 := c5.kept (o1 _ c5.lt)
  replace c6 := c6.kept (o1 _ c6.lt)
  replace c7 := c7.kept (o1 _ c7.lt)
  replace c8 := c8.kept (o1 _ c8.lt)
  replace c9 := c9.kept (o1 _ c9.lt)
  replace c10 := c10.kept (o1 _ c10.lt)
  replace c11 := c11.kept (o1 _ c11.lt)
  replace c12 := c12.kept (o1 _ c12.lt)
  replace c13 := c13.kept (o1 _ c13.lt)
  replace c14 := c14.kept (o1 _ c14.lt)
  replace c15 := c15.kept (o1 _ c15.lt)
  replace hK : ∀ q : Nat, q < bm → H[q]? = s.heap[q]? := fun q h => (o1 q (by omega)).trans (hK q h)
  rw [hsz] at hc z1
  have c16 : ca D (bm + 16) (iA (ks 0) 8 (fun _ => z2 0)) H := hc
  refine W.eq (g2 := F0 m 129 ls [.ref (bm + 16), .ref bm]) (by rw [hsz]) ?_
  replace hsz : H.size = bm + 17 := z1
  replace hS := hS2
  clear hS2 hc o1 z1
  refine g_putF (C := RX5) (T := TX5) (N := 23) hx hb hts inX5 tyX5 tyX5_ok nmX5 hown hname hG hS c0 (Or.inl (show _ ≤ _ by omega)) rfl 17 (by decide) (by decide +kernel) rfl rfl (v := .ref (bm + 16)) rfl rfl (Nat.le_of_ble_eq_true rfl) dX5_init_129 (fun H locs he hz9 oq hS2 => ?_)
  replace c0 : ca D (bm) (.inr (5, [.int (z2 0), .int (z2 0), .ref (bm + 1), .ref (bm + 2), .ref (bm + 3), .ref (bm + 4), .ref (bm + 5), .ref (bm + 6), .ref (bm + 7), .ref (bm + 8), .ref (bm + 9), .ref (bm + 10), .ref (bm + 11), .ref (bm + 12), .ref (bm + 13), .ref (bm + 14), .ref (bm + 15), .ref (bm + 16), .null, .null, .int (z2 0), .null, .int (z2 0)])) H := he
  replace c1 := c1.kept (oq _ (by omega))
  replace c2 := c2.kept (oq _ (by omega))
  replace c3 := c3.kept (oq _ (by omega))
  replace c4 := c4.kept (oq _ (by omega))
  replace c5 := c5.kept (oq _ (by omega))
  replace c6 := c6.kept (oq _ (by omega))
  replace c7 := c7.kept (oq _ (by omega))
  replace c8 := c8.kept (oq _ (by omega))
  replace c9 := c9.kept (oq _ (by omega))
  replace c10 := c10.kept (oq _ (by omega))
  replace c11 := c11.kept (oq _ (by omega))
  replace c12 := c12.kept (oq _ (by omega))
  replace c13 := c13.kept (oq _ (by omega))
  replace c14 := c14.kept (oq _ (by omega))
  replace c15 := c15.kept (oq _ (by omega))
  replace c16 := c16.kept (oq _ (by omega))
  replace hK : ∀ q : Nat, q < bm → H[q]? = s.heap[q]? := fun q h => (oq q (by omega)).trans (hK q h)
  replace hsz := hz9.trans hsz
  replace hS := hS2
  clear he oq hz9 hS2
  refine lv_aload_n hx hb dX5_init_132 rfl (lv_at hl 0 rfl) ?_
  refine b_iconst hx hb dX5_init_133 ?_
  refine g_newa (atype := .int) (ty := .int) hx hb hts (by decide +kernel) hG hS 0 rfl rfl (fun h => h) (N := 2) (2, .inl (fun _ => z2 0)) (za_i 2) rfl (by decide) (by decide) ⟨Nat.le_of_ble_eq_true rfl, Nat.le_of_ble_eq_true rfl⟩ dX5_init_134 (fun H hc z1 o1 hS2 => ?_)
  replace c0 := c0.kept (o1 _ c0.lt)
  replace c1 := c1.kept (o1 _ c1.lt)
  replace c2 := c2.kept (o1 _ c2.lt)
  replace c3 := c3.kept (o1 _ c3.lt)
  replace c4 := c4.kept (o1 _ c4.lt)
  replace c5 := c5.kept (o1 _ c5.lt)
  replace c6 := c6.kept (o1 _ c6.lt)
  replace c7 := c7.kept (o1 _ c7.lt)
  replace c8 := c8.kept (o1 _ c8.lt)
  replace c9 := c9.kept (o1 _ c9.lt)
  replace c10 := c10.kept (o1 _ c10.lt)
  replace c11 := c11.kept (o1 _ c11.lt)
  replace c12 := c12.kept (o1 _ c12.lt)
  replace c13 := c13.kept (o1 _ c13.lt)
  replace c14 := c14.kept (o1 _ c14.lt)
  replace c15 := c15.kept (o1 _ c15.lt)
  replace c16 := c16.kept (o1 _ c16.lt)
  replace hK : ∀ q : Nat, q < bm → H[q]? = s.heap[q]? := fun q h => (o1 q (by omega)).trans (hK q h)
  rw [hsz] at hc z1
  have c17 : ca D (bm + 17) (iA (ks 0) 2 (fun _ => z2 0)) H := hc
  refine W.eq (g2 := F0 m 136 ls [.ref (bm + 17), .ref bm]) (by rw [hsz]) ?_
  replace hsz : H.size = bm + 18 := z1
  replace hS := hS2
  clear hS2 hc o1 z1
  refine g_putF (C := RX5) (T := TX5) (N := 23) hx hb hts inX5 tyX5 tyX5_ok nmX5 hown hname hG hS c0 (Or.inl (show _ ≤ _ by omega)) rfl 18 (by decide) (by decide +kernel) rfl rfl (v := .ref (bm + 17)) rfl rfl (Nat.le_of_ble_eq_true rfl) dX5_init_136 (fun H locs he hz9 oq hS2 => ?_)
  replace c0 : ca D (bm) (.inr (5, [.int (z2 0), .int (z2 0), .ref (bm + 1), .ref (bm + 2), .ref (bm + 3), .ref (bm + 4), .ref (bm + 5), .ref (bm + 6), .ref (bm + 7), .ref (bm + 8), .ref (bm + 9), .ref (bm + 10), .ref (bm + 11), .ref (bm + 12), .ref (bm + 13), .ref (bm + 14), .ref (bm + 15), .ref (bm + 16), .ref (bm + 17), .null, .int (z2 0), .null, .int (z2 0)])) H := he
  replace c1 := c1.kept (oq _ (by omega))
  replace c2 := c2.kept (oq _ (by omega))
  replace c3 := c3.kept (oq _ (by omega))
  replace c4 := c4.kept (oq _ (by omega))
  replace c5 := c5.kept (oq _ (by omega))
  replace c6 := c6.kept (oq _ (by omega))
  replace c7 := c7.kept (oq _ (by omega))
  replace c8 := c8.kept (oq _ (by omega))
  replace c9 := c9.kept (oq _ (by omega))
  replace c10 := c10.kept (oq _ (by omega))
  replace c11 := c11.kept (oq _ (by omega))
  replace c12 := c12.kept (oq _ (by omega))
  replace c13 := c13.kept (oq _ (by omega))
  replace c14 := c14.kept (oq _ (by omega))
  replace c15 := c15.kept (oq _ (by omega))
  replace c16 := c16.kept (oq _ (by omega))
  replace c17 := c17.kept (oq _ (by omega))
  replace hK : ∀ q : Nat, q < bm → H[q]? = s.heap[q]? := fun q h => (oq q (by omega)).trans (hK q h)
  replace hsz := hz9.trans hsz
  replace hS := hS2
  clear he oq hz9 hS2
  refine lv_aload_n hx hb dX5_init_139 rfl (lv_at hl 0 rfl) ?_
  refine b_iconst hx hb dX5_init_140 ?_
  refine g_newa (atype := .int) (ty := .int) hx hb hts (by decide +kernel) hG hS 0 rfl rfl (fun h => h) (N := 2) (2, .inl (fun _ => z2 0)) (za_i 2) rfl (by decide) (by decide) ⟨Nat.le_of_ble_eq_true rfl, Nat.le_of_ble_eq_true rfl⟩ dX5_init_141 (fun H hc z1 o1 hS2 => ?_)
  replace c0 := c0.kept (o1 _ c0.lt)
  replace c1 := c1.kept (o1 _ c1.lt)
  replace c2 := c2.kept (o1 _ c2.lt)
  replace c3 := c3.kept (o1 _ c3.lt)
  replace c4 := c4.kept (o1 _ c4.lt)
  replace c5 := c5.kept (o1 _ c5.lt)
  replace c6 := c6.kept (o1 _ c6.lt)
  replace c7 := c7.kept (o1 _ c7.lt)
  replace c8 := c8.kept (o1 _ c8.lt)
  replace c9 := c9.kept (o1 _ c9.lt)
  replace c10 := c10.kept (o1 _ c10.lt)
  replace c11 := c11.kept (o1 _ c11.lt)
  replace c12 := c12.kept (o1 _ c12.lt)
  replace c13 := c13.kept (o1 _ c13.lt)
  replace c14 := c14.kept (o1 _ c14.lt)
  replace c15 := c15.kept (o1 _ c15.lt)
  replace c16 := c16.kept (o1 _ c16.lt)
  replace c17 := c17.kept (o1 _ c17.lt)
  replace hK : ∀ q : Nat, q < bm → H[q]? = s.heap[q]? := fun q h => (o1 q (by omega)).trans (hK q h)
  rw [hsz] at hc z1
  have c18 : ca D (bm + 18) (iA (ks 0) 2 (fun _ => z2 0)) H := hc
  refine W.eq (g2 := F0 m 143 ls [.ref (bm + 18), .ref bm]) (by rw [hsz]) ?_
  replace hsz : H.size = bm + 19 := z1
  replace hS := hS2
  clear hS2 hc o1 z1
  refine g_putF (C := RX5) (T := TX5) (N := 23) hx hb hts inX5 tyX5 tyX5_ok nmX5 hown hname hG hS c0 (Or.inl (show _ ≤ _ by omega)) rfl 19 (by decide) (by decide +kernel) rfl rfl (v := .ref (bm + 18)) rfl rfl (Nat.le_of_ble_eq_true rfl) dX5_init_143 (fun H locs he hz9 oq hS2 => ?_)
  replace c0 : ca D (bm) (.inr (5, [.int (z2 0), .int (z2 0), .ref (bm + 1), .ref (bm + 2), .ref (bm + 3), .ref (bm + 4), .ref (bm + 5), .ref (bm + 6), .ref (bm + 7), .ref (bm + 8), .ref (bm + 9), .ref (bm + 10), .ref (bm + 11), .ref (bm + 12), .ref (bm + 13), .ref (bm + 14), .ref (bm + 15), .ref (bm + 16), .ref (bm + 17), .ref (bm + 18), .int (z2 0), .null, .int (z2 0)])) H := he
  replace c1 := c1.kept (oq _ (by omega))
  replace c2 := c2.kept (oq _ (by omega))
  replace c3 := c3.kept (oq _ (by omega))
  replace c4 := c4.kept (oq _ (by omega))
  replace c5 := c5.kept (oq _ (by omega))
  replace c6 := c6.kept (oq _ (by omega))
  replace c7 := c7.kept (oq _ (by omega))
  replace c8 := c8.kept (oq _ (by omega))
  replace c9 := c9.kept (oq _ (by omega))
  replace c10 := c10.kept (oq _ (by omega))
  replace c11 := c11.kept (oq _ (by omega))
  replace c12 := c12.kept (oq _ (by omega))
  replace c13 := c13.kept (oq _ (by omega))
  replace c14 := c14.kept (oq _ (by omega))
  replace c15 := c15.kept (oq _ (by omega))
  replace c16 := c16.kept (oq _ (by omega))
  replace c17 := c17.kept (oq _ (by omega))
  replace c18 := c18.kept (oq _ (by omega))
  replace hK : ∀ q : Nat, q < bm → H[q]? = s.heap[q]? := fun q h => (oq q (by omega)).trans (hK q h)
  replace hsz := hz9.trans hsz
  replace hS := hS2
  clear he oq hz9 hS2
  refine lv_aload_n hx hb dX5_init_146 rfl (lv_at hl 0 rfl) ?_
  refine b_bipush hx hb dX5_init_147 (by decide +kernel) ?_
  refine g_newa (atype := .int) (ty := .int) hx hb hts (by decide +kernel) hG hS 0 rfl rfl (fun h => h) (N := 100) (100, .inl (fun _ => z2 0)) (za_i 100) rfl (by decide) (by decide) ⟨Nat.le_of_ble_eq_true rfl, Nat.le_of_ble_eq_true rfl⟩ dX5_init_149 (fun H hc z1 o1 hS2 => ?_)
  replace c0 := c0.kept (o1 _ c0.lt)
  replace c1 := c1.kept (o1 _ c1.lt)
  replace c2 := c2.kept (o1 _ c2.lt)
  replace c3 := c3.kept (o1 _ c3.lt)
  replace c4 := c4.kept (o1 _ c4.lt)
  replace c5 := c5.kept (o1 _ c5.lt)
  replace c6 := c6.kept (o1 _ c6.lt)
  replace c7 := c7.kept (o1 _ c7.lt)
  replace c8 := c8.kept (o1 _ c8.lt)
  replace c9 := c9.kept (o1 _ c9.lt)
  replace c10 := c10.kept (o1 _ c10.lt)
  replace c11 := c11.kept (o1 _ c11.lt)
  replace c12 := c12.kept (o1 _ c12.lt)
  replace c13 := c13.kept (o1 _ c13.lt)
  replace c14 := c14.kept (o1 _ c14.lt)
  replace c15 := c15.kept (o1 _ c15.lt)
  replace c16 := c16.kept (o1 _ c16.lt)
  replace c17 := c17.kept (o1 _ c17.lt)
  replace c18 := c18.kept (o1 _ c18.lt)
  replace hK : ∀ q : Nat, q < bm → H[q]? = s.heap[q]? := fun q h => (o1 q (by omega)).trans (hK q h)
  rw [hsz] at hc z1
  have c19 : ca D (bm + 19) (iA (ks 0) 100 (fun _ => z2 0)) H := hc
  refine W.eq (g2 := F0 m 151 ls [.ref (bm + 19), .ref bm]) (by rw [hsz]) ?_
  replace hsz : H.size = bm + 20 := z1
  replace hS := hS2
  clear hS2 hc o1 z1
  refine g_putF (C := RX5) (T := TX5) (N := 23) hx hb hts inX5 tyX5 tyX5_ok nmX5 hown hname hG hS c0 (Or.inl (show _ ≤ _ by omega)) rfl 21 (by decide) (by decide +kernel) rfl rfl (v := .ref (bm + 19)) rfl rfl (Nat.le_of_ble_eq_true rfl) dX5_init_151 (fun H locs he hz9 oq hS2 => ?_)
  replace c0 : ca D (bm) (.inr (5, [.int (z2 0), .int (z2 0), .ref (bm + 1), .ref (bm + 2), .ref (bm + 3), .ref (bm + 4), .ref (bm + 5), .ref (bm + 6), .ref (bm + 7), .ref (bm + 8), .ref (bm + 9), .ref (bm + 10), .ref (bm + 11), .ref (bm + 12), .ref (bm + 13), .ref (bm + 14), .ref (bm + 15), .ref (bm + 16), .ref (bm + 17), .ref (bm + 18), .int (z2 0), .ref (bm + 19), .int (z2 0)])) H := he
  replace c1 := c1.kept (oq _ (by omega))
  replace c2 := c2.kept (oq _ (by omega))
  replace c3 := c3.kept (oq _ (by omega))
  replace c4 := c4.kept (oq _ (by omega))
  replace c5 := c5.kept (oq _ (by omega))
  replace c6 := c6.kept (oq _ (by omega))
  replace c7 := c7.kept (oq _ (by omega))
  replace c8 := c8.kept (oq _ (by omega))
  replace c9 := c9.kept (oq _ (by omega))
  replace c10 := c10.kept (oq _ (by omega))
  replace c11 := c11.kept (oq _ (by omega))
  replace c12 := c12.kept (oq _ (by omega))
  replace c13 := c13.kept (oq _ (by omega))
  replace c14 := c14.kept (oq _ (by omega))
  replace c15 := c15.kept (oq _ (by omega))
  replace c16 := c16.kept (oq _ (by omega))
  replace c17 := c17.kept (oq _ (by omega))
  replace c18 := c18.kept (oq _ (by omega))
  replace c19 := c19.kept (oq _ (by omega))
  replace hK : ∀ q : Nat, q < bm → H[q]? = s.heap[q]? := fun q h => (oq q (by omega)).trans (hK q h)
  replace hsz := hz9.trans hsz
  replace hS := hS2
  clear he oq hz9 hS2
  refine b_iconst hx hb dX5_init_154 ?_
  refine lv_istore_n (lv' := [(1, .int (z2 (0))), (0, .ref bm)]) hx hb dX5_init_155 rfl hl (by decide) rfl (fun ls hl => ?_)
  refine lv_iload_n hx hb dX5_init_156 rfl (lv_at hl 0 rfl) ?_
  refine b_bipush hx hb dX5_init_157 (by decide +kernel) ?_
  refine b_icmp_ge (tgt := 175) hx hb dX5_init_159 (by decide) ⟨⟨by omega, by omega⟩, ⟨by omega, by omega⟩⟩ (fun c => absurd c (by omega)) (fun _ => ?_)
  refine lv_aload_n hx hb dX5_init_162 rfl (lv_at hl 1 rfl) ?_
  refine g_get (C := RX5) (T := TX5) (N := 23) hx hb hts inX5 hown hG c0 rfl 6 (by decide) (by decide +kernel) rfl (v := .ref (bm + 5)) rfl dX5_init_163 ?_
  refine lv_iload_n hx hb dX5_init_166 rfl (lv_at hl 0 rfl) ?_
  refine b_iconst hx hb dX5_init_167 ?_
  refine g_iast (n := 24) (f := (fun _ => z2 0)) hx hb hG hS c5 (Or.inl (show _ ≤ _ by omega)) 0 ⟨rfl, by decide, by decide⟩ dX5_init_168 (fun H locs he hz9 oq hS2 => ?_)
  replace c5 : ca D (bm + 5) (iA (ks 0) 24 (upd (fun _ => z2 0) 0 (z2 (1)))) H := he
  replace c0 := c0.kept (oq _ (by omega))
  replace c1 := c1.kept (oq _ (by omega))
  replace c2 := c2.kept (oq _ (by omega))
  replace c3 := c3.kept (oq _ (by omega))
  replace c4 := c4.kept (oq _ (by omega))
  replace c6 := c6.kept (oq _ (by omega))
  replace c7 := c7.kept (oq _ (by omega))
  replace c8 := c8.kept (oq _ (by omega))
  replace c9 := c9.kept (oq _ (by omega))
  replace c10 := c10.kept (oq _ (by omega))
  replace c11 := c11.kept (oq _ (by omega))
  replace c12 := c12.kept (oq _ (by omega))
  replace c13 := c13.kept (oq _ (by omega))
  replace c14 := c14.kept (oq _ (by omega))
  replace c15 := c15.kept (oq _ (by omega))
  replace c16 := c16.kept (oq _ (by omega))
  replace c17 := c17.kept (oq _ (by omega))
  replace c18 := c18.kept (oq _ (by omega))
  replace c19 := c19.kept (oq _ (by omega))
  replace hK : ∀ q : Nat, q < bm → H[q]? = s.heap[q]? := fun q h => (oq q (by omega)).trans (hK q h)
  replace hsz := hz9.trans hsz
  replace hS := hS2
  clear he oq hz9 hS2
  refine b_iinc (lv' := [(1, .int (z2 (1))), (0, .ref bm)]) hx hb dX5_init_169 hl (k := 0) rfl (by decide) rfl (fun ls hl => ?_)
  refine lv_goto (tgt := 156) hx hb dX5_init_172 (by decide) ?_
  refine lv_iload_n hx hb dX5_init_156 rfl (lv_at hl 0 rfl) ?_
  refine b_bipush hx hb dX5_init_157 (by decide +kernel) ?_
  refine b_icmp_ge (tgt := 175) hx hb dX5_init_159 (by decide) ⟨⟨by omega, by omega⟩, ⟨by omega, by omega⟩⟩ (fun c => absurd c (by omega)) (fun _ => ?_)
  refine lv_aload_n hx hb dX5_init_162 rfl (lv_at hl 1 rfl) ?_
  refine g_get (C := RX5) (T := TX5) (N := 23) hx hb hts inX5 hown hG c0 rfl 6 (by decide) (by decide +kernel) rfl (v := .ref (bm + 5)) rfl dX5_init_163 ?_
  refine lv_iload_n hx hb dX5_init_166 rfl (lv_at hl 0 rfl) ?_
  refine b_iconst hx hb dX5_init_167 ?_
  refine g_iast (n := 24) (f := (upd (fun _ => z2 0) 0 (z2 (1)))) hx hb hG hS c5 (Or.inl (show _ ≤ _ by omega)) 1 ⟨rfl, by decide, by decide⟩ dX5_init_168 (fun H locs he hz9 oq hS2 => ?_)
  replace c5 : ca D (bm + 5) (iA (ks 0) 24 (upd (upd (fun _ => z2 0) 0 (z2 (1))) 1 (z2 (1)))) H := he
  replace c0 := c0.kept (oq _ (by omega))
  replace c1 := c1.kept (oq _ (by omega))
  replace c2 := c2.kept (oq _ (by omega))
  replace c3 := c3.kept (oq _ (by omega))
  replace c4 := c4.kept (oq _ (by omega))
  replace c6 := c6.kept (oq _ (by omega))
  replace c7 := c7.kept (oq _ (by omega))
  replace c8 := c8.kept (oq _ (by omega))
  replace c9 := c9.kept (oq _ (by omega))
  replace c10 := c10.kept (oq _ (by omega))
  replace c11 := c11.kept (oq _ (by omega))
  replace c12 := c12.kept (oq _ (by omega))
  replace c13 := c13.kept (oq _ (by omega))
  replace c14 := c14.kept (oq _ (by omega))
  replace c15 := c15.kept (oq _ (by omega))
  replace c16 := c16.kept (oq _ (by omega))
  replace c17 := c17.kept (oq _ (by omega))
  replace c18 := c18.kept (oq _ (by omega))
  replace c19 := c19.kept (oq _ (by omega))
  replace hK : ∀ q : Nat, q < bm → H[q]? = s.heap[q]? := fun q h => (oq q (by omega)).trans (hK q h)
  replace hsz := hz9.trans hsz
  replace hS := hS2
  clear he oq hz9 hS2
  refine b_iinc (lv' := [(1, .int (z2 (2))), (0, .ref bm)]) hx hb dX5_init_169 hl (k := 0) rfl (by decide) rfl (fun ls hl => ?_)
  refine lv_goto (tgt := 156) hx hb dX5_init_172 (by decide) ?_
  refine lv_iload_n hx hb dX5_init_156 rfl (lv_at hl 0 rfl) ?_
  refine b_bipush hx hb dX5_init_157 (by decide +kernel) ?_
  refine b_icmp_ge (tgt := 175) hx hb dX5_init_159 (by decide) ⟨⟨by omega, by omega⟩, ⟨by omega, by omega⟩⟩ (fun c => absurd c (by omega)) (fun _ => ?_)
  refine lv_aload_n hx hb dX5_init_162 rfl (lv_at hl 1 rfl) ?_
  refine g_get (C := RX5) (T := TX5) (N := 23) hx hb hts inX5 hown hG c0 rfl 6 (by decide) (by decide +kernel) rfl (v := .ref (bm + 5)) rfl dX5_init_163 ?_
  refine lv_iload_n hx hb dX5_init_166 rfl (lv_at hl 0 rfl) ?_
  refine b_iconst hx hb dX5_init_167 ?_
  refine g_iast (n := 24) (f := (upd (upd (fun _ => z2 0) 0 (z2 (1))) 1 (z2 (1)))) hx hb hG hS c5 (Or.inl (show _ ≤ _ by omega)) 2 ⟨rfl, by decide, by decide⟩ dX5_init_168 (fun H locs he hz9 oq hS2 => ?_)
  replace c5 : ca D (bm + 5) (iA (ks 0) 24 (upd (upd (upd (fun _ => z2 0) 0 (z2 (1))) 1 (z2 (1))) 2 (z2 (1)))) H := he
  replace c0 := c0.kept (oq _ (by omega))
  replace c1 := c1.kept (oq _ (by omega))
  replace c2 := c2.kept (oq _ (by omega))
  replace c3 := c3.kept (oq _ (by omega))
  replace c4 := c4.kept (oq _ (by omega))
  replace c6 := c6.kept (oq _ (by omega))
  replace c7 := c7.kept (oq _ (by omega))
  replace c8 := c8.kept (oq _ (by omega))
  replace c9 := c9.kept (oq _ (by omega))
  replace c10 := c10.kept (oq _ (by omega))
  replace c11 := c11.kept (oq _ (by omega))
  replace c12 := c12.kept (oq _ (by omega))
  replace c13 := c13.kept (oq _ (by omega))
  replace c14 := c14.kept (oq _ (by omega))
  replace c15 := c15.kept (oq _ (by omega))
  replace c16 := c16.kept (oq _ (by omega))
  replace c17 := c17.kept (oq _ (by omega))
  replace c18 := c18.kept (oq _ (by omega))
  replace c19 := c19.kept (oq _ (by omega))
  replace hK : ∀ q : Nat, q < bm → H[q]? = s.heap[q]? := fun q h => (oq q (by omega)).trans (hK q h)
  replace hsz := hz9.trans hsz
  replace hS := hS2
  clear he oq hz9 hS2
  refine b_iinc (lv' := [(1, .int (z2 (3))), (0, .ref bm)]) hx hb dX5_init_169 hl (k := 0) rfl (by decide) rfl (fun ls hl => ?_)
  refine lv_goto (tgt := 156) hx hb dX5_init_172 (by decide) ?_
  refine lv_iload_n hx hb dX5_init_156 rfl (lv_at hl 0 rfl) ?_
  refine b_bipush hx hb dX5_init_157 (by decide +kernel) ?_
  refine b_icmp_ge (tgt := 175) hx hb dX5_init_159 (by decide) ⟨⟨by omega, by omega⟩, ⟨by omega, by omega⟩⟩ (fun c => absurd c (by omega)) (fun _ => ?_)
  refine lv_aload_n hx hb dX5_init_162 rfl (lv_at hl 1 rfl) ?_
  refine g_get (C := RX5) (T := TX5) (N := 23) hx hb hts inX5 hown hG c0 rfl 6 (by decide) (by decide +kernel) rfl (v := .ref (bm + 5)) rfl dX5_init_163 ?_
  refine lv_iload_n hx hb dX5_init_166 rfl (lv_at hl 0 rfl) ?_
  refine b_iconst hx hb dX5_init_167 ?_
  refine g_iast (n := 24) (f := (upd (upd (upd (fun _ => z2 0) 0 (z2 (1))) 1 (z2 (1))) 2 (z2 (1)))) hx hb hG hS c5 (Or.inl (show _ ≤ _ by omega)) 3 ⟨rfl, by decide, by decide⟩ dX5_init_168 (fun H locs he hz9 oq hS2 => ?_)
  replace c5 : ca D (bm + 5) (iA (ks 0) 24 (upd (upd (upd (upd (fun _ => z2 0) 0 (z2 (1))) 1 (z2 (1))) 2 (z2 (1))) 3 (z2 (1)))) H := he
  replace c0 := c0.kept (oq _ (by omega))
  replace c1 := c1.kept (oq _ (by omega))
  replace c2 := c2.kept (oq _ (by omega))
  replace c3 := c3.kept (oq _ (by omega))
  replace c4 := c4.kept (oq _ (by omega))
  replace c6 := c6.kept (oq _ (by omega))
  replace c7 := c7.kept (oq _ (by omega))
  replace c8 := c8.kept (oq _ (by omega))
  replace c9 := c9.kept (oq _ (by omega))
  replace c10 := c10.kept (oq _ (by omega))
  replace c11 := c11.kept (oq _ (by omega))
  replace c12 := c12.kept (oq _ (by omega))
  replace c13 := c13.kept (oq _ (by omega))
  replace c14 := c14.kept (oq _ (by omega))
  replace c15 := c15.kept (oq _ (by omega))
  replace c16 := c16.kept (oq _ (by omega))
  replace c17 := c17.kept (oq _ (by omega))
  replace c18 := c18.kept (oq _ (by omega))
  replace c19 := c19.kept (oq _ (by omega))
  replace hK : ∀ q : Nat, q < bm → H[q]? = s.heap[q]? := fun q h => (oq q (by omega)).trans (hK q h)
  replace hsz := hz9.trans hsz
  replace hS := hS2
  clear he oq hz9 hS2
  refine b_iinc (lv' := [(1, .int (z2 (4))), (0, .ref bm)]) hx hb dX5_init_169 hl (k := 0) rfl (by decide) rfl (fun ls hl => ?_)
  refine lv_goto (tgt := 156) hx hb dX5_init_172 (by decide) ?_
  refine lv_iload_n hx hb dX5_init_156 rfl (lv_at hl 0 rfl) ?_
  refine b_bipush hx hb dX5_init_157 (by decide +kernel) ?_
  refine b_icmp_ge (tgt := 175) hx hb dX5_init_159 (by decide) ⟨⟨by omega, by omega⟩, ⟨by omega, by omega⟩⟩ (fun c => absurd c (by omega)) (fun _ => ?_)
  refine lv_aload_n hx hb dX5_init_162 rfl (lv_at hl 1 rfl) ?_
  refine g_get (C := RX5) (T := TX5) (N := 23) hx hb hts inX5 hown hG c0 rfl 6 (by decide) (by decide +kernel) rfl (v := .ref (bm + 5)) rfl dX5_init_163 ?_
  refine lv_iload_n hx hb dX5_init_166 rfl (lv_at hl 0 rfl) ?_
  refine b_iconst hx hb dX5_init_167 ?_
  refine g_iast (n := 24) (f := (upd (upd (upd (upd (fun _ => z2 0) 0 (z2 (1))) 1 (z2 (1))) 2 (z2 (1))) 3 (z2 (1)))) hx hb hG hS c5 (Or.inl (show _ ≤ _ by omega)) 4 ⟨rfl, by decide, by decide⟩ dX5_init_168 (fun H locs he hz9 oq hS2 => ?_)
  replace c5 : ca D (bm + 5) (iA (ks 0) 24 (upd (upd (upd (upd (upd (fun _ => z2 0) 0 (z2 (1))) 1 (z2 (1))) 2 (z2 (1))) 3 (z2 (1))) 4 (z2 (1)))) H := he
  replace c0 := c0.kept (oq _ (by omega))
  replace c1 := c1.kept (oq _ (by omega))
  replace c2 := c2.kept (oq _ (by omega))
  replace c3 := c3.kept (oq _ (by omega))
  replace c4 := c4.kept (oq _ (by omega))
  replace c6 := c6.kept (oq _ (by omega))
  replace c7 := c7.kept (oq _ (by omega))
  replace c8 := c8.kept (oq _ (by omega))
  replace c9 := c9.kept (oq _ (by omega))
  replace c10 := c10.kept (oq _ (by omega))
  replace c11 := c11.kept (oq _ (by omega))
  replace c12 := c12.kept (oq _ (by omega))
  replace c13 := c13.kept (oq _ (by omega))
  replace c14 := c14.kept (oq _ (by omega))
  replace c15 := c15.kept (oq _ (by omega))
  replace c16 := c16.kept (oq _ (by omega))
  replace c17 := c17.kept (oq _ (by omega))
  replace c18 := c18.kept (oq _ (by omega))
  replace c19 := c19.kept (oq _ (by omega))
  replace hK : ∀ q : Nat, q < bm → H[q]? = s.heap[q]? := fun q h => (oq q (by omega)).trans (hK q h)
  replace hsz := hz9.trans hsz
  replace hS := hS2
  clear he oq hz9 hS2
  refine b_iinc (lv' := [(1, .int (z2 (5))), (0, .ref bm)]) hx hb dX5_init_169 hl (k := 0) rfl (by decide) rfl (fun ls hl => ?_)
  refine lv_goto (tgt := 156) hx hb dX5_init_172 (by decide) ?_
  refine lv_iload_n hx hb dX5_init_156 rfl (lv_at hl 0 rfl) ?_
  refine b_bipush hx hb dX5_init_157 (by decide +kernel) ?_
  refine b_icmp_ge (tgt := 175) hx hb dX5_init_159 (by decide) ⟨⟨by omega, by omega⟩, ⟨by omega, by omega⟩⟩ (fun c => absurd c (by omega)) (fun _ => ?_)
  refine lv_aload_n hx hb dX5_init_162 rfl (lv_at hl 1 rfl) ?_
  refine g_get (C := RX5) (T := TX5) (N := 23) hx hb hts inX5 hown hG c0 rfl 6 (by decide) (by decide +kernel) rfl (v := .ref (bm + 5)) rfl dX5_init_163 ?_
  refine lv_iload_n hx hb dX5_init_166 rfl (lv_at hl 0 rfl) ?_
  refine b_iconst hx hb dX5_init_167 ?_
  refine g_iast (n := 24) (f := (upd (upd (upd (upd (upd (fun _ => z2 0) 0 (z2 (1))) 1 (z2 (1))) 2 (z2 (1))) 3 (z2 (1))) 4 (z2 (1)))) hx hb hG hS c5 (Or.inl (show _ ≤ _ by omega)) 5 ⟨rfl, by decide, by decide⟩ dX5_init_168 (fun H locs he hz9 oq hS2 => ?_)
  replace c5 : ca D (bm + 5) (iA (ks 0) 24 (upd (upd (upd (upd (upd (upd (fun _ => z2 0) 0 (z2 (1))) 1 (z2 (1))) 2 (z2 (1))) 3 (z2 (1))) 4 (z2 (1))) 5 (z2 (1)))) H := he
  replace c0 := c0.kept (oq _ (by omega))
  replace c1 := c1.kept (oq _ (by omega))
  replace c2 := c2.kept (oq _ (by omega))
  replace c3 := c3.kept (oq _ (by omega))
  replace c4 := c4.kept (oq _ (by omega))
  replace c6 := c6.kept (oq _ (by omega))
  replace c7 := c7.kept (oq _ (by omega))
  replace c8 := c8.kept (oq _ (by omega))
  replace c9 := c9.kept (oq _ (by omega))
  replace c10 := c10.kept (oq _ (by omega))
  replace c11 := c11.kept (oq _ (by omega))
  replace c12 := c12.kept (oq _ (by omega))
  replace c13 := c13.kept (oq _ (by omega))
  replace c14 := c14.kept (oq _ (by omega))
  replace c15 := c15.kept (oq _ (by omega))
  replace c16 := c16.kept (oq _ (by omega))
  replace c17 := c17.kept (oq _ (by omega))
  replace c18 := c18.kept (oq _ (by omega))
  replace c19 := c19.kept (oq _ (by omega))
  replace hK : ∀ q : Nat, q < bm → H[q]? = s.heap[q]? := fun q h => (oq q (by omega)).trans (hK q h)
  replace hsz := hz9.trans hsz
  replace hS := hS2
  clear he oq hz9 hS2
  refine b_iinc (lv' := [(1, .int (z2 (6))), (0, .ref bm)]) hx hb dX5_init_169 hl (k := 0) rfl (by decide) rfl (fun ls hl => ?_)
  refine lv_goto (tgt := 156) hx hb dX5_init_172 (by decide) ?_
  refine lv_iload_n hx hb dX5_init_156 rfl (lv_at hl 0 rfl) ?_
  refine b_bipush hx hb dX5_init_157 (by decide +kernel) ?_
  refine b_icmp_ge (tgt := 175) hx hb dX5_init_159 (by decide) ⟨⟨by omega, by omega⟩, ⟨by omega, by omega⟩⟩ (fun c => absurd c (by omega)) (fun _ => ?_)
  refine lv_aload_n hx hb dX5_init_162 rfl (lv_at hl 1 rfl) ?_
  refine g_get (C := RX5) (T := TX5) (N := 23) hx hb hts inX5 hown hG c0 rfl 6 (by decide) (by decide +kernel) rfl (v := .ref (bm + 5)) rfl dX5_init_163 ?_
  refine lv_iload_n hx hb dX5_init_166 rfl (lv_at hl 0 rfl) ?_
  refine b_iconst hx hb dX5_init_167 ?_
  refine g_iast (n := 24) (f := (upd (upd (upd (upd (upd (upd (fun _ => z2 0) 0 (z2 (1))) 1 (z2 (1))) 2 (z2 (1))) 3 (z2 (1))) 4 (z2 (1))) 5 (z2 (1)))) hx hb hG hS c5 (Or.inl (show _ ≤ _ by omega)) 6 ⟨rfl, by decide, by decide⟩ dX5_init_168 (fun H locs he hz9 oq hS2 => ?_)
  replace c5 : ca D (bm + 5) (iA (ks 0) 24 (upd (upd (upd (upd (upd (upd (upd (fun _ => z2 0) 0 (z2 (1))) 1 (z2 (1))) 2 (z2 (1))) 3 (z2 (1))) 4 (z2 (1))) 5 (z2 (1))) 6 (z2 (1)))) H := he
  replace c0 := c0.kept (oq _ (by omega))
  replace c1 := c1.kept (oq _ (by omega))
  replace c2 := c2.kept (oq _ (by omega))
  replace c3 := c3.kept (oq _ (by omega))
  replace c4 := c4.kept (oq _ (by omega))
  replace c6 := c6.kept (oq _ (by omega))
  replace c7 := c7.kept (oq _ (by omega))
  replace c8 := c8.kept (oq _ (by omega))
  replace c9 := c9.kept (oq _ (by omega))
  replace c10 := c10.kept (oq _ (by omega))
  replace c11 := c11.kept (oq _ (by omega))
  replace c12 := c12.kept (oq _ (by omega))
  replace c13 := c13.kept (oq _ (by omega))
  replace c14 := c14.kept (oq _ (by omega))
  replace c15 := c15.kept (oq _ (by omega))
  replace c16 := c16.kept (oq _ (by omega))
  replace c17 := c17.kept (oq _ (by omega))
  replace c18 := c18.kept (oq _ (by omega))
  replace c19 := c19.kept (oq _ (by omega))
  replace hK : ∀ q : Nat, q < bm → H[q]? = s.heap[q]? := fun q h => (oq q (by omega)).trans (hK q h)
  replace hsz := hz9.trans hsz
  replace hS := hS2
  clear he oq hz9 hS2
  refine b_iinc (lv' := [(1, .int (z2 (7))), (0, .ref bm)]) hx hb dX5_init_169 hl (k := 0) rfl (by decide) rfl (fun ls hl => ?_)
  refine lv_goto (tgt := 156) hx hb dX5_init_172 (by decide) ?_
  refine lv_iload_n hx hb dX5_init_156 rfl (lv_at hl 0 rfl) ?_
  refine b_bipush hx hb dX5_init_157 (by decide +kernel) ?_
  refine b_icmp_ge (tgt := 175) hx hb dX5_init_159 (by decide) ⟨⟨by omega, by omega⟩, ⟨by omega, by omega⟩⟩ (fun c => absurd c (by omega)) (fun _ => ?_)
  refine lv_aload_n hx hb dX5_init_162 rfl (lv_at hl 1 rfl) ?_
  refine g_get (C := RX5) (T := TX5) (N := 23) hx hb hts inX5 hown hG c0 rfl 6 (by decide) (by decide +kernel) rfl (v := .ref (bm + 5)) rfl dX5_init_163 ?_
  refine lv_iload_n hx hb dX5_init_166 rfl (lv_at hl 0 rfl) ?_
  refine b_iconst hx hb dX5_init_167 ?_
  refine g_iast (n := 24) (f := (upd (upd (upd (upd (upd (upd (upd (fun _ => z2 0) 0 (z2 (1))) 1 (z2 (1))) 2 (z2 (1))) 3 (z2 (1))) 4 (z2 (1))) 5 (z2 (1))) 6 (z2 (1)))) hx hb hG hS c5 (Or.inl (show _ ≤ _ by omega)) 7 ⟨rfl, by decide, by decide⟩ dX5_init_168 (fun H locs he hz9 oq hS2 => ?_)
  replace c5 : ca D (bm + 5) (iA (ks 0) 24 (upd (upd (upd (upd (upd (upd (upd (upd (fun _ => z2 0) 0 (z2 (1))) 1 (z2 (1))) 2 (z2 (1))) 3 (z2 (1))) 4 (z2 (1))) 5 (z2 (1))) 6 (z2 (1))) 7 (z2 (1)))) H := he
  replace c0 := c0.kept (oq _ (by omega))
  replace c1 := c1.kept (oq _ (by omega))
  replace c2 := c2.kept (oq _ (by omega))
  replace c3 := c3.kept (oq _ (by omega))
  replace c4 := c4.kept (oq _ (by omega))
  replace c6 := c6.kept (oq _ (by omega))
  replace c7 := c7.kept (oq _ (by omega))
  replace c8 := c8.kept (oq _ (by omega))
  replace c9 := c9.kept (oq _ (by omega))
  replace c10 := c10.kept (oq _ (by omega))
  replace c11 := c11.kept (oq _ (by omega))
  replace c12 := c12.kept (oq _ (by omega))
  replace c13 := c13.kept (oq _ (by omega))
  replace c14 := c14.kept (oq _ (by omega))
  replace c15 := c15.kept (oq _ (by omega))
  replace c16 := c16.kept (oq _ (by omega))
  replace c17 := c17.kept (oq _ (by omega))
  replace c18 := c18.kept (oq _ (by omega))
  replace c19 := c19.kept (oq _ (by omega))
  replace hK : ∀ q : Nat, q < bm → H[q]? = s.heap[q]? := fun q h => (oq q (by omega)).trans (hK q h)
  replace hsz := hz9.trans hsz
  replace hS := hS2
  clear he oq hz9 hS2
  refine b_iinc (lv' := [(1, .int (z2 (8))), (0, .ref bm)]) hx hb dX5_init_169 hl (k := 0) rfl (by decide) rfl (fun ls hl => ?_)
  refine lv_goto (tgt := 156) hx hb dX5_init_172 (by decide) ?_
  refine lv_iload_n hx hb dX5_init_156 rfl (lv_at hl 0 rfl) ?_
  refine b_bipush hx hb dX5_init_157 (by decide +kernel) ?_
  refine b_icmp_ge (tgt := 175) hx hb dX5_init_159 (by decide) ⟨⟨by omega, by omega⟩, ⟨by omega, by omega⟩⟩ (fun c => absurd c (by omega)) (fun _ => ?_)
  refine lv_aload_n hx hb dX5_init_162 rfl (lv_at hl 1 rfl) ?_
  refine g_get (C := RX5) (T := TX5) (N := 23) hx hb hts inX5 hown hG c0 rfl 6 (by decide) (by decide +kernel) rfl (v := .ref (bm + 5)) rfl dX5_init_163 ?_
  refine lv_iload_n hx hb dX5_init_166 rfl (lv_at hl 0 rfl) ?_
  refine b_iconst hx hb dX5_init_167 ?_
  refine g_iast (n := 24) (f := (upd (upd (upd (upd (upd (upd (upd (upd (fun _ => z2 0) 0 (z2 (1))) 1 (z2 (1))) 2 (z2 (1))) 3 (z2 (1))) 4 (z2 (1))) 5 (z2 (1))) 6 (z2 (1))) 7 (z2 (1)))) hx hb hG hS c5 (Or.inl (show _ ≤ _ by omega)) 8 ⟨rfl, by decide, by decide⟩ dX5_init_168 (fun H locs he hz9 oq hS2 => ?_)
  replace c5 : ca D (bm + 5) (iA (ks 0) 24 (upd (upd (upd (upd (upd (upd (upd (upd (upd (fun _ => z2 0) 0 (z2 (1))) 1 (z2 (1))) 2 (z2 (1))) 3 (z2 (1))) 4 (z2 (1))) 5 (z2 (1))) 6 (z2 (1))) 7 (z2 (1))) 8 (z2 (1)))) H := he
  replace c0 := c0.kept (oq _ (by omega))
  replace c1 := c1.kept (oq _ (by omega))
  replace c2 := c2.kept (oq _ (by omega))
  replace c3 := c3.kept (oq _ (by omega))
  replace c4 := c4.kept (oq _ (by omega))
  replace c6 := c6.kept (oq _ (by omega))
  replace c7 := c7.kept (oq _ (by omega))
  replace c8 := c8.kept (oq _ (by omega))
  replace c9 := c9.kept (oq _ (by omega))
  replace c10 := c10.kept (oq _ (by omega))
  replace c11 := c11.kept (oq _ (by omega))
  replace c12 := c12.kept (oq _ (by omega))
  replace c13 := c13.kept (oq _ (by omega))
  replace c14 := c14.kept (oq _ (by omega))
  replace c15 := c15.kept (oq _ (by omega))
  replace c16 := c16.kept (oq _ (by omega))
  replace c17 := c17.kept (oq _ (by omega))
  replace c18 := c18.kept (oq _ (by omega))
  replace c19 := c19.kept (oq _ (by omega))
  replace hK : ∀ q : Nat, q < bm → H[q]? = s.heap[q]? := fun q h => (oq q (by omega)).trans (hK q h)
  replace hsz := hz9.trans hsz
  replace hS := hS2
  clear he oq hz9 hS2
  refine b_iinc (lv' := [(1, .int (z2 (9))), (0, .ref bm)]) hx hb dX5_init_169 hl (k := 0) rfl (by decide) rfl (fun ls hl => ?_)
  refine lv_goto (tgt := 156) hx hb dX5_init_172 (by decide) ?_
  refine lv_iload_n hx hb dX5_init_156 rfl (lv_at hl 0 rfl) ?_
  refine b_bipush hx hb dX5_init_157 (by decide +kernel) ?_
  refine b_icmp_ge (tgt := 175) hx hb dX5_init_159 (by decide) ⟨⟨by omega, by omega⟩, ⟨by omega, by omega⟩⟩ (fun c => absurd c (by omega)) (fun _ => ?_)
  refine lv_aload_n hx hb dX5_init_162 rfl (lv_at hl 1 rfl) ?_
  refine g_get (C := RX5) (T := TX5) (N := 23) hx hb hts inX5 hown hG c0 rfl 6 (by decide) (by decide +kernel) rfl (v := .ref (bm + 5)) rfl dX5_init_163 ?_
  refine lv_iload_n hx hb dX5_init_166 rfl (lv_at hl 0 rfl) ?_
  refine b_iconst hx hb dX5_init_167 ?_
  refine g_iast (n := 24) (f := (upd (upd (upd (upd (upd (upd (upd (upd (upd (fun _ => z2 0) 0 (z2 (1))) 1 (z2 (1))) 2 (z2 (1))) 3 (z2 (1))) 4 (z2 (1))) 5 (z2 (1))) 6 (z2 (1))) 7 (z2 (1))) 8 (z2 (1)))) hx hb hG hS c5 (Or.inl (show _ ≤ _ by omega)) 9 ⟨rfl, by decide, by decide⟩ dX5_init_168 (fun H locs he hz9 oq hS2 => ?_)
  replace c5 : ca D (bm + 5) (iA (ks 0) 24 (upd (upd (upd (upd (upd (upd (upd (upd (upd (upd (fun _ => z2 0) 0 (z2 (1))) 1 (z2 (1))) 2 (z2 (1))) 3 (z2 (1))) 4 (z2 (1))) 5 (z2 (1))) 6 (z2 (1))) 7 (z2 (1))) 8 (z2 (1))) 9 (z2 (1)))) H := he
  replace c0 := c0.kept (oq _ (by omega))
  replace c1 := c1.kept (oq _ (by omega))
  replace c2 := c2.kept (oq _ (by omega))
  replace c3 := c3.kept (oq _ (by omega))
  replace c4 := c4.kept (oq _ (by omega))
  replace c6 := c6.kept (oq _ (by omega))
  replace c7 := c7.kept (oq _ (by omega))
  replace c8 := c8.kept (oq _ (by omega))
  replace c9 := c9.kept (oq _ (by omega))
  replace c10 := c10.kept (oq _ (by omega))
  replace c11 := c11.kept (oq _ (by omega))
  replace c12 := c12.kept (oq _ (by omega))
  replace c13 := c13.kept (oq _ (by omega))
  replace c14 := c14.kept (oq _ (by omega))
  replace c15 := c15.kept (oq _ (by omega))
  replace c16 := c16.kept (oq _ (by omega))
  replace c17 := c17.kept (oq _ (by omega))
  replace c18 := c18.kept (oq _ (by omega))
  replace c19 := c19.kept (oq _ (by omega))
  replace hK : ∀ q : Nat, q < bm → H[q]? = s.heap[q]? := fun q h => (oq q (by omega)).trans (hK q h)
  replace hsz := hz9.trans hsz
  replace hS := hS2
  clear he oq hz9 hS2
  refine b_iinc (lv' := [(1, .int (z2 (10))), (0, .ref bm)]) hx hb dX5_init_169 hl (k := 0) rfl (by decide) rfl (fun ls hl => ?_)
  refine lv_goto (tgt := 156) hx hb dX5_init_172 (by decide) ?_
  refine lv_iload_n hx hb dX5_init_156 rfl (lv_at hl 0 rfl) ?_
  refine b_bipush hx hb dX5_init_157 (by decide +kernel) ?_
  refine b_icmp_ge (tgt := 175) hx hb dX5_init_159 (by decide) ⟨⟨by omega, by omega⟩, ⟨by omega, by omega⟩⟩ (fun c => absurd c (by omega)) (fun _ => ?_)
  refine lv_aload_n hx hb dX5_init_162 rfl (lv_at hl 1 rfl) ?_
  refine g_get (C := RX5) (T := TX5) (N := 23) hx hb hts inX5 hown hG c0 rfl 6 (by decide) (by decide +kernel) rfl (v := .ref (bm + 5)) rfl dX5_init_163 ?_
  refine lv_iload_n hx hb dX5_init_166 rfl (lv_at hl 0 rfl) ?_
  refine b_iconst hx hb dX5_init_167 ?_
  refine g_iast (n := 24) (f := (upd (upd (upd (upd (upd (upd (upd (upd (upd (upd (fun _ => z2 0) 0 (z2 (1))) 1 (z2 (1))) 2 (z2 (1))) 3 (z2 (1))) 4 (z2 (1))) 5 (z2 (1))) 6 (z2 (1))) 7 (z2 (1))) 8 (z2 (1))) 9 (z2 (1)))) hx hb hG hS c5 (Or.inl (show _ ≤ _ by omega)) 10 ⟨rfl, by decide, by decide⟩ dX5_init_168 (fun H locs he hz9 oq hS2 => ?_)
  replace c5 : ca D (bm + 5) (iA (ks 0) 24 (upd (upd (upd (upd (upd (upd (upd (upd (upd (upd (upd (fun _ => z2 0) 0 (z2 (1))) 1 (z2 (1))) 2 (z2 (1))) 3 (z2 (1))) 4 (z2 (1))) 5 (z2 (1))) 6 (z2 (1))) 7 (z2 (1))) 8 (z2 (1))) 9 (z2 (1))) 10 (z2 (1)))) H := he
  replace c0 := c0.kept (oq _ (by omega))
  replace c1 := c1.kept (oq _ (by omega))
  replace c2 := c2.kept (oq _ (by omega))
  replace c3 := c3.kept (oq _ (by omega))
  replace c4 := c4.kept (oq _ (by omega))
  replace c6 := c6.kept (oq _ (by omega))
  replace c7 := c7.kept (oq _ (by omega))
  replace c8 := c8.kept (oq _ (by omega))
  replace c9 := c9.kept (oq _ (by omega))
  replace c10 := c10.kept (oq _ (by omega))
  replace c11 := c11.kept (oq _ (by omega))
  replace c12 := c12.kept (oq _ (by omega))
  replace c13 := c13.kept (oq _ (by omega))
  replace c14 := c14.kept (oq _ (by omega))
  replace c15 := c15.kept (oq _ (by omega))
  replace c16 := c16.kept (oq _ (by omega))
  replace c17 := c17.kept (oq _ (by omega))
  replace c18 := c18.kept (oq _ (by omega))
  replace c19 := c19.kept (oq _ (by omega))
  replace hK : ∀ q : Nat, q < bm → H[q]? = s.heap[q]? := fun q h => (oq q (by omega)).trans (hK q h)
  replace hsz := hz9.trans hsz
  replace hS := hS2
  clear he oq hz9 hS2
  refine b_iinc (lv' := [(1, .int (z2 (11))), (0, .ref bm)]) hx hb dX5_init_169 hl (k := 0) rfl (by decide) rfl (fun ls hl => ?_)
  refine lv_goto (tgt := 156) hx hb dX5_init_172 (by decide) ?_
  refine lv_iload_n hx hb dX5_init_156 rfl (lv_at hl 0 rfl) ?_
  refine b_bipush hx hb dX5_init_157 (by decide +kernel) ?_
  refine b_icmp_ge (tgt := 175) hx hb dX5_init_159 (by decide) ⟨⟨by omega, by omega⟩, ⟨by omega, by omega⟩⟩ (fun c => absurd c (by omega)) (fun _ => ?_)
  refine lv_aload_n hx hb dX5_init_162 rfl (lv_at hl 1 rfl) ?_
  refine g_get (C := RX5) (T := TX5) (N := 23) hx hb hts inX5 hown hG c0 rfl 6 (by decide) (by decide +kernel) rfl (v := .ref (bm + 5)) rfl dX5_init_163 ?_
  refine lv_iload_n hx hb dX5_init_166 rfl (lv_at hl 0 rfl) ?_
  refine b_iconst hx hb dX5_init_167 ?_
  refine g_iast (n := 24) (f := (upd (upd (upd (upd (upd (upd (upd (upd (upd (upd (upd (fun _ => z2 0) 0 (z2 (1))) 1 (z2 (1))) 2 (z2 (1))) 3 (z2 (1))) 4 (z2 (1))) 5 (z2 (1))) 6 (z2 (1))) 7 (z2 (1))) 8 (z2 (1))) 9 (z2 (1))) 10 (z2 (1)))) hx hb hG hS c5 (Or.inl (show _ ≤ _ by omega)) 11 ⟨rfl, by decide, by decide⟩ dX5_init_168 (fun H locs he hz9 oq hS2 => ?_)
  replace c5 : ca D (bm + 5) (iA (ks 0) 24 (upd (upd (upd (upd (upd (upd (upd (upd (upd (upd (upd (upd (fun _ => z2 0) 0 (z2 (1))) 1 (z2 (1))) 2 (z2 (1))) 3 (z2 (1))) 4 (z2 (1))) 5 (z2 (1))) 6 (z2 (1))) 7 (z2 (1))) 8 (z2 (1))) 9 (z2 (1))) 10 (z2 (1))) 11 (z2 (1)))) H := he
  replace c0 := c0.kept (oq _ (by omega))
  replace c1 := c1.kept (oq _ (by omega))
  replace c2 := c2.kept (oq _ (by omega))
  replace c3 := c3.kept (oq _ (by omega))
  replace c4 := c4.kept (oq _ (by omega))
  replace c6 := c6.kept (oq _ (by omega))
  replace c7 := c7.kept (oq _ (by omega))
  replace c8 := c8.kept (oq _ (by omega))
  replace c9 := c9.kept (oq _ (by omega))
  replace c10 := c10.kept (oq _ (by omega))
  replace c11 := c11.kept (oq _ (by omega))
  replace c12 := c12.kept (oq _ (by omega))
  replace c13 := c13.kept (oq _ (by omega))
  replace c14 := c14.kept (oq _ (by omega))
  replace c15 := c15.kept (oq _ (by omega))
  replace c16 := c16.kept (oq _ (by omega))
  replace c17 := c17.kept (oq _ (by omega))
  replace c18 := c18.kept (oq _ (by omega))
  replace c19 := c19.kept (oq _ (by omega))
  replace hK : ∀ q : Nat, q < bm → H[q]? = s.heap[q]? := fun q h => (oq q (by omega)).trans (hK q h)
  replace hsz := hz9.trans hsz
  replace hS := hS2
  clear he oq hz9 hS2
  refine b_iinc (lv' := [(1, .int (z2 (12))), (0, .ref bm)]) hx hb dX5_init_169 hl (k := 0) rfl (by decide) rfl (fun ls hl => ?_)
  refine lv_goto (tgt := 156) hx hb dX5_init_172 (by decide) ?_
  refine lv_iload_n hx hb dX5_init_156 rfl (lv_at hl 0 rfl) ?_
  refine b_bipush hx hb dX5_init_157 (by decide +kernel) ?_
  refine b_icmp_ge (tgt := 175) hx hb dX5_init_159 (by decide) ⟨⟨by omega, by omega⟩, ⟨by omega, by omega⟩⟩ (fun c => absurd c (by omega)) (fun _ => ?_)
  refine lv_aload_n hx hb dX5_init_162 rfl (lv_at hl 1 rfl) ?_
  refine g_get (C := RX5) (T := TX5) (N := 23) hx hb hts inX5 hown hG c0 rfl 6 (by decide) (by decide +kernel) rfl (v := .ref (bm + 5)) rfl dX5_init_163 ?_
  refine lv_iload_n hx hb dX5_init_166 rfl (lv_at hl 0 rfl) ?_
  refine b_iconst hx hb dX5_init_167 ?_
  refine g_iast (n := 24) (f := (upd (upd (upd (upd (upd (upd (upd (upd (upd (upd (upd (upd (fun _ => z2 0) 0 (z2 (1))) 1 (z2 (1))) 2 (z2 (1))) 3 (z2 (1))) 4 (z2 (1))) 5 (z2 (1))) 6 (z2 (1))) 7 (z2 (1))) 8 (z2 (1))) 9 (z2 (1))) 10 (z2 (1))) 11 (z2 (1)))) hx hb hG hS c5 (Or.inl (show _ ≤ _ by omega)) 12 ⟨rfl, by decide, by decide⟩ dX5_init_168 (fun H locs he hz9 oq hS2 => ?_)
  replace c5 : ca D (bm + 5) (iA (ks 0) 24 (upd (upd (upd (upd (upd (upd (upd (upd (upd (upd (upd (upd (upd (fun _ => z2 0) 0 (z2 (1))) 1 (z2 (1))) 2 (z2 (1))) 3 (z2 (1))) 4 (z2 (1))) 5 (z2 (1))) 6 (z2 (1))) 7 (z2 (1))) 8 (z2 (1))) 9 (z2 (1))) 10 (z2 (1))) 11 (z2 (1))) 12 (z2 (1)))) H := he
  replace c0 := c0.kept (oq _ (by omega))
  replace c1 := c1.kept (oq _ (by omega))
  replace c2 := c2.kept (oq _ (by omega))
  replace c3 := c3.kept (oq _ (by omega))
  replace c4 := c4.kept (oq _ (by omega))
  replace c6 := c6.kept (oq _ (by omega))
  replace c7 := c7.kept (oq _ (by omega))
  replace c8 := c8.kept (oq _ (by omega))
  replace c9 := c9.kept (oq _ (by omega))
  replace c10 := c10.kept (oq _ (by omega))
  replace c11 := c11.kept (oq _ (by omega))
  replace c12 := c12.kept (oq _ (by omega))
  replace c13 := c13.kept (oq _ (by omega))
  replace c14 := c14.kept (oq _ (by omega))
  replace c15 := c15.kept (oq _ (by omega))
  replace c16 := c16.kept (oq _ (by omega))
  replace c17 := c17.kept (oq _ (by omega))
  replace c18 := c18.kept (oq _ (by omega))
  replace c19 := c19.kept (oq _ (by omega))
  replace hK : ∀ q : Nat, q < bm → H[q]? = s.heap[q]? := fun q h => (oq q (by omega)).trans (hK q h)
  replace hsz := hz9.trans hsz
  replace hS := hS2
  clear he oq hz9 hS2
  refine b_iinc (lv' := [(1, .int (z2 (13))), (0, .ref bm)]) hx hb dX5_init_169 hl (k := 0) rfl (by decide) rfl (fun ls hl => ?_)
  refine lv_goto (tgt := 156) hx hb dX5_init_172 (by decide) ?_
  refine lv_iload_n hx hb dX5_init_156 rfl (lv_at hl 0 rfl) ?_
  refine b_bipush hx hb dX5_init_157 (by decide +kernel) ?_
  refine b_icmp_ge (tgt := 175) hx hb dX5_init_159 (by decide) ⟨⟨by omega, by omega⟩, ⟨by omega, by omega⟩⟩ (fun c => absurd c (by omega)) (fun _ => ?_)
  refine lv_aload_n hx hb dX5_init_162 rfl (lv_at hl 1 rfl) ?_
  refine g_get (C := RX5) (T := TX5) (N := 23) hx hb hts inX5 hown hG c0 rfl 6 (by decide) (by decide +kernel) rfl (v := .ref (bm + 5)) rfl dX5_init_163 ?_
  refine lv_iload_n hx hb dX5_init_166 rfl (lv_at hl 0 rfl) ?_
  refine b_iconst hx hb dX5_init_167 ?_
  refine g_iast (n := 24) (f := (upd (upd (upd (upd (upd (upd (upd (upd (upd (upd (upd (upd (upd (fun _ => z2 0) 0 (z2 (1))) 1 (z2 (1))) 2 (z2 (1))) 3 (z2 (1))) 4 (z2 (1))) 5 (z2 (1))) 6 (z2 (1))) 7 (z2 (1))) 8 (z2 (1))) 9 (z2 (1))) 10 (z2 (1))) 11 (z2 (1))) 12 (z2 (1)))) hx hb hG hS c5 (Or.inl (show _ ≤ _ by omega)) 13 ⟨rfl, by decide, by decide⟩ dX5_init_168 (fun H locs he hz9 oq hS2 => ?_)
  replace c5 : ca D (bm + 5) (iA (ks 0) 24 (upd (upd (upd (upd (upd (upd (upd (upd (upd (upd (upd (upd (upd (upd (fun _ => z2 0) 0 (z2 (1))) 1 (z2 (1))) 2 (z2 (1))) 3 (z2 (1))) 4 (z2 (1))) 5 (z2 (1))) 6 (z2 (1))) 7 (z2 (1))) 8 (z2 (1))) 9 (z2 (1))) 10 (z2 (1))) 11 (z2 (1))) 12 (z2 (1))) 13 (z2 (1)))) H := he
  replace c0 := c0.kept (oq _ (by omega))
  replace c1 := c1.kept (oq _ (by omega))
  replace c2 := c2.kept (oq _ (by omega))
  replace c3 := c3.kept (oq _ (by omega))
  replace c4 := c4.kept (oq _ (by omega))
  replace c6 := c6.kept (oq _ (by omega))
  replace c7 := c7.kept (oq _ (by omega))
  replace c8 := c8.kept (oq _ (by omega))
  replace c9 := c9.kept (oq _ (by omega))
  replace c10 := c10.kept (oq _ (by omega))
  replace c11 := c11.kept (oq _ (by omega))
  replace c12 := c12.kept (oq _ (by omega))
  replace c13 := c13.kept (oq _ (by omega))
  replace c14 := c14.kept (oq _ (by omega))
  replace c15 := c15.kept (oq _ (by omega))
  replace c16 := c16.kept (oq _ (by omega))
  replace c17 := c17.kept (oq _ (by omega))
  replace c18 := c18.kept (oq _ (by omega))
  replace c19 := c19.kept (oq _ (by omega))
  replace hK : ∀ q : Nat, q < bm → H[q]? = s.heap[q]? := fun q h => (oq q (by omega)).trans (hK q h)
  replace hsz := hz9.trans hsz
  replace hS := hS2
  clear he oq hz9 hS2
  refine b_iinc (lv' := [(1, .int (z2 (14))), (0, .ref bm)]) hx hb dX5_init_169 hl (k := 0) rfl (by decide) rfl (fun ls hl => ?_)
  refine lv_goto (tgt := 156) hx hb dX5_init_172 (by decide) ?_
  refine lv_iload_n hx hb dX5_init_156 rfl (lv_at hl 0 rfl) ?_
  refine b_bipush hx hb dX5_init_157 (by decide +kernel) ?_
  refine b_icmp_ge (tgt := 175) hx hb dX5_init_159 (by decide) ⟨⟨by omega, by omega⟩, ⟨by omega, by omega⟩⟩ (fun c => absurd c (by omega)) (fun _ => ?_)
  refine lv_aload_n hx hb dX5_init_162 rfl (lv_at hl 1 rfl) ?_
  refine g_get (C := RX5) (T := TX5) (N := 23) hx hb hts inX5 hown hG c0 rfl 6 (by decide) (by decide +kernel) rfl (v := .ref (bm + 5)) rfl dX5_init_163 ?_
  refine lv_iload_n hx hb dX5_init_166 rfl (lv_at hl 0 rfl) ?_
  refine b_iconst hx hb dX5_init_167 ?_
  refine g_iast (n := 24) (f := (upd (upd (upd (upd (upd (upd (upd (upd (upd (upd (upd (upd (upd (upd (fun _ => z2 0) 0 (z2 (1))) 1 (z2 (1))) 2 (z2 (1))) 3 (z2 (1))) 4 (z2 (1))) 5 (z2 (1))) 6 (z2 (1))) 7 (z2 (1))) 8 (z2 (1))) 9 (z2 (1))) 10 (z2 (1))) 11 (z2 (1))) 12 (z2 (1))) 13 (z2 (1)))) hx hb hG hS c5 (Or.inl (show _ ≤ _ by omega)) 14 ⟨rfl, by decide, by decide⟩ dX5_init_168 (fun H locs he hz9 oq hS2 => ?_)
  replace c5 : ca D (bm + 5) (iA (ks 0) 24 (upd (upd (upd (upd (upd (upd (upd (upd (upd (upd (upd (upd (upd (upd (upd (fun _ => z2 0) 0 (z2 (1))) 1 (z2 (1))) 2 (z2 (1))) 3 (z2 (1))) 4 (z2 (1))) 5 (z2 (1))) 6 (z2 (1))) 7 (z2 (1))) 8 (z2 (1))) 9 (z2 (1))) 10 (z2 (1))) 11 (z2 (1))) 12 (z2 (1))) 13 (z2 (1))) 14 (z2 (1)))) H := he
  replace c0 := c0.kept (oq _ (by omega))
  replace c1 := c1.kept (oq _ (by omega))
  replace c2 := c2.kept (oq _ (by omega))
  replace c3 := c3.kept (oq _ (by omega))
  replace c4 := c4.kept (oq _ (by omega))
  replace c6 := c6.kept (oq _ (by omega))
  replace c7 := c7.kept (oq _ (by omega))
  replace c8 := c8.kept (oq _ (by omega))
  replace c9 := c9.kept (oq _ (by omega))
  replace c10 := c10.kept (oq _ (by omega))
  replace c11 := c11.kept (oq _ (by omega))
  replace c12 := c12.kept (oq _ (by omega))
  replace c13 := c13.kept (oq _ (by omega))
  replace c14 := c14.kept (oq _ (by omega))
  replace c15 := c15.kept (oq _ (by omega))
  replace c16 := c16.kept (oq _ (by omega))
  replace c17 := c17.kept (oq _ (by omega))
  replace c18 := c18.kept (oq _ (by omega))
  replace c19 := c19.kept (oq _ (by omega))
  replace hK : ∀ q : Nat, q < bm → H[q]? = s.heap[q]? := fun q h => (oq q (by omega)).trans (hK q h)
  replace hsz := hz9.trans hsz
  replace hS := hS2
  clear he oq hz9 hS2
  refine b_iinc (lv' := [(1, .int (z2 (15))), (0, .ref bm)]) hx hb dX5_init_169 hl (k := 0) rfl (by decide) rfl (fun ls hl => ?_)
  refine lv_goto (tgt := 156) hx hb dX5_init_172 (by decide) ?_
  refine lv_iload_n hx hb dX5_init_156 rfl (lv_at hl 0 rfl) ?_
  refine b_bipush hx hb dX5_init_157 (by decide +kernel) ?_
  refine b_icmp_ge (tgt := 175) hx hb dX5_init_159 (by decide) ⟨⟨by omega, by omega⟩, ⟨by omega, by omega⟩⟩ (fun c => absurd c (by omega)) (fun _ => ?_)
  refine lv_aload_n hx hb dX5_init_162 rfl (lv_at hl 1 rfl) ?_
  refine g_get (C := RX5) (T := TX5) (N := 23) hx hb hts inX5 hown hG c0 rfl 6 (by decide) (by decide +kernel) rfl (v := .ref (bm + 5)) rfl dX5_init_163 ?_
  refine lv_iload_n hx hb dX5_init_166 rfl (lv_at hl 0 rfl) ?_
  refine b_iconst hx hb dX5_init_167 ?_
  refine g_iast (n := 24) (f := (upd (upd (upd (upd (upd (upd (upd (upd (upd (upd (upd (upd (upd (upd (upd (fun _ => z2 0) 0 (z2 (1))) 1 (z2 (1))) 2 (z2 (1))) 3 (z2 (1))) 4 (z2 (1))) 5 (z2 (1))) 6 (z2 (1))) 7 (z2 (1))) 8 (z2 (1))) 9 (z2 (1))) 10 (z2 (1))) 11 (z2 (1))) 12 (z2 (1))) 13 (z2 (1))) 14 (z2 (1)))) hx hb hG hS c5 (Or.inl (show _ ≤ _ by omega)) 15 ⟨rfl, by decide, by decide⟩ dX5_init_168 (fun H locs he hz9 oq hS2 => ?_)
  replace c5 : ca D (bm + 5) (iA (ks 0) 24 (upd (upd (upd (upd (upd (upd (upd (upd (upd (upd (upd (upd (upd (upd (upd (upd (fun _ => z2 0) 0 (z2 (1))) 1 (z2 (1))) 2 (z2 (1))) 3 (z2 (1))) 4 (z2 (1))) 5 (z2 (1))) 6 (z2 (1))) 7 (z2 (1))) 8 (z2 (1))) 9 (z2 (1))) 10 (z2 (1))) 11 (z2 (1))) 12 (z2 (1))) 13 (z2 (1))) 14 (z2 (1))) 15 (z2 (1)))) H := he
  replace c0 := c0.kept (oq _ (by omega))
  replace c1 := c1.kept (oq _ (by omega))
  replace c2 := c2.kept (oq _ (by omega))
  replace c3 := c3.kept (oq _ (by omega))
  replace c4 := c4.kept (oq _ (by omega))
  replace c6 := c6.kept (oq _ (by omega))
  replace c7 := c7.kept (oq _ (by omega))
  replace c8 := c8.kept (oq _ (by omega))
  replace c9 := c9.kept (oq _ (by omega))
  replace c10 := c10.kept (oq _ (by omega))
  replace c11 := c11.kept (oq _ (by omega))
  replace c12 := c12.kept (oq _ (by omega))
  replace c13 := c13.kept (oq _ (by omega))
  replace c14 := c14.kept (oq _ (by omega))
  replace c15 := c15.kept (oq _ (by omega))
  replace c16 := c16.kept (oq _ (by omega))
  replace c17 := c17.kept (oq _ (by omega))
  replace c18 := c18.kept (oq _ (by omega))
  replace c19 := c19.kept (oq _ (by omega))
  replace hK : ∀ q : Nat, q < bm → H[q]? = s.heap[q]? := fun q h => (oq q (by omega)).trans (hK q h)
  replace hsz := hz9.trans hsz
  replace hS := hS2
  clear he oq hz9 hS2
  refine b_iinc (lv' := [(1, .int (z2 (16))), (0, .ref bm)]) hx hb dX5_init_169 hl (k := 0) rfl (by decide) rfl (fun ls hl => ?_)
  refine lv_goto (tgt := 156) hx hb dX5_init_172 (by decide) ?_
  refine lv_iload_n hx hb dX5_init_156 rfl (lv_at hl 0 rfl) ?_
  refine b_bipush hx hb dX5_init_157 (by decide +kernel) ?_
  refine b_icmp_ge (tgt := 175) hx hb dX5_init_159 (by decide) ⟨⟨by omega, by omega⟩, ⟨by omega, by omega⟩⟩ (fun c => absurd c (by omega)) (fun _ => ?_)
  refine lv_aload_n hx hb dX5_init_162 rfl (lv_at hl 1 rfl) ?_
  refine g_get (C := RX5) (T := TX5) (N := 23) hx hb hts inX5 hown hG c0 rfl 6 (by decide) (by decide +kernel) rfl (v := .ref (bm + 5)) rfl dX5_init_163 ?_
  refine lv_iload_n hx hb dX5_init_166 rfl (lv_at hl 0 rfl) ?_
  refine b_iconst hx hb dX5_init_167 ?_
  refine g_iast (n := 24) (f := (upd (upd (upd (upd (upd (upd (upd (upd (upd (upd (upd (upd (upd (upd (upd (upd (fun _ => z2 0) 0 (z2 (1))) 1 (z2 (1))) 2 (z2 (1))) 3 (z2 (1))) 4 (z2 (1))) 5 (z2 (1))) 6 (z2 (1))) 7 (z2 (1))) 8 (z2 (1))) 9 (z2 (1))) 10 (z2 (1))) 11 (z2 (1))) 12 (z2 (1))) 13 (z2 (1))) 14 (z2 (1))) 15 (z2 (1)))) hx hb hG hS c5 (Or.inl (show _ ≤ _ by omega)) 16 ⟨rfl, by decide, by decide⟩ dX5_init_168 (fun H locs he hz9 oq hS2 => ?_)
  replace c5 : ca D (bm + 5) (iA (ks 0) 24 (upd (upd (upd (upd (upd (upd (upd (upd (upd (upd (upd (upd (upd (upd (upd (upd (upd (fun _ => z2 0) 0 (z2 (1))) 1 (z2 (1))) 2 (z2 (1))) 3 (z2 (1))) 4 (z2 (1))) 5 (z2 (1))) 6 (z2 (1))) 7 (z2 (1))) 8 (z2 (1))) 9 (z2 (1))) 10 (z2 (1))) 11 (z2 (1))) 12 (z2 (1))) 13 (z2 (1))) 14 (z2 (1))) 15 (z2 (1))) 16 (z2 (1)))) H := he
  replace c0 := c0.kept (oq _ (by omega))
  replace c1 := c1.kept (oq _ (by omega))
  replace c2 := c2.kept (oq _ (by omega))
  replace c3 := c3.kept (oq _ (by omega))
  replace c4 := c4.kept (oq _ (by omega))
  replace c6 := c6.kept (oq _ (by omega))
  replace c7 := c7.kept (oq _ (by omega))
  replace c8 := c8.kept (oq _ (by omega))
  replace c9 := c9.kept (oq _ (by omega))
  replace c10 := c10.kept (oq _ (by omega))
  replace c11 := c11.kept (oq _ (by omega))
  replace c12 := c12.kept (oq _ (by omega))
  replace c13 := c13.kept (oq _ (by omega))
  replace c14 := c14.kept (oq _ (by omega))
  replace c15 := c15.kept (oq _ (by omega))
  replace c16 := c16.kept (oq _ (by omega))
  replace c17 := c17.kept (oq _ (by omega))
  replace c18 := c18.kept (oq _ (by omega))
  replace c19 := c19.kept (oq _ (by omega))
  replace hK : ∀ q : Nat, q < bm → H[q]? = s.heap[q]? := fun q h => (oq q (by omega)).trans (hK q h)
  replace hsz := hz9.trans hsz
  replace hS := hS2
  clear he oq hz9 hS2
  refine b_iinc (lv' := [(1, .int (z2 (17))), (0, .ref bm)]) hx hb dX5_init_169 hl (k := 0) rfl (by decide) rfl (fun ls hl => ?_)
  refine lv_goto (tgt := 156) hx hb dX5_init_172 (by decide) ?_
  refine lv_iload_n hx hb dX5_init_156 rfl (lv_at hl 0 rfl) ?_
  refine b_bipush hx hb dX5_init_157 (by decide +kernel) ?_
  refine b_icmp_ge (tgt := 175) hx hb dX5_init_159 (by decide) ⟨⟨by omega, by omega⟩, ⟨by omega, by omega⟩⟩ (fun c => absurd c (by omega)) (fun _ => ?_)
  refine lv_aload_n hx hb dX5_init_162 rfl (lv_at hl 1 rfl) ?_
  refine g_get (C := RX5) (T := TX5) (N := 23) hx hb hts inX5 hown hG c0 rfl 6 (by decide) (by decide +kernel) rfl (v := .ref (bm + 5)) rfl dX5_init_163 ?_
  refine lv_iload_n hx hb dX5_init_166 rfl (lv_at hl 0 rfl) ?_
  refine b_iconst hx hb dX5_init_167 ?_
  refine g_iast (n := 24) (f := (upd (upd (upd (upd (upd (upd (upd (upd (upd (upd (upd (upd (upd (upd (upd (upd (upd (fun _ => z2 0) 0 (z2 (1))) 1 (z2 (1))) 2 (z2 (1))) 3 (z2 (1))) 4 (z2 (1))) 5 (z2 (1))) 6 (z2 (1))) 7 (z2 (1))) 8 (z2 (1))) 9 (z2 (1))) 10 (z2 (1))) 11 (z2 (1))) 12 (z2 (1))) 13 (z2 (1))) 14 (z2 (1))) 15 (z2 (1))) 16 (z2 (1)))) hx hb hG hS c5 (Or.inl (show _ ≤ _ by omega)) 17 ⟨rfl, by decide, by decide⟩ dX5_init_168 (fun H locs he hz9 oq hS2 => ?_)
  replace c5 : ca D (bm + 5) (iA (ks 0) 24 (upd (upd (upd (upd (upd (upd (upd (upd (upd (upd (upd (upd (upd (upd (upd (upd (upd (upd (fun _ => z2 0) 0 (z2 (1))) 1 (z2 (1))) 2 (z2 (1))) 3 (z2 (1))) 4 (z2 (1))) 5 (z2 (1))) 6 (z2 (1))) 7 (z2 (1))) 8 (z2 (1))) 9 (z2 (1))) 10 (z2 (1))) 11 (z2 (1))) 12 (z2 (1))) 13 (z2 (1))) 14 (z2 (1))) 15 (z2 (1))) 16 (z2 (1))) 17 (z2 (1)))) H := he
  replace c0 := c0.kept (oq _ (by omega))
  replace c1 := c1.kept (oq _ (by omega))
  replace c2 := c2.kept (oq _ (by omega))
  replace c3 := c3.kept (oq _ (by omega))
  replace c4 := c4.kept (oq _ (by omega))
  replace c6 := c6.kept (oq _ (by omega))
  replace c7 := c7.kept (oq _ (by omega))
  replace c8 := c8.kept (oq _ (by omega))
  replace c9 := c9.kept (oq _ (by omega))
  replace c10 := c10.kept (oq _ (by omega))
  replace c11 := c11.kept (oq _ (by omega))
  replace c12 := c12.kept (oq _ (by omega))
  replace c13 := c13.kept (oq _ (by omega))
  replace c14 := c14.kept (oq _ (by omega))
  replace c15 := c15.kept (oq _ (by omega))
  replace c16 := c16.kept (oq _ (by omega))
  replace c17 := c17.kept (oq _ (by omega))
  replace c18 := c18.kept (oq _ (by omega))
  replace c19 := c19.kept (oq _ (by omega))
  replace hK : ∀ q : Nat, q < bm → H[q]? = s.heap[q]? := fun q h => (oq q (by omega)).trans (hK q h)
  replace hsz := hz9.trans hsz
  replace hS := hS2
  clear he oq hz9 hS2
  refine b_iinc (lv' := [(1, .int (z2 (18))), (0, .ref bm)]) hx hb dX5_init_169 hl (k := 0) rfl (by decide) rfl (fun ls hl => ?_)
  refine lv_goto (tgt := 156) hx hb dX5_init_172 (by decide) ?_
  refine lv_iload_n hx hb dX5_init_156 rfl (lv_at hl 0 rfl) ?_
  refine b_bipush hx hb dX5_init_157 (by decide +kernel) ?_
  refine b_icmp_ge (tgt := 175) hx hb dX5_init_159 (by decide) ⟨⟨by omega, by omega⟩, ⟨by omega, by omega⟩⟩ (fun c => absurd c (by omega)) (fun _ => ?_)
  refine lv_aload_n hx hb dX5_init_162 rfl (lv_at hl 1 rfl) ?_
  refine g_get (C := RX5) (T := TX5) (N := 23) hx hb hts inX5 hown hG c0 rfl 6 (by decide) (by decide +kernel) rfl (v := .ref (bm + 5)) rfl dX5_init_163 ?_
  refine lv_iload_n hx hb dX5_init_166 rfl (lv_at hl 0 rfl) ?_
  refine b_iconst hx hb dX5_init_167 ?_
  refine g_iast (n := 24) (f := (upd (upd (upd (upd (upd (upd (upd (upd (upd (upd (upd (upd (upd (upd (upd (upd (upd (upd (fun _ => z2 0) 0 (z2 (1))) 1 (z2 (1))) 2 (z2 (1))) 3 (z2 (1))) 4 (z2 (1))) 5 (z2 (1))) 6 (z2 (1))) 7 (z2 (1))) 8 (z2 (1))) 9 (z2 (1))) 10 (z2 (1))) 11 (z2 (1))) 12 (z2 (1))) 13 (z2 (1))) 14 (z2 (1))) 15 (z2 (1))) 16 (z2 (1))) 17 (z2 (1)))) hx hb hG hS c5 (Or.inl (show _ ≤ _ by omega)) 18 ⟨rfl, by decide, by decide⟩ dX5_init_168 (fun H locs he hz9 oq hS2 => ?_)
  replace c5 : ca D (bm + 5) (iA (ks 0) 24 (upd (upd (upd (upd (upd (upd (upd (upd (upd (upd (upd (upd (upd (upd (upd (upd (upd (upd (upd (fun _ => z2 0) 0 (z2 (1))) 1 (z2 (1))) 2 (z2 (1))) 3 (z2 (1))) 4 (z2 (1))) 5 (z2 (1))) 6 (z2 (1))) 7 (z2 (1))) 8 (z2 (1))) 9 (z2 (1))) 10 (z2 (1))) 11 (z2 (1))) 12 (z2 (1))) 13 (z2 (1))) 14 (z2 (1))) 15 (z2 (1))) 16 (z2 (1))) 17 (z2 (1))) 18 (z2 (1)))) H := he
  replace c0 := c0.kept (oq _ (by omega))
  replace c1 := c1.kept (oq _ (by omega))
  replace c2 := c2.kept (oq _ (by omega))
  replace c3 := c3.kept (oq _ (by omega))
  replace c4 := c4.kept (oq _ (by omega))
  replace c6 := c6.kept (oq _ (by omega))
  replace c7 := c7.kept (oq _ (by omega))
  replace c8 := c8.kept (oq _ (by omega))
  replace c9 := c9.kept (oq _ (by omega))
  replace c10 := c10.kept (oq _ (by omega))
  replace c11 := c11.kept (oq _ (by omega))
  replace c12 := c12.kept (oq _ (by omega))
  replace c13 := c13.kept (oq _ (by omega))
  replace c14 := c14.kept (oq _ (by omega))
  replace c15 := c15.kept (oq _ (by omega))
  replace c16 := c16.kept (oq _ (by omega))
  replace c17 := c17.kept (oq _ (by omega))
  replace c18 := c18.kept (oq _ (by omega))
  replace c19 := c19.kept (oq _ (by omega))
  replace hK : ∀ q : Nat, q < bm → H[q]? = s.heap[q]? := fun q h => (oq q (by omega)).trans (hK q h)
  replace hsz := hz9.trans hsz
  replace hS := hS2
  clear he oq hz9 hS2
  refine b_iinc (lv' := [(1, .int (z2 (19))), (0, .ref bm)]) hx hb dX5_init_169 hl (k := 0) rfl (by decide) rfl (fun ls hl => ?_)
  refine lv_goto (tgt := 156) hx hb dX5_init_172 (by decide) ?_
  refine lv_iload_n hx hb dX5_init_156 rfl (lv_at hl 0 rfl) ?_
  refine b_bipush hx hb dX5_init_157 (by decide +kernel) ?_
  refine b_icmp_ge (tgt := 175) hx hb dX5_init_159 (by decide) ⟨⟨by omega, by omega⟩, ⟨by omega, by omega⟩⟩ (fun c => absurd c (by omega)) (fun _ => ?_)
  refine lv_aload_n hx hb dX5_init_162 rfl (lv_at hl 1 rfl) ?_
  refine g_get (C := RX5) (T := TX5) (N := 23) hx hb hts inX5 hown hG c0 rfl 6 (by decide) (by decide +kernel) rfl (v := .ref (bm + 5)) rfl dX5_init_163 ?_
  refine lv_iload_n hx hb dX5_init_166 rfl (lv_at hl 0 rfl) ?_
  refine b_iconst hx hb dX5_init_167 ?_
  refine g_iast (n := 24) (f := (upd (upd (upd (upd (upd (upd (upd (upd (upd (upd (upd (upd (upd (upd (upd (upd (upd (upd (upd (fun _ => z2 0) 0 (z2 (1))) 1 (z2 (1))) 2 (z2 (1))) 3 (z2 (1))) 4 (z2 (1))) 5 (z2 (1))) 6 (z2 (1))) 7 (z2 (1))) 8 (z2 (1))) 9 (z2 (1))) 10 (z2 (1))) 11 (z2 (1))) 12 (z2 (1))) 13 (z2 (1))) 14 (z2 (1))) 15 (z2 (1))) 16 (z2 (1))) 17 (z2 (1))) 18 (z2 (1)))) hx hb hG hS c5 (Or.inl (show _ ≤ _ by omega)) 19 ⟨rfl, by decide, by decide⟩ dX5_init_168 (fun H locs he hz9 oq hS2 => ?_)
  replace c5 : ca D (bm + 5) (iA (ks 0) 24 (upd (upd (upd (upd (upd (upd (upd (upd (upd (upd (upd (upd (upd (upd (upd (upd (upd (upd (upd (upd (fun _ => z2 0) 0 (z2 (1))) 1 (z2 (1))) 2 (z2 (1))) 3 (z2 (1))) 4 (z2 (1))) 5 (z2 (1))) 6 (z2 (1))) 7 (z2 (1))) 8 (z2 (1))) 9 (z2 (1))) 10 (z2 (1))) 11 (z2 (1))) 12 (z2 (1))) 13 (z2 (1))) 14 (z2 (1))) 15 (z2 (1))) 16 (z2 (1))) 17 (z2 (1))) 18 (z2 (1))) 19 (z2 (1)))) H := he
  replace c0 := c0.kept (oq _ (by omega))
  replace c1 := c1.kept (oq _ (by omega))
  replace c2 := c2.kept (oq _ (by omega))
  replace c3 := c3.kept (oq _ (by omega))
  replace c4 := c4.kept (oq _ (by omega))
  replace c6 := c6.kept (oq _ (by omega))
  replace c7 := c7.kept (oq _ (by omega))
  replace c8 := c8.kept (oq _ (by omega))
  replace c9 := c9.kept (oq _ (by omega))
  replace c10 := c10.kept (oq _ (by omega))
  replace c11 := c11.kept (oq _ (by omega))
  replace c12 := c12.kept (oq _ (by omega))
  replace c13 := c13.kept (oq _ (by omega))
  replace c14 := c14.kept (oq _ (by omega))
  replace c15 := c15.kept (oq _ (by omega))
  replace c16 := c16.kept (oq _ (by omega))
  replace c17 := c17.kept (oq _ (by omega))
  replace c18 := c18.kept (oq _ (by omega))
  replace c19 := c19.kept (oq _ (by omega))
  replace hK : ∀ q : Nat, q < bm → H[q]? = s.heap[q]? := fun q h => (oq q (by omega)).trans (hK q h)
  replace hsz := hz9.trans hsz
  replace hS := hS2
  clear he oq hz9 hS2
  refine b_iinc (lv' := [(1, .int (z2 (20))), (0, .ref bm)]) hx hb dX5_init_169 hl (k := 0) rfl (by decide) rfl (fun ls hl => ?_)
  refine lv_goto (tgt := 156) hx hb dX5_init_172 (by decide) ?_
  refine lv_iload_n hx hb dX5_init_156 rfl (lv_at hl 0 rfl) ?_
  refine b_bipush hx hb dX5_init_157 (by decide +kernel) ?_
  refine b_icmp_ge (tgt := 175) hx hb dX5_init_159 (by decide) ⟨⟨by omega, by omega⟩, ⟨by omega, by omega⟩⟩ (fun c => absurd c (by omega)) (fun _ => ?_)
  refine lv_aload_n hx hb dX5_init_162 rfl (lv_at hl 1 rfl) ?_
  refine g_get (C := RX5) (T := TX5) (N := 23) hx hb hts inX5 hown hG c0 rfl 6 (by decide) (by decide +kernel) rfl (v := .ref (bm + 5)) rfl dX5_init_163 ?_
  refine lv_iload_n hx hb dX5_init_166 rfl (lv_at hl 0 rfl) ?_
  refine b_iconst hx hb dX5_init_167 ?_
  refine g_iast (n := 24) (f := (upd (upd (upd (upd (upd (upd (upd (upd (upd (upd (upd (upd (upd (upd (upd (upd (upd (upd (upd (upd (fun _ => z2 0) 0 (z2 (1))) 1 (z2 (1))) 2 (z2 (1))) 3 (z2 (1))) 4 (z2 (1))) 5 (z2 (1))) 6 (z2 (1))) 7 (z2 (1))) 8 (z2 (1))) 9 (z2 (1))) 10 (z2 (1))) 11 (z2 (1))) 12 (z2 (1))) 13 (z2 (1))) 14 (z2 (1))) 15 (z2 (1))) 16 (z2 (1))) 17 (z2 (1))) 18 (z2 (1))) 19 (z2 (1)))) hx hb hG hS c5 (Or.inl (show _ ≤ _ by omega)) 20 ⟨rfl, by decide, by decide⟩ dX5_init_168 (fun H locs he hz9 oq hS2 => ?_)
  replace c5 : ca D (bm + 5) (iA (ks 0) 24 (upd (upd (upd (upd (upd (upd (upd (upd (upd (upd (upd (upd (upd (upd (upd (upd (upd (upd (upd (upd (upd (fun _ => z2 0) 0 (z2 (1))) 1 (z2 (1))) 2 (z2 (1))) 3 (z2 (1))) 4 (z2 (1))) 5 (z2 (1))) 6 (z2 (1))) 7 (z2 (1))) 8 (z2 (1))) 9 (z2 (1))) 10 (z2 (1))) 11 (z2 (1))) 12 (z2 (1))) 13 (z2 (1))) 14 (z2 (1))) 15 (z2 (1))) 16 (z2 (1))) 17 (z2 (1))) 18 (z2 (1))) 19 (z2 (1))) 20 (z2 (1)))) H := he
  replace c0 := c0.kept (oq _ (by omega))
  replace c1 := c1.kept (oq _ (by omega))
  replace c2 := c2.kept (oq _ (by omega))
  replace c3 := c3.kept (oq _ (by omega))
  replace c4 := c4.kept (oq _ (by omega))
  replace c6 := c6.kept (oq _ (by omega))
  replace c7 := c7.kept (oq _ (by omega))
  replace c8 := c8.kept (oq _ (by omega))
  replace c9 := c9.kept (oq _ (by omega))
  replace c10 := c10.kept (oq _ (by omega))
  replace c11 := c11.kept (oq _ (by omega))
  replace c12 := c12.kept (oq _ (by omega))
  replace c13 := c13.kept (oq _ (by omega))
  replace c14 := c14.kept (oq _ (by omega))
  replace c15 := c15.kept (oq _ (by omega))
  replace c16 := c16.kept (oq _ (by omega))
  replace c17 := c17.kept (oq _ (by omega))
  replace c18 := c18.kept (oq _ (by omega))
  replace c19 := c19.kept (oq _ (by omega))
  replace hK : ∀ q : Nat, q < bm → H[q]? = s.heap[q]? := fun q h => (oq q (by omega)).trans (hK q h)
  replace hsz := hz9.trans hsz
  replace hS := hS2
  clear he oq hz9 hS2
  refine b_iinc (lv' := [(1, .int (z2 (21))), (0, .ref bm)]) hx hb dX5_init_169 hl (k := 0) rfl (by decide) rfl (fun ls hl => ?_)
  refine lv_goto (tgt := 156) hx hb dX5_init_172 (by decide) ?_
  refine lv_iload_n hx hb dX5_init_156 rfl (lv_at hl 0 rfl) ?_
  refine b_bipush hx hb dX5_init_157 (by decide +kernel) ?_
  refine b_icmp_ge (tgt := 175) hx hb dX5_init_159 (by decide) ⟨⟨by omega, by omega⟩, ⟨by omega, by omega⟩⟩ (fun c => absurd c (by omega)) (fun _ => ?_)
  refine lv_aload_n hx hb dX5_init_162 rfl (lv_at hl 1 rfl) ?_
  refine g_get (C := RX5) (T := TX5) (N := 23) hx hb hts inX5 hown hG c0 rfl 6 (by decide) (by decide +kernel) rfl (v := .ref (bm + 5)) rfl dX5_init_163 ?_
  refine lv_iload_n hx hb dX5_init_166 rfl (lv_at hl 0 rfl) ?_
  refine b_iconst hx hb dX5_init_167 ?_
  refine g_iast (n := 24) (f := (upd (upd (upd (upd (upd (upd (upd (upd (upd (upd (upd (upd (upd (upd (upd (upd (upd (upd (upd (upd (upd (fun _ => z2 0) 0 (z2 (1))) 1 (z2 (1))) 2 (z2 (1))) 3 (z2 (1))) 4 (z2 (1))) 5 (z2 (1))) 6 (z2 (1))) 7 (z2 (1))) 8 (z2 (1))) 9 (z2 (1))) 10 (z2 (1))) 11 (z2 (1))) 12 (z2 (1))) 13 (z2 (1))) 14 (z2 (1))) 15 (z2 (1))) 16 (z2 (1))) 17 (z2 (1))) 18 (z2 (1))) 19 (z2 (1))) 20 (z2 (1)))) hx hb hG hS c5 (Or.inl (show _ ≤ _ by omega)) 21 ⟨rfl, by decide, by decide⟩ dX5_init_168 (fun H locs he hz9 oq hS2 => ?_)
  replace c5 : ca D (bm + 5) (iA (ks 0) 24 (upd (upd (upd (upd (upd (upd (upd (upd (upd (upd (upd (upd (upd (upd (upd (upd (upd (upd (upd (upd (upd (upd (fun _ => z2 0) 0 (z2 (1))) 1 (z2 (1))) 2 (z2 (1))) 3 (z2 (1))) 4 (z2 (1))) 5 (z2 (1))) 6 (z2 (1))) 7 (z2 (1))) 8 (z2 (1))) 9 (z2 (1))) 10 (z2 (1))) 11 (z2 (1))) 12 (z2 (1))) 13 (z2 (1))) 14 (z2 (1))) 15 (z2 (1))) 16 (z2 (1))) 17 (z2 (1))) 18 (z2 (1))) 19 (z2 (1))) 20 (z2 (1))) 21 (z2 (1)))) H := he
  replace c0 := c0.kept (oq _ (by omega))
  replace c1 := c1.kept (oq _ (by omega))
  replace c2 := c2.kept (oq _ (by omega))
  replace c3 := c3.kept (oq _ (by omega))
  replace c4 := c4.kept (oq _ (by omega))
  replace c6 := c6.kept (oq _ (by omega))
  replace c7 := c7.kept (oq _ (by omega))
  replace c8 := c8.kept (oq _ (by omega))
  replace c9 := c9.kept (oq _ (by omega))
  replace c10 := c10.kept (oq _ (by omega))
  replace c11 := c11.kept (oq _ (by omega))
  replace c12 := c12.kept (oq _ (by omega))
  replace c13 := c13.kept (oq _ (by omega))
  replace c14 := c14.kept (oq _ (by omega))
  replace c15 := c15.kept (oq _ (by omega))
  replace c16 := c16.kept (oq _ (by omega))
  replace c17 := c17.kept (oq _ (by omega))
  replace c18 := c18.kept (oq _ (by omega))
  replace c19 := c19.kept (oq _ (by omega))
  replace hK : ∀ q : Nat, q < bm → H[q]? = s.heap[q]? := fun q h => (oq q (by omega)).trans (hK q h)
  replace hsz := hz9.trans hsz
  replace hS := hS2
  clear he oq hz9 hS2
  refine b_iinc (lv' := [(1, .int (z2 (22))), (0, .ref bm)]) hx hb dX5_init_169 hl (k := 0) rfl (by decide) rfl (fun ls hl => ?_)
  refine lv_goto (tgt := 156) hx hb dX5_init_172 (by decide) ?_
  refine lv_iload_n hx hb dX5_init_156 rfl (lv_at hl 0 rfl) ?_
  refine b_bipush hx hb dX5_init_157 (by decide +kernel) ?_
  refine b_icmp_ge (tgt := 175) hx hb dX5_init_159 (by decide) ⟨⟨by omega, by omega⟩, ⟨by omega, by omega⟩⟩ (fun c => absurd c (by omega)) (fun _ => ?_)
  refine lv_aload_n hx hb dX5_init_162 rfl (lv_at hl 1 rfl) ?_
  refine g_get (C := RX5) (T := TX5) (N := 23) hx hb hts inX5 hown hG c0 rfl 6 (by decide) (by decide +kernel) rfl (v := .ref (bm + 5)) rfl dX5_init_163 ?_
  refine lv_iload_n hx hb dX5_init_166 rfl (lv_at hl 0 rfl) ?_
  refine b_iconst hx hb dX5_init_167 ?_
  refine g_iast (n := 24) (f := (upd (upd (upd (upd (upd (upd (upd (upd (upd (upd (upd (upd (upd (upd (upd (upd (upd (upd (upd (upd (upd (upd (fun _ => z2 0) 0 (z2 (1))) 1 (z2 (1))) 2 (z2 (1))) 3 (z2 (1))) 4 (z2 (1))) 5 (z2 (1))) 6 (z2 (1))) 7 (z2 (1))) 8 (z2 (1))) 9 (z2 (1))) 10 (z2 (1))) 11 (z2 (1))) 12 (z2 (1))) 13 (z2 (1))) 14 (z2 (1))) 15 (z2 (1))) 16 (z2 (1))) 17 (z2 (1))) 18 (z2 (1))) 19 (z2 (1))) 20 (z2 (1))) 21 (z2 (1)))) hx hb hG hS c5 (Or.inl (show _ ≤ _ by omega)) 22 ⟨rfl, by decide, by decide⟩ dX5_init_168 (fun H locs he hz9 oq hS2 => ?_)
  replace c5 : ca D (bm + 5) (iA (ks 0) 24 (upd (upd (upd (upd (upd (upd (upd (upd (upd (upd (upd (upd (upd (upd (upd (upd (upd (upd (upd (upd (upd (upd (upd (fun _ => z2 0) 0 (z2 (1))) 1 (z2 (1))) 2 (z2 (1))) 3 (z2 (1))) 4 (z2 (1))) 5 (z2 (1))) 6 (z2 (1))) 7 (z2 (1))) 8 (z2 (1))) 9 (z2 (1))) 10 (z2 (1))) 11 (z2 (1))) 12 (z2 (1))) 13 (z2 (1))) 14 (z2 (1))) 15 (z2 (1))) 16 (z2 (1))) 17 (z2 (1))) 18 (z2 (1))) 19 (z2 (1))) 20 (z2 (1))) 21 (z2 (1))) 22 (z2 (1)))) H := he
  replace c0 := c0.kept (oq _ (by omega))
  replace c1 := c1.kept (oq _ (by omega))
  replace c2 := c2.kept (oq _ (by omega))
  replace c3 := c3.kept (oq _ (by omega))
  replace c4 := c4.kept (oq _ (by omega))
  replace c6 := c6.kept (oq _ (by omega))
  replace c7 := c7.kept (oq _ (by omega))
  replace c8 := c8.kept (oq _ (by omega))
  replace c9 := c9.kept (oq _ (by omega))
  replace c10 := c10.kept (oq _ (by omega))
  replace c11 := c11.kept (oq _ (by omega))
  replace c12 := c12.kept (oq _ (by omega))
  replace c13 := c13.kept (oq _ (by omega))
  replace c14 := c14.kept (oq _ (by omega))
  replace c15 := c15.kept (oq _ (by omega))
  replace c16 := c16.kept (oq _ (by omega))
  replace c17 := c17.kept (oq _ (by omega))
  replace c18 := c18.kept (oq _ (by omega))
  replace c19 := c19.kept (oq _ (by omega))
  replace hK : ∀ q : Nat, q < bm → H[q]? = s.heap[q]? := fun q h => (oq q (by omega)).trans (hK q h)
  replace hsz := hz9.trans hsz
  replace hS := hS2
  clear he oq hz9 hS2
  refine b_iinc (lv' := [(1, .int (z2 (23))), (0, .ref bm)]) hx hb dX5_init_169 hl (k := 0) rfl (by decide) rfl (fun ls hl => ?_)
  refine lv_goto (tgt := 156) hx hb dX5_init_172 (by decide) ?_
  refine lv_iload_n hx hb dX5_init_156 rfl (lv_at hl 0 rfl) ?_
  refine b_bipush hx hb dX5_init_157 (by decide +kernel) ?_
  refine b_icmp_ge (tgt := 175) hx hb dX5_init_159 (by decide) ⟨⟨by omega, by omega⟩, ⟨by omega, by omega⟩⟩ (fun c => absurd c (by omega)) (fun _ => ?_)
  refine lv_aload_n hx hb dX5_init_162 rfl (lv_at hl 1 rfl) ?_
  refine g_get (C := RX5) (T := TX5) (N := 23) hx hb hts inX5 hown hG c0 rfl 6 (by decide) (by decide +kernel) rfl (v := .ref (bm + 5)) rfl dX5_init_163 ?_
  refine lv_iload_n hx hb dX5_init_166 rfl (lv_at hl 0 rfl) ?_
  refine b_iconst hx hb dX5_init_167 ?_
  refine g_iast (n := 24) (f := (upd (upd (upd (upd (upd (upd (upd (upd (upd (upd (upd (upd (upd (upd (upd (upd (upd (upd (upd (upd (upd (upd (upd (fun _ => z2 0) 0 (z2 (1))) 1 (z2 (1))) 2 (z2 (1))) 3 (z2 (1))) 4 (z2 (1))) 5 (z2 (1))) 6 (z2 (1))) 7 (z2 (1))) 8 (z2 (1))) 9 (z2 (1))) 10 (z2 (1))) 11 (z2 (1))) 12 (z2 (1))) 13 (z2 (1))) 14 (z2 (1))) 15 (z2 (1))) 16 (z2 (1))) 17 (z2 (1))) 18 (z2 (1))) 19 (z2 (1))) 20 (z2 (1))) 21 (z2 (1))) 22 (z2 (1)))) hx hb hG hS c5 (Or.inl (show _ ≤ _ by omega)) 23 ⟨rfl, by decide, by decide⟩ dX5_init_168 (fun H locs he hz9 oq hS2 => ?_)
  replace c5 : ca D (bm + 5) (iA (ks 0) 24 (upd (upd (upd (upd (upd (upd (upd (upd (upd (upd (upd (upd (upd (upd (upd (upd (upd (upd (upd (upd (upd (upd (upd (upd (fun _ => z2 0) 0 (z2 (1))) 1 (z2 (1))) 2 (z2 (1))) 3 (z2 (1))) 4 (z2 (1))) 5 (z2 (1))) 6 (z2 (1))) 7 (z2 (1))) 8 (z2 (1))) 9 (z2 (1))) 10 (z2 (1))) 11 (z2 (1))) 12 (z2 (1))) 13 (z2 (1))) 14 (z2 (1))) 15 (z2 (1))) 16 (z2 (1))) 17 (z2 (1))) 18 (z2 (1))) 19 (z2 (1))) 20 (z2 (1))) 21 (z2 (1))) 22 (z2 (1))) 23 (z2 (1)))) H := he
  replace c0 := c0.kept (oq _ (by omega))
  replace c1 := c1.kept (oq _ (by omega))
  replace c2 := c2.kept (oq _ (by omega))
  replace c3 := c3.kept (oq _ (by omega))
  replace c4 := c4.kept (oq _ (by omega))
  replace c6 := c6.kept (oq _ (by omega))
  replace c7 := c7.kept (oq _ (by omega))
  replace c8 := c8.kept (oq _ (by omega))
  replace c9 := c9.kept (oq _ (by omega))
  replace c10 := c10.kept (oq _ (by omega))
  replace c11 := c11.kept (oq _ (by omega))
  replace c12 := c12.kept (oq _ (by omega))
  replace c13 := c13.kept (oq _ (by omega))
  replace c14 := c14.kept (oq _ (by omega))
  replace c15 := c15.kept (oq _ (by omega))
  replace c16 := c16.kept (oq _ (by omega))
  replace c17 := c17.kept (oq _ (by omega))
  replace c18 := c18.kept (oq _ (by omega))
  replace c19 := c19.kept (oq _ (by omega))
  replace hK : ∀ q : Nat, q < bm → H[q]? = s.heap[q]? := fun q h => (oq q (by omega)).trans (hK q h)
  replace hsz := hz9.trans hsz
  replace hS := hS2
  clear he oq hz9 hS2
  refine b_iinc (lv' := [(1, .int (z2 (24))), (0, .ref bm)]) hx hb dX5_init_169 hl (k := 0) rfl (by decide) rfl (fun ls hl => ?_)
  refine lv_goto (tgt := 156) hx hb dX5_init_172 (by decide) ?_
  refine lv_iload_n hx hb dX5_init_156 rfl (lv_at hl 0 rfl) ?_
  refine b_bipush hx hb dX5_init_157 (by decide +kernel) ?_
  refine b_icmp_ge (tgt := 175) hx hb dX5_init_159 (by decide) ⟨⟨by omega, by omega⟩, ⟨by omega, by omega⟩⟩ (fun _ => ?_) (fun c => absurd c (by omega))
  exact g_vret hx hb hr hlocks hS ⟨Nat.le_of_ble_eq_true rfl, Nat.le_of_ble_eq_true rfl⟩ (⟨rfl, by rw [hsz0]; exact hsz, pm_new c0 c1 c2 c3 c4 c5 c6 c7 c8 c9 c10 c11 c12 c13 c14 c15 c16 c17 c18 c19 (fun j hj => by rcases j with _ | _ | _ | _ | _ | _ | _ | _ | _ | _ | _ | _ | _ | _ | _ | _ | _ | _ | _ | _ | _ | _ | _ | _ | j <;> first | rfl | omega)⟩) dX5_init_175
