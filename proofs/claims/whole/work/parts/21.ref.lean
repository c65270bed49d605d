/-! the reference, on: melodies -/
set_option maxHeartbeats 4000000 in
set_option maxRecDepth 100000 in
theorem m_toneAt (l : Launch) (D : va_G) (ks : Nat → ClassId) (bx : Nat) (bm : Nat) (hbm : bx ≤ bm) (X : Nat → Nat → Int) (H : Heap) (hM : PM D ks bm X H) (hV : VS X) (u v2 : Int) (hu : -2147483648 ≤ u ∧ u < 2147483648) (hv2 : -2147483648 ≤ v2 ∧ v2 < 2147483648) : KM l yX5_toneAt wsX5_toneAt ({ frames := 2, cells := 0, slots := 0, locals := 43 } : Room) D ks bx [.ref bm, .int (z2 u), .int (z2 v2)] H (RM bm) (fun v H1 => ∃ (r : Int) (Y : Nat → Nat → Int), ro_toneAt X u v2 r Y ∧ v = some (.int (z2 r)) ∧ PM D ks bm Y H1) (fun _ _ => False) := by
  refine KM.of (cc := cX5_toneAt) (maxL := 3) (ret := (some .int)) (by decide) rfl (Nat.le_of_ble_eq_true rfl) ?_
  intro p e s m below meth c hx hb hml hr hlocks hown hname hts hext hH0 hG ls hl
  subst hH0
  have hown : s.vm.findClass RX5 = some m.cls := hown
  have hS : va_S (AR (RM bm) s.heap.size) s.heap s.heap [] := va_S.rf
  have hl : lv_has ls 3 [(0, .ref bm), (1, .int (z2 (u))), (2, .int (z2 (v2)))] := hl
  have inX5 : ∀ w ∈ wsX50, w ∈ wsX5_toneAt := by decide +kernel
  have b1 : 0 ≤ X 1 0 ∧ X 1 0 ≤ 12 := hV.1 1 0 (by decide) rfl
  have b3 : ∀ q : Nat, 0 ≤ X 3 q ∧ X 3 q ≤ 12 := fun q => hV.1 3 q (by decide) rfl
  refine lv_aload_n hx hb dX5_toneAt_0 rfl (lv_at hl 0 rfl) ?_
  refine lv_iload_n hx hb dX5_toneAt_1 rfl (lv_at hl 1 rfl) ?_
  refine g_run (vx_runV (As := [.int (z2 (u))]) (rest := []) ⟨hx, hb, hml, hown, hts⟩ (m_isMelody l D ks bx bm hbm X _ hM hV (u) (by omega)) (cwV 1 hts gX5_toneAt_X5_isMelody rfl rfl rfl (by decide +kernel) ⟨Nat.le_of_ble_eq_true rfl, Nat.le_of_ble_eq_true rfl⟩) (g_preV (r := (RX5, TX5, 23)) hG hS (rm_ge hbm) hM.1 rfl) rfl rfl hl.1 rfl (lv_room (Nat.le_of_ble_eq_true rfl)) dX5_toneAt_2 ⟨Nat.le_of_ble_eq_true rfl, Nat.le_of_ble_eq_true rfl⟩) hS (fun _ h => h) (fun _ _ _ _ _ h => h.elim) (fun v H1 locs hp hz9 hk9 hS => ?_)
  rcases hp with ⟨q9, rfl, hM⟩ | ⟨q9, rfl, hM⟩
  · skip
    refine W.eq (g2 := F0 m 5 ls [.int (z2 (1))]) rfl ?_
    refine b_if_ne (tgt := 10) hx hb dX5_toneAt_5 (by decide) ⟨by omega, by omega⟩ (fun _ => ?_) (fun c => absurd c (by omega))
    obtain ⟨k, rfl⟩ : ∃ k : Nat, u = k := ⟨(u).toNat, by omega⟩
    refine lv_iload_n hx hb dX5_toneAt_10 rfl (lv_at hl 2 rfl) ?_
    refine b_iconst hx hb dX5_toneAt_11 ?_
    refine lv_aload_n hx hb dX5_toneAt_12 rfl (lv_at hl 0 rfl) ?_
    refine g_get (C := RX5) (T := TX5) (N := 23) hx hb hts inX5 hown hG hM.1 rfl 3 (by decide) (by decide +kernel) rfl (v := .ref (bm + 2)) rfl dX5_toneAt_13 ?_
    refine lv_iload_n hx hb dX5_toneAt_16 rfl (lv_at hl 1 rfl) ?_
    have b_17 : 0 ≤ X 3 k ∧ X 3 k ≤ 12 := hV.1 3 _ (by decide) rfl
    refine g_iald (n := 12) hx hb hG (f := fun i => z2 ((up X 22 0 (0)) 3 i)) (show ca D (bm + 2) (iA (ks 0) 12 (fun i => z2 ((up X 22 0 (0)) 3 i))) _ from hM.2.1 3 (sr_of (by decide))) k ⟨by omega, by omega, by decide⟩ dX5_toneAt_17 ?_
    refine W.eq (g2 := F0 m 18 ls (.int (z2 (X 3 k)) :: [.int (z2 (0)), .int (z2 (v2))])) rfl ?_
    refine b_iconst hx hb dX5_toneAt_18 ?_
    refine b_isub hx hb dX5_toneAt_19 ?_
    refine g_run (vx_runS (As := [.int (z2 (v2)), .int (z2 (0)), .int (z2 ((X 3 k) - 1))]) (rest := []) ⟨hx, hb, hml, hown, hts⟩ (m_in l D ks bx bm _ (v2) (0) ((X 3 k) - 1) ⟨⟨by omega, by omega⟩, ⟨by omega, by omega⟩, by omega, by omega⟩) (cwS 3 hts gX5_toneAt_X5_in rfl rfl rfl (by decide +kernel) ⟨Nat.le_of_ble_eq_true rfl, Nat.le_of_ble_eq_true rfl⟩) (g_preS hG hS (rm_ge hbm)) rfl rfl hl.1 rfl (lv_room (Nat.le_of_ble_eq_true rfl)) dX5_toneAt_20 ⟨Nat.le_of_ble_eq_true rfl, Nat.le_of_ble_eq_true rfl⟩) hS (fun _ h => h) (fun _ _ _ _ _ h => h.elim) (fun v H1 locs hp hz9 hk9 hS => ?_)
    obtain ⟨rfl, hH9⟩ := hp
    obtain rfl := hH9.symm
    obtain ⟨iv_20, ev_20, ib_20⟩ : ∃ z : Int, z = (if 0 ≤ v2 ∧ v2 ≤ (X 3 k) - 1 then 1 else 0) ∧ (((0 ≤ v2 ∧ v2 ≤ (X 3 k) - 1) ∧ z = 1) ∨ (¬ (0 ≤ v2 ∧ v2 ≤ (X 3 k) - 1) ∧ z = 0)) := ⟨_, rfl, by split <;> omega⟩
    rw [← ev_20]
    refine W.eq (g2 := F0 m 23 ls [.int (z2 (iv_20))]) rfl ?_
    refine b_if_eq (tgt := 35) hx hb dX5_toneAt_23 (by decide) ⟨by omega, by omega⟩ (fun c_23 => ?_) (fun c_23 => ?_)
    · skip
      refine lv_aload_n hx hb dX5_toneAt_35 rfl (lv_at hl 0 rfl) ?_
      refine b_iconst hx hb dX5_toneAt_36 ?_
      refine g_run (vx_runV (As := [.int (z2 (1))]) (rest := []) ⟨hx, hb, hml, hown, hts⟩ (m_fails l D ks bx bm hbm (up X 22 0 (0)) _ hM (vs_uf (hV) (by decide)) (1)) (cwV 1 hts gX5_toneAt_X5_fails rfl rfl rfl (by decide +kernel) ⟨Nat.le_of_ble_eq_true rfl, Nat.le_of_ble_eq_true rfl⟩) (g_preV (r := (RX5, TX5, 23)) hG hS (rm_ge hbm) hM.1 rfl) rfl rfl hl.1 rfl (lv_room (Nat.le_of_ble_eq_true rfl)) dX5_toneAt_37 ⟨Nat.le_of_ble_eq_true rfl, Nat.le_of_ble_eq_true rfl⟩) hS (fun _ h => h) (fun _ _ _ _ _ h => h.elim) (fun v H1 locs hp hz9 hk9 hS => ?_)
      obtain ⟨rfl, hM⟩ := hp
      refine W.eq (g2 := F0 m 40 ls [.int (z2 (0))]) rfl ?_
      exact g_iret hx hb hr hlocks hS ⟨Nat.le_of_ble_eq_true rfl, Nat.le_of_ble_eq_true rfl⟩ (⟨0, (up ((up X 22 0 (0))) 22 0 (1)), Or.inr (Or.inr (⟨⟨k, by omega⟩, rfl⟩)), rfl, hM⟩) dX5_toneAt_40
    · skip
      obtain ⟨q, rfl⟩ : ∃ q : Nat, v2 = q := ⟨(v2).toNat, by omega⟩
      refine lv_aload_n hx hb dX5_toneAt_26 rfl (lv_at hl 0 rfl) ?_
      refine lv_iload_n hx hb dX5_toneAt_27 rfl (lv_at hl 1 rfl) ?_
      refine lv_iload_n hx hb dX5_toneAt_28 rfl (lv_at hl 2 rfl) ?_
      refine g_run (vx_runV (As := [.int (z2 (((k : Nat) : Int))), .int (z2 (((q : Nat) : Int)))]) (rest := []) ⟨hx, hb, hml, hown, hts⟩ (m_tone l D ks bx bm hbm (up X 22 0 (0)) _ hM (vs_uf (hV) (by decide)) (k := k) (q := q) (((k : Nat) : Int)) (((q : Nat) : Int)) (by omega) (by omega)) (cwV 2 hts gX5_toneAt_X5_tone rfl rfl rfl (by decide +kernel) ⟨Nat.le_of_ble_eq_true rfl, Nat.le_of_ble_eq_true rfl⟩) (g_preV (r := (RX5, TX5, 23)) hG hS (rm_ge hbm) hM.1 rfl) rfl rfl hl.1 rfl (lv_room (Nat.le_of_ble_eq_true rfl)) dX5_toneAt_29 ⟨Nat.le_of_ble_eq_true rfl, Nat.le_of_ble_eq_true rfl⟩) hS (fun _ h => h) (fun _ _ _ _ _ h => h.elim) (fun v H1 locs hp hz9 hk9 hS => ?_)
      obtain ⟨rfl, hH9⟩ := hp
      obtain rfl := hH9.symm
      have tb_29 := toS_b (X 4 k) q
      refine W.eq (g2 := F0 m 32 ls [.int (z2 (toS (X 4 k) q))]) rfl ?_
      refine lv_goto (tgt := 40) hx hb dX5_toneAt_32 (by decide) ?_
      exact g_iret hx hb hr hlocks hS ⟨Nat.le_of_ble_eq_true rfl, Nat.le_of_ble_eq_true rfl⟩ (⟨toS (X 4 k) q, (up X 22 0 (0)), Or.inl (⟨k, q, by omega, rfl, rfl⟩), rfl, hM⟩) dX5_toneAt_40
  · skip
    refine W.eq (g2 := F0 m 5 ls [.int (z2 (0))]) rfl ?_
    refine b_if_ne (tgt := 10) hx hb dX5_toneAt_5 (by decide) ⟨by omega, by omega⟩ (fun c => absurd c (by omega)) (fun _ => ?_)
    refine b_iconst hx hb dX5_toneAt_8 ?_
    exact g_iret hx hb hr hlocks hS ⟨Nat.le_of_ble_eq_true rfl, Nat.le_of_ble_eq_true rfl⟩ (⟨0, (up X 22 0 (1)), Or.inr (Or.inl (⟨by omega, rfl⟩)), rfl, hM⟩) dX5_toneAt_9
set_option maxHeartbeats 4000000 in
set_option maxRecDepth 100000 in
theorem m_shifted (l : Launch) (D : va_G) (ks : Nat → ClassId) (bx : Nat) (bm : Nat) (hbm : bx ≤ bm) (X : Nat → Nat → Int) (H : Heap) (hM : PM D ks bm X H) (hV : VS X) (u v2 : Int) (hu : -2147483648 ≤ u ∧ u < 2147483648) (hv2 : -2147483648 ≤ v2 ∧ v2 < 2147483648) : KM l yX5_shifted wsX5_shifted ({ frames := 2, cells := 0, slots := 0, locals := 43 } : Room) D ks bx [.ref bm, .int (z2 u), .int (z2 v2)] H (RM bm) (fun v H1 => ∃ (r : Int) (Y : Nat → Nat → Int), ro_shifted X u v2 r Y ∧ v = some (.long (l2 r)) ∧ PM D ks bm Y H1) (fun _ _ => False) := by
  refine KM.of (cc := cX5_shifted) (maxL := 6) (ret := (some .long)) (by decide) rfl (Nat.le_of_ble_eq_true rfl) ?_
  intro p e s m below meth c hx hb hml hr hlocks hown hname hts hext hH0 hG ls hl
  subst hH0
  have hown : s.vm.findClass RX5 = some m.cls := hown
  have hS : va_S (AR (RM bm) s.heap.size) s.heap s.heap [] := va_S.rf
  have hl : lv_has ls 6 [(0, .ref bm), (1, .int (z2 (u))), (2, .int (z2 (v2)))] := hl
  have inX5 : ∀ w ∈ wsX50, w ∈ wsX5_shifted := by decide +kernel
  have b1 : 0 ≤ X 1 0 ∧ X 1 0 ≤ 12 := hV.1 1 0 (by decide) rfl
  have b3 : ∀ q : Nat, 0 ≤ X 3 q ∧ X 3 q ≤ 12 := fun q => hV.1 3 q (by decide) rfl
  refine lv_aload_n hx hb dX5_shifted_0 rfl (lv_at hl 0 rfl) ?_
  refine lv_iload_n hx hb dX5_shifted_1 rfl (lv_at hl 1 rfl) ?_
  refine g_run (vx_runV (As := [.int (z2 (u))]) (rest := []) ⟨hx, hb, hml, hown, hts⟩ (m_isMelody l D ks bx bm hbm X _ hM hV (u) (by omega)) (cwV 1 hts gX5_shifted_X5_isMelody rfl rfl rfl (by decide +kernel) ⟨Nat.le_of_ble_eq_true rfl, Nat.le_of_ble_eq_true rfl⟩) (g_preV (r := (RX5, TX5, 23)) hG hS (rm_ge hbm) hM.1 rfl) rfl rfl hl.1 rfl (lv_room (Nat.le_of_ble_eq_true rfl)) dX5_shifted_2 ⟨Nat.le_of_ble_eq_true rfl, Nat.le_of_ble_eq_true rfl⟩) hS (fun _ h => h) (fun _ _ _ _ _ h => h.elim) (fun v H1 locs hp hz9 hk9 hS => ?_)
  rcases hp with ⟨q9, rfl, hM⟩ | ⟨q9, rfl, hM⟩
  · skip
    refine W.eq (g2 := F0 m 5 ls [.int (z2 (1))]) rfl ?_
    refine b_if_ne (tgt := 10) hx hb dX5_shifted_5 (by decide) ⟨by omega, by omega⟩ (fun _ => ?_) (fun c => absurd c (by omega))
    obtain ⟨k, rfl⟩ : ∃ k : Nat, u = k := ⟨(u).toNat, by omega⟩
    refine lv_iload_n hx hb dX5_shifted_10 rfl (lv_at hl 2 rfl) ?_
    refine b_iconst hx hb dX5_shifted_11 ?_
    refine b_bipush hx hb dX5_shifted_12 (by decide +kernel) ?_
    refine g_run (vx_runS (As := [.int (z2 (v2)), .int (z2 (0)), .int (z2 (15))]) (rest := []) ⟨hx, hb, hml, hown, hts⟩ (m_in l D ks bx bm _ (v2) (0) (15) ⟨⟨by omega, by omega⟩, ⟨by omega, by omega⟩, by omega, by omega⟩) (cwS 3 hts gX5_shifted_X5_in rfl rfl rfl (by decide +kernel) ⟨Nat.le_of_ble_eq_true rfl, Nat.le_of_ble_eq_true rfl⟩) (g_preS hG hS (rm_ge hbm)) rfl rfl hl.1 rfl (lv_room (Nat.le_of_ble_eq_true rfl)) dX5_shifted_14 ⟨Nat.le_of_ble_eq_true rfl, Nat.le_of_ble_eq_true rfl⟩) hS (fun _ h => h) (fun _ _ _ _ _ h => h.elim) (fun v H1 locs hp hz9 hk9 hS => ?_)
    obtain ⟨rfl, hH9⟩ := hp
    obtain rfl := hH9.symm
    obtain ⟨iv_14, ev_14, ib_14⟩ : ∃ z : Int, z = (if 0 ≤ v2 ∧ v2 ≤ 15 then 1 else 0) ∧ (((0 ≤ v2 ∧ v2 ≤ 15) ∧ z = 1) ∨ (¬ (0 ≤ v2 ∧ v2 ≤ 15) ∧ z = 0)) := ⟨_, rfl, by split <;> omega⟩
    rw [← ev_14]
    refine W.eq (g2 := F0 m 17 ls [.int (z2 (iv_14))]) rfl ?_
    refine b_if_ne (tgt := 27) hx hb dX5_shifted_17 (by decide) ⟨by omega, by omega⟩ (fun c_17 => ?_) (fun c_17 => ?_)
    · skip
      obtain ⟨cn, hcn⟩ : ∃ cn : Nat, X 3 k = cn := ⟨(X 3 k).toNat, by have := b3 k; omega⟩
      have b3k := b3 k
      refine lv_lconst (v := l2 0) hx hb dX5_shifted_27 (by decide +kernel) ?_
      refine lv_lstore_n (lv' := [(3, .long (l2 0)), (0, .ref bm), (1, .int (z2 (((k : Nat) : Int)))), (2, .int (z2 (v2)))]) hx hb dX5_shifted_28 rfl hl (by decide) rfl (fun ls hl => ?_)
      refine lv_aload_n hx hb dX5_shifted_29 rfl (lv_at hl 1 rfl) ?_
      refine g_get (C := RX5) (T := TX5) (N := 23) hx hb hts inX5 hown hG hM.1 rfl 3 (by decide) (by decide +kernel) rfl (v := .ref (bm + 2)) rfl dX5_shifted_30 ?_
      refine lv_iload_n hx hb dX5_shifted_33 rfl (lv_at hl 2 rfl) ?_
      have b_34 : 0 ≤ X 3 k ∧ X 3 k ≤ 12 := hV.1 3 _ (by decide) rfl
      refine g_iald (n := 12) hx hb hG (f := fun i => z2 ((up X 22 0 (0)) 3 i)) (show ca D (bm + 2) (iA (ks 0) 12 (fun i => z2 ((up X 22 0 (0)) 3 i))) _ from hM.2.1 3 (sr_of (by decide))) k ⟨by omega, by omega, by decide⟩ dX5_shifted_34 ?_
      refine W.eq (g2 := F0 m 35 ls (.int (z2 (X 3 k)) :: [])) rfl ?_
      refine b_iconst hx hb dX5_shifted_35 ?_
      refine b_isub hx hb dX5_shifted_36 ?_
      refine lv_istore (lv' := [(5, .int (z2 ((X 3 k) - 1))), (3, .long (l2 0)), (0, .ref bm), (1, .int (z2 (((k : Nat) : Int)))), (2, .int (z2 (v2)))]) hx hb dX5_shifted_37 hl (by decide) rfl (fun ls hl => ?_)
      refine lp_ms (σ := Nat) (fun j H locs ls => j ≤ cn ∧ PM D ks bm (up X 22 0 (0)) H ∧ va_S (AR (RM bm) s.heap.size) s.heap H locs ∧ lv_has ls 6 [(0, .ref bm), (1, .int (z2 (((k : Nat) : Int)))), (2, .int (z2 (v2))), (3, .long (l2 (shR (X 4 k) v2 cn j))), (5, .int (z2 ((cn : Int) - 1 - ((j : Nat) : Int))))]) (fun j => cn - j) (fun j H locs ls hI ih => ?_) 0 ⟨by omega, hM, hS, (by have e0 : (cn : Int) - 1 - ((0 : Nat) : Int) = X 3 k - 1 := (by omega); rw [e0]; exact lv_sub hl [2, 3, 4, 1, 0] rfl)⟩
      obtain ⟨hkN, hM, hS, hl⟩ := hI
      have sb := shR_b (X 4 k) v2 cn j
      have sp := p16 (k := j) (by omega)
      refine lv_iload hx hb dX5_shifted_39 (lv_at hl 4 rfl) ?_
      refine b_if_lt (tgt := 68) hx hb dX5_shifted_41 (by decide) ⟨by omega, by omega⟩ (fun c_41 => ?_) (fun c_41 => ?_)
      · skip
        obtain rfl : cn = j := by omega
        refine lv_lload_n hx hb dX5_shifted_68 rfl (lv_at hl 3 rfl) ?_
        exact g_lret hx hb hr hlocks hS ⟨Nat.le_of_ble_eq_true rfl, Nat.le_of_ble_eq_true rfl⟩ (⟨(shR (X 4 k) v2 cn cn), (up X 22 0 (0)), Or.inl (⟨k, cn, by omega, rfl, rfl⟩), rfl, hM⟩) dX5_shifted_69
      · skip
        refine lv_lload_n hx hb dX5_shifted_44 rfl (lv_at hl 3 rfl) ?_
        refine b_iconst hx hb dX5_shifted_45 ?_
        refine lv_lshl hx hb dX5_shifted_46 rfl ?_
        refine lv_aload_n hx hb dX5_shifted_47 rfl (lv_at hl 0 rfl) ?_
        refine lv_iload_n hx hb dX5_shifted_48 rfl (lv_at hl 1 rfl) ?_
        refine lv_iload hx hb dX5_shifted_49 (lv_at hl 4 rfl) ?_
        refine g_run (vx_runV (As := [.int (z2 (((k : Nat) : Int))), .int (z2 ((cn : Int) - 1 - ((j : Nat) : Int)))]) (rest := [.long ((l2 (shR (X 4 k) v2 cn j)) <<< ((z2 (4)).toInt64 &&& 63))]) ⟨hx, hb, hml, hown, hts⟩ (m_tone l D ks bx bm hbm (up X 22 0 (0)) _ hM (vs_uf (hV) (by decide)) (k := k) (q := cn - 1 - j) (((k : Nat) : Int)) ((cn : Int) - 1 - ((j : Nat) : Int)) (by omega) (by omega)) (cwV 2 hts gX5_shifted_X5_tone rfl rfl rfl (by decide +kernel) ⟨Nat.le_of_ble_eq_true rfl, Nat.le_of_ble_eq_true rfl⟩) (g_preV (r := (RX5, TX5, 23)) hG hS (rm_ge hbm) hM.1 rfl) rfl rfl hl.1 rfl (lv_room (Nat.le_of_ble_eq_true rfl)) dX5_shifted_51 ⟨Nat.le_of_ble_eq_true rfl, Nat.le_of_ble_eq_true rfl⟩) hS (fun _ h => h) (fun _ _ _ _ _ h => h.elim) (fun v H1 locs hp hz9 hk9 hS => ?_)
        obtain ⟨rfl, hH9⟩ := hp
        obtain rfl := hH9.symm
        have tb_51 := toS_b (X 4 k) (cn - 1 - j)
        refine W.eq (g2 := F0 m 54 ls [.int (z2 (toS (X 4 k) (cn - 1 - j))), .long ((l2 (shR (X 4 k) v2 cn j)) <<< ((z2 (4)).toInt64 &&& 63))]) rfl ?_
        refine lv_iload_n hx hb dX5_shifted_54 rfl (lv_at hl 2 rfl) ?_
        refine b_iadd hx hb dX5_shifted_55 ?_
        refine b_bipush hx hb dX5_shifted_56 (by decide +kernel) ?_
        refine b_irem hx hb ⟨⟨by omega, by omega⟩, by decide, by decide⟩ dX5_shifted_58 ?_
        refine lv_i2l (v := l2 (((toS (X 4 k) (cn - 1 - j)) + v2) % 16)) hx hb dX5_shifted_59 (z2_l2 ⟨by omega, by omega⟩) ?_
        refine lv_lor hx hb dX5_shifted_60 ?_
        refine b_topl (v := shR (X 4 k) v2 cn (j + 1)) (l2_dig ⟨by omega, by omega⟩ ⟨Int.emod_nonneg _ (by decide), Int.emod_lt_of_pos _ (by decide)⟩) ?_
        refine lv_lstore_n (lv' := [(3, .long (l2 (shR (X 4 k) v2 cn (j + 1)))), (0, .ref bm), (1, .int (z2 (((k : Nat) : Int)))), (2, .int (z2 (v2))), (5, .int (z2 ((cn : Int) - 1 - ((j : Nat) : Int))))]) hx hb dX5_shifted_61 rfl hl (by decide) rfl (fun ls hl => ?_)
        refine b_iinc (lv' := [(5, .int (z2 (((cn : Int) - 1 - ((j : Nat) : Int)) + (-1)))), (3, .long (l2 (shR (X 4 k) v2 cn (j + 1)))), (0, .ref bm), (1, .int (z2 (((k : Nat) : Int)))), (2, .int (z2 (v2)))]) hx hb dX5_shifted_62 hl (k := 4) rfl (by decide) rfl (fun ls hl => ?_)
        refine lv_goto (tgt := 39) hx hb dX5_shifted_65 (by decide) ?_
        have e1 : (cn : Int) - 1 - ((j + 1 : Nat) : Int) = (cn : Int) - 1 - ((j : Nat) : Int) + -1 := by omega
        exact ih (j + 1) _ _ _ (by omega) ⟨by omega, hM, hS, by rw [e1]; exact lv_sub hl [2, 3, 4, 1, 0] rfl⟩
    · skip
      refine lv_aload_n hx hb dX5_shifted_20 rfl (lv_at hl 0 rfl) ?_
      refine b_iconst hx hb dX5_shifted_21 ?_
      refine g_run (vx_runV (As := [.int (z2 (2))]) (rest := []) ⟨hx, hb, hml, hown, hts⟩ (m_fails l D ks bx bm hbm (up X 22 0 (0)) _ hM (vs_uf (hV) (by decide)) (2)) (cwV 1 hts gX5_shifted_X5_fails rfl rfl rfl (by decide +kernel) ⟨Nat.le_of_ble_eq_true rfl, Nat.le_of_ble_eq_true rfl⟩) (g_preV (r := (RX5, TX5, 23)) hG hS (rm_ge hbm) hM.1 rfl) rfl rfl hl.1 rfl (lv_room (Nat.le_of_ble_eq_true rfl)) dX5_shifted_22 ⟨Nat.le_of_ble_eq_true rfl, Nat.le_of_ble_eq_true rfl⟩) hS (fun _ h => h) (fun _ _ _ _ _ h => h.elim) (fun v H1 locs hp hz9 hk9 hS => ?_)
      obtain ⟨rfl, hM⟩ := hp
      refine W.eq (g2 := F0 m 25 ls [.int (z2 (0))]) rfl ?_
      refine lv_i2l (v := l2 (0)) hx hb dX5_shifted_25 (z2_l2 ⟨by omega, by omega⟩) ?_
      exact g_lret hx hb hr hlocks hS ⟨Nat.le_of_ble_eq_true rfl, Nat.le_of_ble_eq_true rfl⟩ (⟨(0), (up ((up X 22 0 (0))) 22 0 (2)), Or.inr (Or.inr (⟨by omega, rfl⟩)), rfl, hM⟩) dX5_shifted_26
  · skip
    refine W.eq (g2 := F0 m 5 ls [.int (z2 (0))]) rfl ?_
    refine b_if_ne (tgt := 10) hx hb dX5_shifted_5 (by decide) ⟨by omega, by omega⟩ (fun c => absurd c (by omega)) (fun _ => ?_)
    refine lv_lconst (v := l2 0) hx hb dX5_shifted_8 (by decide +kernel) ?_
    exact g_lret hx hb hr hlocks hS ⟨Nat.le_of_ble_eq_true rfl, Nat.le_of_ble_eq_true rfl⟩ (⟨0, (up X 22 0 (1)), Or.inr (Or.inl (⟨by omega, rfl⟩)), rfl, hM⟩) dX5_shifted_9
set_option maxHeartbeats 4000000 in
set_option maxRecDepth 100000 in
theorem m_turned (l : Launch) (D : va_G) (ks : Nat → ClassId) (bx : Nat) (bm : Nat) (hbm : bx ≤ bm) (X : Nat → Nat → Int) (H : Heap) (hM : PM D ks bm X H) (hV : VS X) (u : Int) (hu : -2147483648 ≤ u ∧ u < 2147483648) : KM l yX5_turned wsX5_turned ({ frames := 2, cells := 0, slots := 0, locals := 43 } : Room) D ks bx [.ref bm, .int (z2 u)] H (RM bm) (fun v H1 => ∃ (r : Int) (Y : Nat → Nat → Int), ro_turned X u r Y ∧ v = some (.long (l2 r)) ∧ PM D ks bm Y H1) (fun _ _ => False) := by
  refine KM.of (cc := cX5_turned) (maxL := 5) (ret := (some .long)) (by decide) rfl (Nat.le_of_ble_eq_true rfl) ?_
  intro p e s m below meth c hx hb hml hr hlocks hown hname hts hext hH0 hG ls hl
  subst hH0
  have hown : s.vm.findClass RX5 = some m.cls := hown
  have hS : va_S (AR (RM bm) s.heap.size) s.heap s.heap [] := va_S.rf
  have hl : lv_has ls 5 [(0, .ref bm), (1, .int (z2 (u)))] := hl
  have inX5 : ∀ w ∈ wsX50, w ∈ wsX5_turned := by decide +kernel
  have b1 : 0 ≤ X 1 0 ∧ X 1 0 ≤ 12 := hV.1 1 0 (by decide) rfl
  have b3 : ∀ q : Nat, 0 ≤ X 3 q ∧ X 3 q ≤ 12 := fun q => hV.1 3 q (by decide) rfl
  refine lv_aload_n hx hb dX5_turned_0 rfl (lv_at hl 0 rfl) ?_
  refine lv_iload_n hx hb dX5_turned_1 rfl (lv_at hl 1 rfl) ?_
  refine g_run (vx_runV (As := [.int (z2 (u))]) (rest := []) ⟨hx, hb, hml, hown, hts⟩ (m_isMelody l D ks bx bm hbm X _ hM hV (u) (by omega)) (cwV 1 hts gX5_turned_X5_isMelody rfl rfl rfl (by decide +kernel) ⟨Nat.le_of_ble_eq_true rfl, Nat.le_of_ble_eq_true rfl⟩) (g_preV (r := (RX5, TX5, 23)) hG hS (rm_ge hbm) hM.1 rfl) rfl rfl hl.1 rfl (lv_room (Nat.le_of_ble_eq_true rfl)) dX5_turned_2 ⟨Nat.le_of_ble_eq_true rfl, Nat.le_of_ble_eq_true rfl⟩) hS (fun _ h => h) (fun _ _ _ _ _ h => h.elim) (fun v H1 locs hp hz9 hk9 hS => ?_)
  rcases hp with ⟨q9, rfl, hM⟩ | ⟨q9, rfl, hM⟩
  · skip
    refine W.eq (g2 := F0 m 5 ls [.int (z2 (1))]) rfl ?_
    refine b_if_ne (tgt := 10) hx hb dX5_turned_5 (by decide) ⟨by omega, by omega⟩ (fun _ => ?_) (fun c => absurd c (by omega))
    obtain ⟨k, rfl⟩ : ∃ k : Nat, u = k := ⟨(u).toNat, by omega⟩
    obtain ⟨cn, hcn⟩ : ∃ cn : Nat, X 3 k = cn := ⟨(X 3 k).toNat, by have := b3 k; omega⟩
    have b3k := b3 k
    refine lv_lconst (v := l2 0) hx hb dX5_turned_10 (by decide +kernel) ?_
    refine lv_lstore_n (lv' := [(2, .long (l2 0)), (0, .ref bm), (1, .int (z2 (((k : Nat) : Int))))]) hx hb dX5_turned_11 rfl hl (by decide) rfl (fun ls hl => ?_)
    refine b_iconst hx hb dX5_turned_12 ?_
    refine lv_istore (lv' := [(4, .int (z2 (0))), (2, .long (l2 0)), (0, .ref bm), (1, .int (z2 (((k : Nat) : Int))))]) hx hb dX5_turned_13 hl (by decide) rfl (fun ls hl => ?_)
    refine lp_ms (σ := Nat) (fun j H locs ls => j ≤ cn ∧ PM D ks bm (up X 22 0 (0)) H ∧ va_S (AR (RM bm) s.heap.size) s.heap H locs ∧ lv_has ls 5 [(0, .ref bm), (1, .int (z2 (((k : Nat) : Int)))), (2, .long (l2 (tuR (X 4 k) j))), (4, .int (z2 (((j : Nat) : Int))))]) (fun j => cn - j) (fun j H locs ls hI ih => ?_) 0 ⟨by omega, hM, hS, lv_sub hl [2, 3, 1, 0] rfl⟩
    obtain ⟨hkN, hM, hS, hl⟩ := hI
    have sb := tuR_b (X 4 k) j
    have sp := p16 (k := j) (by omega)
    refine lv_iload hx hb dX5_turned_15 (lv_at hl 3 rfl) ?_
    refine lv_aload_n hx hb dX5_turned_17 rfl (lv_at hl 0 rfl) ?_
    refine g_get (C := RX5) (T := TX5) (N := 23) hx hb hts inX5 hown hG hM.1 rfl 3 (by decide) (by decide +kernel) rfl (v := .ref (bm + 2)) rfl dX5_turned_18 ?_
    refine lv_iload_n hx hb dX5_turned_21 rfl (lv_at hl 1 rfl) ?_
    have b_22 : 0 ≤ X 3 k ∧ X 3 k ≤ 12 := hV.1 3 _ (by decide) rfl
    refine g_iald (n := 12) hx hb hG (f := fun i => z2 ((up X 22 0 (0)) 3 i)) (show ca D (bm + 2) (iA (ks 0) 12 (fun i => z2 ((up X 22 0 (0)) 3 i))) _ from hM.2.1 3 (sr_of (by decide))) k ⟨by omega, by omega, by decide⟩ dX5_turned_22 ?_
    refine W.eq (g2 := F0 m 23 ls (.int (z2 (X 3 k)) :: [.int (z2 (((j : Nat) : Int)))])) rfl ?_
    refine b_icmp_ge (tgt := 45) hx hb dX5_turned_23 (by decide) ⟨⟨by omega, by omega⟩, ⟨by omega, by omega⟩⟩ (fun c_23 => ?_) (fun c_23 => ?_)
    · skip
      obtain rfl : cn = j := by omega
      refine lv_lload_n hx hb dX5_turned_45 rfl (lv_at hl 2 rfl) ?_
      exact g_lret hx hb hr hlocks hS ⟨Nat.le_of_ble_eq_true rfl, Nat.le_of_ble_eq_true rfl⟩ (⟨(tuR (X 4 k) cn), (up X 22 0 (0)), Or.inl (⟨k, cn, by omega, rfl, rfl⟩), rfl, hM⟩) dX5_turned_46
    · skip
      refine lv_lload_n hx hb dX5_turned_26 rfl (lv_at hl 2 rfl) ?_
      refine b_iconst hx hb dX5_turned_27 ?_
      refine lv_lshl hx hb dX5_turned_28 rfl ?_
      refine lv_aload_n hx hb dX5_turned_29 rfl (lv_at hl 0 rfl) ?_
      refine lv_iload_n hx hb dX5_turned_30 rfl (lv_at hl 1 rfl) ?_
      refine lv_iload hx hb dX5_turned_31 (lv_at hl 3 rfl) ?_
      refine g_run (vx_runV (As := [.int (z2 (((k : Nat) : Int))), .int (z2 (((j : Nat) : Int)))]) (rest := [.long ((l2 (tuR (X 4 k) j)) <<< ((z2 (4)).toInt64 &&& 63))]) ⟨hx, hb, hml, hown, hts⟩ (m_tone l D ks bx bm hbm (up X 22 0 (0)) _ hM (vs_uf (hV) (by decide)) (k := k) (q := j) (((k : Nat) : Int)) (((j : Nat) : Int)) (by omega) (by omega)) (cwV 2 hts gX5_turned_X5_tone rfl rfl rfl (by decide +kernel) ⟨Nat.le_of_ble_eq_true rfl, Nat.le_of_ble_eq_true rfl⟩) (g_preV (r := (RX5, TX5, 23)) hG hS (rm_ge hbm) hM.1 rfl) rfl rfl hl.1 rfl (lv_room (Nat.le_of_ble_eq_true rfl)) dX5_turned_33 ⟨Nat.le_of_ble_eq_true rfl, Nat.le_of_ble_eq_true rfl⟩) hS (fun _ h => h) (fun _ _ _ _ _ h => h.elim) (fun v H1 locs hp hz9 hk9 hS => ?_)
      obtain ⟨rfl, hH9⟩ := hp
      obtain rfl := hH9.symm
      have tb_33 := toS_b (X 4 k) j
      refine W.eq (g2 := F0 m 36 ls [.int (z2 (toS (X 4 k) j)), .long ((l2 (tuR (X 4 k) j)) <<< ((z2 (4)).toInt64 &&& 63))]) rfl ?_
      refine lv_i2l (v := l2 (toS (X 4 k) j)) hx hb dX5_turned_36 (z2_l2 ⟨by omega, by omega⟩) ?_
      refine lv_lor hx hb dX5_turned_37 ?_
      refine b_topl (v := tuR (X 4 k) (j + 1)) (l2_dig ⟨by omega, by omega⟩ (toS_b _ _)) ?_
      refine lv_lstore_n (lv' := [(2, .long (l2 (tuR (X 4 k) (j + 1)))), (0, .ref bm), (1, .int (z2 (((k : Nat) : Int)))), (4, .int (z2 (((j : Nat) : Int))))]) hx hb dX5_turned_38 rfl hl (by decide) rfl (fun ls hl => ?_)
      refine b_iinc (lv' := [(4, .int (z2 (((j : Nat) : Int) + 1))), (2, .long (l2 (tuR (X 4 k) (j + 1)))), (0, .ref bm), (1, .int (z2 (((k : Nat) : Int))))]) hx hb dX5_turned_39 hl (k := 3) rfl (by decide) rfl (fun ls hl => ?_)
      refine lv_goto (tgt := 15) hx hb dX5_turned_42 (by decide) ?_
      exact ih (j + 1) _ _ _ (by omega) ⟨by omega, hM, hS, lv_sub hl [2, 3, 1, 0] rfl⟩
  · skip
    refine W.eq (g2 := F0 m 5 ls [.int (z2 (0))]) rfl ?_
    refine b_if_ne (tgt := 10) hx hb dX5_turned_5 (by decide) ⟨by omega, by omega⟩ (fun c => absurd c (by omega)) (fun _ => ?_)
    refine lv_lconst (v := l2 0) hx hb dX5_turned_8 (by decide +kernel) ?_
    exact g_lret hx hb hr hlocks hS ⟨Nat.le_of_ble_eq_true rfl, Nat.le_of_ble_eq_true rfl⟩ (⟨0, (up X 22 0 (1)), Or.inr (⟨by omega, rfl⟩), rfl, hM⟩) dX5_turned_9
set_option maxHeartbeats 4000000 in
set_option maxRecDepth 100000 in
theorem m_areAlike (l : Launch) (D : va_G) (ks : Nat → ClassId) (bx : Nat) (bm : Nat) (hbm : bx ≤ bm) (X : Nat → Nat → Int) (H : Heap) (hM : PM D ks bm X H) (hV : VS X) (u v2 : Int) (hu : -2147483648 ≤ u ∧ u < 2147483648) (hv2 : -2147483648 ≤ v2 ∧ v2 < 2147483648) : KM l yX5_areAlike wsX5_areAlike ({ frames := 1, cells := 0, slots := 0, locals := 22 } : Room) D ks bx [.ref bm, .int (z2 u), .int (z2 v2)] H (RM bm) (fun v H1 => ∃ (r : Int) (Y : Nat → Nat → Int), ro_areAlike X u v2 r Y ∧ v = some (.int (z2 r)) ∧ PM D ks bm Y H1) (fun _ _ => False) := by
  refine KM.of (cc := cX5_areAlike) (maxL := 5) (ret := (some .boolean)) (by decide) rfl (Nat.le_of_ble_eq_true rfl) ?_
  intro p e s m below meth c hx hb hml hr hlocks hown hname hts hext hH0 hG ls hl
  subst hH0
  have hown : s.vm.findClass RX5 = some m.cls := hown
  have hS : va_S (AR (RM bm) s.heap.size) s.heap s.heap [] := va_S.rf
  have hl : lv_has ls 5 [(0, .ref bm), (1, .int (z2 (u))), (2, .int (z2 (v2)))] := hl
  have inX5 : ∀ w ∈ wsX50, w ∈ wsX5_areAlike := by decide +kernel
  have b1 : 0 ≤ X 1 0 ∧ X 1 0 ≤ 12 := hV.1 1 0 (by decide) rfl
  have b3 : ∀ q : Nat, 0 ≤ X 3 q ∧ X 3 q ≤ 12 := fun q => hV.1 3 q (by decide) rfl
  refine lv_aload_n hx hb dX5_areAlike_0 rfl (lv_at hl 0 rfl) ?_
  refine lv_iload_n hx hb dX5_areAlike_1 rfl (lv_at hl 1 rfl) ?_
  refine b_iconst hx hb dX5_areAlike_2 ?_
  refine lv_aload_n hx hb dX5_areAlike_3 rfl (lv_at hl 0 rfl) ?_
  have b_4 : 0 ≤ X 1 0 ∧ X 1 0 ≤ 12 := hV.1 1 _ (by decide) rfl
  refine g_get (C := RX5) (T := TX5) (N := 23) hx hb hts inX5 hown hG hM.1 rfl 1 (by decide) (by decide +kernel) rfl (v := .int (z2 (X 1 0))) rfl dX5_areAlike_4 ?_
  refine b_iconst hx hb dX5_areAlike_7 ?_
  refine b_isub hx hb dX5_areAlike_8 ?_
  refine g_run (vx_runS (As := [.int (z2 (u)), .int (z2 (0)), .int (z2 ((X 1 0) - 1))]) (rest := [.ref bm]) ⟨hx, hb, hml, hown, hts⟩ (m_in l D ks bx bm _ (u) (0) ((X 1 0) - 1) ⟨⟨by omega, by omega⟩, ⟨by omega, by omega⟩, by omega, by omega⟩) (cwS 3 hts gX5_areAlike_X5_in rfl rfl rfl (by decide +kernel) ⟨Nat.le_of_ble_eq_true rfl, Nat.le_of_ble_eq_true rfl⟩) (g_preS hG hS (rm_ge hbm)) rfl rfl hl.1 rfl (lv_room (Nat.le_of_ble_eq_true rfl)) dX5_areAlike_9 ⟨Nat.le_of_ble_eq_true rfl, Nat.le_of_ble_eq_true rfl⟩) hS (fun _ h => h) (fun _ _ _ _ _ h => h.elim) (fun v H1 locs hp hz9 hk9 hS => ?_)
  obtain ⟨rfl, hH9⟩ := hp
  obtain rfl := hH9.symm
  obtain ⟨iv_9, ev_9, ib_9⟩ : ∃ z : Int, z = (if 0 ≤ u ∧ u ≤ (X 1 0) - 1 then 1 else 0) ∧ (((0 ≤ u ∧ u ≤ (X 1 0) - 1) ∧ z = 1) ∨ (¬ (0 ≤ u ∧ u ≤ (X 1 0) - 1) ∧ z = 0)) := ⟨_, rfl, by split <;> omega⟩
  rw [← ev_9]
  refine W.eq (g2 := F0 m 12 ls [.int (z2 (iv_9)), .ref bm]) rfl ?_
  refine b_if_eq (tgt := 33) hx hb dX5_areAlike_12 (by decide) ⟨by omega, by omega⟩ (fun c_12 => ?_) (fun c_12 => ?_)
  · skip
    refine b_iconst hx hb dX5_areAlike_33 ?_
    refine g_put (C := RX5) (T := TX5) (N := 23) hx hb hts inX5 tyX5 tyX5_ok nmX5 hown hG hS hM.1 (Or.inl ⟨by omega, by omega⟩) rfl 22 (by decide) (by decide +kernel) rfl rfl (v := .int (z2 (1))) rfl rfl (Nat.le_of_ble_eq_true rfl) dX5_areAlike_34 (fun H locs he hz oq hS => ?_)
    have hM : PM D ks bm (up X 22 0 (1)) H := hM.own (k := 22) (by decide) he oq
    refine lv_aload_n hx hb dX5_areAlike_37 rfl (lv_at hl 0 rfl) ?_
    refine g_get (C := RX5) (T := TX5) (N := 23) hx hb hts inX5 hown hG hM.1 rfl 22 (by decide) (by decide +kernel) rfl (v := .int (z2 (1))) (congrArg (fun z => some (Value.int (z2 z))) (by simp [up] : (up X 22 0 (1)) 22 0 = 1)) dX5_areAlike_38 ?_
    refine b_if_gt (tgt := 59) hx hb dX5_areAlike_41 (by decide) ⟨by omega, by omega⟩ (fun _ => ?_) (fun c => absurd c (by omega))
    refine b_iconst hx hb dX5_areAlike_59 ?_
    exact g_zret hx hb hr hlocks hS (by decide +kernel) ⟨Nat.le_of_ble_eq_true rfl, Nat.le_of_ble_eq_true rfl⟩ (⟨0, up X 22 0 (1), Or.inr (⟨by omega, rfl⟩), rfl, hM⟩) dX5_areAlike_60
  · skip
    refine lv_iload_n hx hb dX5_areAlike_15 rfl (lv_at hl 2 rfl) ?_
    refine b_iconst hx hb dX5_areAlike_16 ?_
    refine lv_aload_n hx hb dX5_areAlike_17 rfl (lv_at hl 0 rfl) ?_
    have b_18 : 0 ≤ X 1 0 ∧ X 1 0 ≤ 12 := hV.1 1 _ (by decide) rfl
    refine g_get (C := RX5) (T := TX5) (N := 23) hx hb hts inX5 hown hG hM.1 rfl 1 (by decide) (by decide +kernel) rfl (v := .int (z2 (X 1 0))) rfl dX5_areAlike_18 ?_
    refine b_iconst hx hb dX5_areAlike_21 ?_
    refine b_isub hx hb dX5_areAlike_22 ?_
    refine g_run (vx_runS (As := [.int (z2 (v2)), .int (z2 (0)), .int (z2 ((X 1 0) - 1))]) (rest := [.ref bm]) ⟨hx, hb, hml, hown, hts⟩ (m_in l D ks bx bm _ (v2) (0) ((X 1 0) - 1) ⟨⟨by omega, by omega⟩, ⟨by omega, by omega⟩, by omega, by omega⟩) (cwS 3 hts gX5_areAlike_X5_in rfl rfl rfl (by decide +kernel) ⟨Nat.le_of_ble_eq_true rfl, Nat.le_of_ble_eq_true rfl⟩) (g_preS hG hS (rm_ge hbm)) rfl rfl hl.1 rfl (lv_room (Nat.le_of_ble_eq_true rfl)) dX5_areAlike_23 ⟨Nat.le_of_ble_eq_true rfl, Nat.le_of_ble_eq_true rfl⟩) hS (fun _ h => h) (fun _ _ _ _ _ h => h.elim) (fun v H1 locs hp hz9 hk9 hS => ?_)
    obtain ⟨rfl, hH9⟩ := hp
    obtain rfl := hH9.symm
    obtain ⟨iv_23, ev_23, ib_23⟩ : ∃ z : Int, z = (if 0 ≤ v2 ∧ v2 ≤ (X 1 0) - 1 then 1 else 0) ∧ (((0 ≤ v2 ∧ v2 ≤ (X 1 0) - 1) ∧ z = 1) ∨ (¬ (0 ≤ v2 ∧ v2 ≤ (X 1 0) - 1) ∧ z = 0)) := ⟨_, rfl, by split <;> omega⟩
    rw [← ev_23]
    refine W.eq (g2 := F0 m 26 ls [.int (z2 (iv_23)), .ref bm]) rfl ?_
    refine b_if_eq (tgt := 33) hx hb dX5_areAlike_26 (by decide) ⟨by omega, by omega⟩ (fun c_26 => ?_) (fun c_26 => ?_)
    · skip
      refine b_iconst hx hb dX5_areAlike_33 ?_
      refine g_put (C := RX5) (T := TX5) (N := 23) hx hb hts inX5 tyX5 tyX5_ok nmX5 hown hG hS hM.1 (Or.inl ⟨by omega, by omega⟩) rfl 22 (by decide) (by decide +kernel) rfl rfl (v := .int (z2 (1))) rfl rfl (Nat.le_of_ble_eq_true rfl) dX5_areAlike_34 (fun H locs he hz oq hS => ?_)
      have hM : PM D ks bm (up X 22 0 (1)) H := hM.own (k := 22) (by decide) he oq
      refine lv_aload_n hx hb dX5_areAlike_37 rfl (lv_at hl 0 rfl) ?_
      refine g_get (C := RX5) (T := TX5) (N := 23) hx hb hts inX5 hown hG hM.1 rfl 22 (by decide) (by decide +kernel) rfl (v := .int (z2 (1))) (congrArg (fun z => some (Value.int (z2 z))) (by simp [up] : (up X 22 0 (1)) 22 0 = 1)) dX5_areAlike_38 ?_
      refine b_if_gt (tgt := 59) hx hb dX5_areAlike_41 (by decide) ⟨by omega, by omega⟩ (fun _ => ?_) (fun c => absurd c (by omega))
      refine b_iconst hx hb dX5_areAlike_59 ?_
      exact g_zret hx hb hr hlocks hS (by decide +kernel) ⟨Nat.le_of_ble_eq_true rfl, Nat.le_of_ble_eq_true rfl⟩ (⟨0, up X 22 0 (1), Or.inr (⟨by omega, rfl⟩), rfl, hM⟩) dX5_areAlike_60
    · skip
      refine b_iconst hx hb dX5_areAlike_29 ?_
      refine lv_goto (tgt := 34) hx hb dX5_areAlike_30 (by decide) ?_
      refine g_put (C := RX5) (T := TX5) (N := 23) hx hb hts inX5 tyX5 tyX5_ok nmX5 hown hG hS hM.1 (Or.inl ⟨by omega, by omega⟩) rfl 22 (by decide) (by decide +kernel) rfl rfl (v := .int (z2 (0))) rfl rfl (Nat.le_of_ble_eq_true rfl) dX5_areAlike_34 (fun H locs he hz oq hS => ?_)
      have hM : PM D ks bm (up X 22 0 (0)) H := hM.own (k := 22) (by decide) he oq
      refine lv_aload_n hx hb dX5_areAlike_37 rfl (lv_at hl 0 rfl) ?_
      refine g_get (C := RX5) (T := TX5) (N := 23) hx hb hts inX5 hown hG hM.1 rfl 22 (by decide) (by decide +kernel) rfl (v := .int (z2 (0))) (congrArg (fun z => some (Value.int (z2 z))) (by simp [up] : (up X 22 0 (0)) 22 0 = 0)) dX5_areAlike_38 ?_
      refine b_if_gt (tgt := 59) hx hb dX5_areAlike_41 (by decide) ⟨by omega, by omega⟩ (fun c => absurd c (by omega)) (fun _ => ?_)
      obtain ⟨k, rfl⟩ : ∃ k : Nat, u = k := ⟨(u).toNat, by omega⟩
      obtain ⟨k2, rfl⟩ : ∃ k2 : Nat, v2 = k2 := ⟨(v2).toNat, by omega⟩
      refine lv_aload_n hx hb dX5_areAlike_44 rfl (lv_at hl 0 rfl) ?_
      refine g_get (C := RX5) (T := TX5) (N := 23) hx hb hts inX5 hown hG hM.1 rfl 3 (by decide) (by decide +kernel) rfl (v := .ref (bm + 2)) rfl dX5_areAlike_45 ?_
      refine lv_iload_n hx hb dX5_areAlike_48 rfl (lv_at hl 1 rfl) ?_
      have b_49 : 0 ≤ X 3 k ∧ X 3 k ≤ 12 := hV.1 3 _ (by decide) rfl
      refine g_iald (n := 12) hx hb hG (f := fun i => z2 ((up X 22 0 (0)) 3 i)) (show ca D (bm + 2) (iA (ks 0) 12 (fun i => z2 ((up X 22 0 (0)) 3 i))) _ from hM.2.1 3 (sr_of (by decide))) k ⟨by omega, by omega, by decide⟩ dX5_areAlike_49 ?_
      refine W.eq (g2 := F0 m 50 ls (.int (z2 (X 3 k)) :: [])) rfl ?_
      refine lv_aload_n hx hb dX5_areAlike_50 rfl (lv_at hl 0 rfl) ?_
      refine g_get (C := RX5) (T := TX5) (N := 23) hx hb hts inX5 hown hG hM.1 rfl 3 (by decide) (by decide +kernel) rfl (v := .ref (bm + 2)) rfl dX5_areAlike_51 ?_
      refine lv_iload_n hx hb dX5_areAlike_54 rfl (lv_at hl 2 rfl) ?_
      have b_55 : 0 ≤ X 3 k2 ∧ X 3 k2 ≤ 12 := hV.1 3 _ (by decide) rfl
      refine g_iald (n := 12) hx hb hG (f := fun i => z2 ((up X 22 0 (0)) 3 i)) (show ca D (bm + 2) (iA (ks 0) 12 (fun i => z2 ((up X 22 0 (0)) 3 i))) _ from hM.2.1 3 (sr_of (by decide))) k2 ⟨by omega, by omega, by decide⟩ dX5_areAlike_55 ?_
      refine W.eq (g2 := F0 m 56 ls (.int (z2 (X 3 k2)) :: [.int (z2 (X 3 k))])) rfl ?_
      refine b_icmp_eq (tgt := 61) hx hb dX5_areAlike_56 (by decide) ⟨⟨by omega, by omega⟩, ⟨by omega, by omega⟩⟩ (fun c_56 => ?_) (fun c_56 => ?_)
      · skip
        obtain ⟨cn, hcn⟩ : ∃ cn : Nat, X 3 k = cn := ⟨(X 3 k).toNat, by have := b3 k; omega⟩
        have b3k := b3 k
        refine b_iconst hx hb dX5_areAlike_61 ?_
        refine lv_istore_n (lv' := [(3, .int (z2 (1))), (0, .ref bm), (1, .int (z2 (((k : Nat) : Int)))), (2, .int (z2 (((k2 : Nat) : Int))))]) hx hb dX5_areAlike_62 rfl hl (by decide) rfl (fun ls hl => ?_)
        refine b_iconst hx hb dX5_areAlike_63 ?_
        refine lv_istore (lv' := [(4, .int (z2 (1))), (3, .int (z2 (1))), (0, .ref bm), (1, .int (z2 (((k : Nat) : Int)))), (2, .int (z2 (((k2 : Nat) : Int))))]) hx hb dX5_areAlike_64 hl (by decide) rfl (fun ls hl => ?_)
        refine lp_ms (σ := Nat) (fun j H locs ls => j ≤ cn ∧ (j = 0 ∨ j + 1 ≤ cn) ∧ PM D ks bm (up X 22 0 (0)) H ∧ va_S (AR (RM bm) s.heap.size) s.heap H locs ∧ lv_has ls 5 [(0, .ref bm), (1, .int (z2 (((k : Nat) : Int)))), (2, .int (z2 (((k2 : Nat) : Int)))), (3, .int (z2 (alM X k k2 j))), (4, .int (z2 (((j + 1 : Nat) : Int))))]) (fun j => cn - j) (fun j H locs ls hI ih => ?_) 0 ⟨by omega, Or.inl rfl, hM, hS, lv_sub hl [2, 3, 4, 1, 0] rfl⟩
        obtain ⟨hkN, hj0, hM, hS, hl⟩ := hI
        have ab := alM_b X k k2 j
        refine lv_iload hx hb dX5_areAlike_66 (lv_at hl 4 rfl) ?_
        refine lv_aload_n hx hb dX5_areAlike_68 rfl (lv_at hl 0 rfl) ?_
        refine g_get (C := RX5) (T := TX5) (N := 23) hx hb hts inX5 hown hG hM.1 rfl 3 (by decide) (by decide +kernel) rfl (v := .ref (bm + 2)) rfl dX5_areAlike_69 ?_
        refine lv_iload_n hx hb dX5_areAlike_72 rfl (lv_at hl 1 rfl) ?_
        have b_73 : 0 ≤ X 3 k ∧ X 3 k ≤ 12 := hV.1 3 _ (by decide) rfl
        refine g_iald (n := 12) hx hb hG (f := fun i => z2 ((up X 22 0 (0)) 3 i)) (show ca D (bm + 2) (iA (ks 0) 12 (fun i => z2 ((up X 22 0 (0)) 3 i))) _ from hM.2.1 3 (sr_of (by decide))) k ⟨by omega, by omega, by decide⟩ dX5_areAlike_73 ?_
        refine W.eq (g2 := F0 m 74 ls (.int (z2 (X 3 k)) :: [.int (z2 (((j + 1 : Nat) : Int)))])) rfl ?_
        refine b_icmp_ge (tgt := 128) hx hb dX5_areAlike_74 (by decide) ⟨⟨by omega, by omega⟩, ⟨by omega, by omega⟩⟩ (fun c_74 => ?_) (fun c_74 => ?_)
        · skip
          have zn9 : narrow .boolean (.int (z2 (alM X k k2 j))) = .int (z2 (alM X k k2 j)) := by rcases (show alM X k k2 j = 1 ∨ alM X k k2 j = 0 by omega) with q | q <;> (rw [q]; decide +kernel)
          refine lv_iload_n hx hb dX5_areAlike_128 rfl (lv_at hl 3 rfl) ?_
          have ej : j = cn - 1 := by omega
          have e9 : alM X k k2 j = (if X 3 k = X 3 k2 then alM X k k2 ((X 3 k).toNat - 1) else 0) := by
            rw [if_pos (by omega), hcn, ej]
            rfl
          exact g_zret hx hb hr hlocks hS zn9 ⟨Nat.le_of_ble_eq_true rfl, Nat.le_of_ble_eq_true rfl⟩ (⟨alM X k k2 j, (up X 22 0 (0)), Or.inl (⟨k, k2, by omega, e9, rfl⟩), rfl, hM⟩) dX5_areAlike_129
        · skip
          refine lv_iload_n hx hb dX5_areAlike_77 rfl (lv_at hl 3 rfl) ?_
          refine b_if_eq (tgt := 120) hx hb dX5_areAlike_78 (by decide) ⟨by omega, by omega⟩ (fun c_78 => ?_) (fun c_78 => ?_)
          · skip
            refine b_iconst hx hb dX5_areAlike_120 ?_
            refine lv_istore_n (lv' := [(3, .int (z2 (0))), (0, .ref bm), (1, .int (z2 (((k : Nat) : Int)))), (2, .int (z2 (((k2 : Nat) : Int)))), (4, .int (z2 (((j + 1 : Nat) : Int))))]) hx hb dX5_areAlike_121 rfl hl (by decide) rfl (fun ls hl => ?_)
            refine b_iinc (lv' := [(4, .int (z2 (((j + 1 : Nat) : Int) + 1))), (3, .int (z2 (0))), (0, .ref bm), (1, .int (z2 (((k : Nat) : Int)))), (2, .int (z2 (((k2 : Nat) : Int))))]) hx hb dX5_areAlike_122 hl (k := 4) rfl (by decide) rfl (fun ls hl => ?_)
            refine lv_goto (tgt := 66) hx hb dX5_areAlike_125 (by decide) ?_
            have e1 : alM X k k2 (j + 1) = 0 := if_neg (fun q => by omega)
            exact ih (j + 1) _ _ _ (by omega) ⟨by omega, (by omega), hM, hS, by rw [e1]; exact lv_sub hl [2, 3, 4, 1, 0] rfl⟩
          · skip
            refine lv_aload_n hx hb dX5_areAlike_81 rfl (lv_at hl 0 rfl) ?_
            refine lv_iload_n hx hb dX5_areAlike_82 rfl (lv_at hl 1 rfl) ?_
            refine lv_iload hx hb dX5_areAlike_83 (lv_at hl 4 rfl) ?_
            refine g_run (vx_runV (As := [.int (z2 (((k : Nat) : Int))), .int (z2 (((j + 1 : Nat) : Int)))]) (rest := []) ⟨hx, hb, hml, hown, hts⟩ (m_tone l D ks bx bm hbm (up X 22 0 (0)) _ hM (vs_uf (hV) (by decide)) (k := k) (q := j + 1) (((k : Nat) : Int)) (((j + 1 : Nat) : Int)) (by omega) (by omega)) (cwV 2 hts gX5_areAlike_X5_tone rfl rfl rfl (by decide +kernel) ⟨Nat.le_of_ble_eq_true rfl, Nat.le_of_ble_eq_true rfl⟩) (g_preV (r := (RX5, TX5, 23)) hG hS (rm_ge hbm) hM.1 rfl) rfl rfl hl.1 rfl (lv_room (Nat.le_of_ble_eq_true rfl)) dX5_areAlike_85 ⟨Nat.le_of_ble_eq_true rfl, Nat.le_of_ble_eq_true rfl⟩) hS (fun _ h => h) (fun _ _ _ _ _ h => h.elim) (fun v H1 locs hp hz9 hk9 hS => ?_)
            obtain ⟨rfl, hH9⟩ := hp
            obtain rfl := hH9.symm
            have tb_85 := toS_b (X 4 k) (j + 1)
            refine W.eq (g2 := F0 m 88 ls [.int (z2 (toS (X 4 k) (j + 1)))]) rfl ?_
            refine lv_aload_n hx hb dX5_areAlike_88 rfl (lv_at hl 0 rfl) ?_
            refine lv_iload_n hx hb dX5_areAlike_89 rfl (lv_at hl 2 rfl) ?_
            refine lv_iload hx hb dX5_areAlike_90 (lv_at hl 4 rfl) ?_
            refine g_run (vx_runV (As := [.int (z2 (((k2 : Nat) : Int))), .int (z2 (((j + 1 : Nat) : Int)))]) (rest := [.int (z2 (toS (X 4 k) (j + 1)))]) ⟨hx, hb, hml, hown, hts⟩ (m_tone l D ks bx bm hbm (up X 22 0 (0)) _ hM (vs_uf (hV) (by decide)) (k := k2) (q := j + 1) (((k2 : Nat) : Int)) (((j + 1 : Nat) : Int)) (by omega) (by omega)) (cwV 2 hts gX5_areAlike_X5_tone rfl rfl rfl (by decide +kernel) ⟨Nat.le_of_ble_eq_true rfl, Nat.le_of_ble_eq_true rfl⟩) (g_preV (r := (RX5, TX5, 23)) hG hS (rm_ge hbm) hM.1 rfl) rfl rfl hl.1 rfl (lv_room (Nat.le_of_ble_eq_true rfl)) dX5_areAlike_92 ⟨Nat.le_of_ble_eq_true rfl, Nat.le_of_ble_eq_true rfl⟩) hS (fun _ h => h) (fun _ _ _ _ _ h => h.elim) (fun v H1 locs hp hz9 hk9 hS => ?_)
            obtain ⟨rfl, hH9⟩ := hp
            obtain rfl := hH9.symm
            have tb_92 := toS_b (X 4 k2) (j + 1)
            refine W.eq (g2 := F0 m 95 ls [.int (z2 (toS (X 4 k2) (j + 1))), .int (z2 (toS (X 4 k) (j + 1)))]) rfl ?_
            refine b_isub hx hb dX5_areAlike_95 ?_
            refine lv_aload_n hx hb dX5_areAlike_96 rfl (lv_at hl 0 rfl) ?_
            refine lv_iload_n hx hb dX5_areAlike_97 rfl (lv_at hl 1 rfl) ?_
            refine b_iconst hx hb dX5_areAlike_98 ?_
            refine g_run (vx_runV (As := [.int (z2 (((k : Nat) : Int))), .int (z2 (0))]) (rest := [.int (z2 ((toS (X 4 k) (j + 1)) - (toS (X 4 k2) (j + 1))))]) ⟨hx, hb, hml, hown, hts⟩ (m_tone l D ks bx bm hbm (up X 22 0 (0)) _ hM (vs_uf (hV) (by decide)) (k := k) (q := 0) (((k : Nat) : Int)) (0) (by omega) (by omega)) (cwV 2 hts gX5_areAlike_X5_tone rfl rfl rfl (by decide +kernel) ⟨Nat.le_of_ble_eq_true rfl, Nat.le_of_ble_eq_true rfl⟩) (g_preV (r := (RX5, TX5, 23)) hG hS (rm_ge hbm) hM.1 rfl) rfl rfl hl.1 rfl (lv_room (Nat.le_of_ble_eq_true rfl)) dX5_areAlike_99 ⟨Nat.le_of_ble_eq_true rfl, Nat.le_of_ble_eq_true rfl⟩) hS (fun _ h => h) (fun _ _ _ _ _ h => h.elim) (fun v H1 locs hp hz9 hk9 hS => ?_)
            obtain ⟨rfl, hH9⟩ := hp
            obtain rfl := hH9.symm
            have tb_99 := toS_b (X 4 k) 0
            refine W.eq (g2 := F0 m 102 ls [.int (z2 (toS (X 4 k) 0)), .int (z2 ((toS (X 4 k) (j + 1)) - (toS (X 4 k2) (j + 1))))]) rfl ?_
            refine b_isub hx hb dX5_areAlike_102 ?_
            refine lv_aload_n hx hb dX5_areAlike_103 rfl (lv_at hl 0 rfl) ?_
            refine lv_iload_n hx hb dX5_areAlike_104 rfl (lv_at hl 2 rfl) ?_
            refine b_iconst hx hb dX5_areAlike_105 ?_
            refine g_run (vx_runV (As := [.int (z2 (((k2 : Nat) : Int))), .int (z2 (0))]) (rest := [.int (z2 (((toS (X 4 k) (j + 1)) - (toS (X 4 k2) (j + 1))) - (toS (X 4 k) 0)))]) ⟨hx, hb, hml, hown, hts⟩ (m_tone l D ks bx bm hbm (up X 22 0 (0)) _ hM (vs_uf (hV) (by decide)) (k := k2) (q := 0) (((k2 : Nat) : Int)) (0) (by omega) (by omega)) (cwV 2 hts gX5_areAlike_X5_tone rfl rfl rfl (by decide +kernel) ⟨Nat.le_of_ble_eq_true rfl, Nat.le_of_ble_eq_true rfl⟩) (g_preV (r := (RX5, TX5, 23)) hG hS (rm_ge hbm) hM.1 rfl) rfl rfl hl.1 rfl (lv_room (Nat.le_of_ble_eq_true rfl)) dX5_areAlike_106 ⟨Nat.le_of_ble_eq_true rfl, Nat.le_of_ble_eq_true rfl⟩) hS (fun _ h => h) (fun _ _ _ _ _ h => h.elim) (fun v H1 locs hp hz9 hk9 hS => ?_)
            obtain ⟨rfl, hH9⟩ := hp
            obtain rfl := hH9.symm
            have tb_106 := toS_b (X 4 k2) 0
            refine W.eq (g2 := F0 m 109 ls [.int (z2 (toS (X 4 k2) 0)), .int (z2 (((toS (X 4 k) (j + 1)) - (toS (X 4 k2) (j + 1))) - (toS (X 4 k) 0)))]) rfl ?_
            refine b_iadd hx hb dX5_areAlike_109 ?_
            refine b_bipush hx hb dX5_areAlike_110 (by decide +kernel) ?_
            refine lv_irem hx hb dX5_areAlike_112 (by decide +kernel) ?_
            rw [z2_tm _ ⟨by omega, by omega⟩]
            have tm9 := tm_b ((((toS (X 4 k) (j + 1)) - (toS (X 4 k2) (j + 1))) - (toS (X 4 k) 0)) + (toS (X 4 k2) 0)) ⟨by omega, by omega⟩
            refine b_if_ne (tgt := 120) hx hb dX5_areAlike_113 (by decide) ⟨by omega, by omega⟩ (fun c_113 => ?_) (fun c_113 => ?_)
            · skip
              refine b_iconst hx hb dX5_areAlike_120 ?_
              refine lv_istore_n (lv' := [(3, .int (z2 (0))), (0, .ref bm), (1, .int (z2 (((k : Nat) : Int)))), (2, .int (z2 (((k2 : Nat) : Int)))), (4, .int (z2 (((j + 1 : Nat) : Int))))]) hx hb dX5_areAlike_121 rfl hl (by decide) rfl (fun ls hl => ?_)
              refine b_iinc (lv' := [(4, .int (z2 (((j + 1 : Nat) : Int) + 1))), (3, .int (z2 (0))), (0, .ref bm), (1, .int (z2 (((k : Nat) : Int)))), (2, .int (z2 (((k2 : Nat) : Int))))]) hx hb dX5_areAlike_122 hl (k := 4) rfl (by decide) rfl (fun ls hl => ?_)
              refine lv_goto (tgt := 66) hx hb dX5_areAlike_125 (by decide) ?_
              have e1 : alM X k k2 (j + 1) = 0 := if_neg (fun q => by omega)
              exact ih (j + 1) _ _ _ (by omega) ⟨by omega, (by omega), hM, hS, by rw [e1]; exact lv_sub hl [2, 3, 4, 1, 0] rfl⟩
            · skip
              refine b_iconst hx hb dX5_areAlike_116 ?_
              refine lv_goto (tgt := 121) hx hb dX5_areAlike_117 (by decide) ?_
              refine lv_istore_n (lv' := [(3, .int (z2 (1))), (0, .ref bm), (1, .int (z2 (((k : Nat) : Int)))), (2, .int (z2 (((k2 : Nat) : Int)))), (4, .int (z2 (((j + 1 : Nat) : Int))))]) hx hb dX5_areAlike_121 rfl hl (by decide) rfl (fun ls hl => ?_)
              refine b_iinc (lv' := [(4, .int (z2 (((j + 1 : Nat) : Int) + 1))), (3, .int (z2 (1))), (0, .ref bm), (1, .int (z2 (((k : Nat) : Int)))), (2, .int (z2 (((k2 : Nat) : Int))))]) hx hb dX5_areAlike_122 hl (k := 4) rfl (by decide) rfl (fun ls hl => ?_)
              refine lv_goto (tgt := 66) hx hb dX5_areAlike_125 (by decide) ?_
              have e1 : alM X k k2 (j + 1) = 1 := if_pos ⟨by omega, by omega⟩
              exact ih (j + 1) _ _ _ (by omega) ⟨by omega, (by omega), hM, hS, by rw [e1]; exact lv_sub hl [2, 3, 4, 1, 0] rfl⟩
      · skip
        refine b_iconst hx hb dX5_areAlike_59 ?_
        exact g_zret hx hb hr hlocks hS (by decide +kernel) ⟨Nat.le_of_ble_eq_true rfl, Nat.le_of_ble_eq_true rfl⟩ (⟨0, up X 22 0 (0), Or.inl (⟨k, k2, by omega, (if_neg (by omega)).symm, rfl⟩), rfl, hM⟩) dX5_areAlike_60
set_option maxHeartbeats 4000000 in
set_option maxRecDepth 100000 in
theorem m_addMelody (l : Launch) (D : va_G) (ks : Nat → ClassId) (bx : Nat) (bm : Nat) (hbm : bx ≤ bm) (X : Nat → Nat → Int) (H : Heap) (hM : PM D ks bm X H) (hV : VS X) (u v2 t : Int) (hu : -2147483648 ≤ u ∧ u < 2147483648) (hv2 : -2147483648 ≤ v2 ∧ v2 < 2147483648) (ht : -9223372036854775808 ≤ t ∧ t < 9223372036854775808) : KM l yX5_addMelody wsX5_addMelody ({ frames := 2, cells := 0, slots := 0, locals := 42 } : Room) D ks bx [.ref bm, .int (z2 u), .int (z2 v2), .long (l2 t)] H (RM bm) (fun v H1 => ∃ (r : Int) (Y : Nat → Nat → Int), ro_addMelody X u v2 t r Y ∧ v = some (.int (z2 r)) ∧ PM D ks bm Y H1) (fun _ _ => False) := by
  refine KM.of (cc := cX5_addMelody) (maxL := 5) (ret := (some .int)) (by decide) rfl (Nat.le_of_ble_eq_true rfl) ?_
  intro p e s m below meth c hx hb hml hr hlocks hown hname hts hext hH0 hG ls hl
  subst hH0
  have hown : s.vm.findClass RX5 = some m.cls := hown
  have hS : va_S (AR (RM bm) s.heap.size) s.heap s.heap [] := va_S.rf
  have hl : lv_has ls 5 [(0, .ref bm), (1, .int (z2 (u))), (2, .int (z2 (v2))), (3, .long (l2 t))] := hl
  have inX5 : ∀ w ∈ wsX50, w ∈ wsX5_addMelody := by decide +kernel
  have b1 : 0 ≤ X 1 0 ∧ X 1 0 ≤ 12 := hV.1 1 0 (by decide) rfl
  refine lv_aload_n hx hb dX5_addMelody_0 rfl (lv_at hl 0 rfl) ?_
  refine lv_iload_n hx hb dX5_addMelody_1 rfl (lv_at hl 1 rfl) ?_
  refine g_run (vx_runS (As := [.int (z2 (u))]) (rest := [.ref bm]) ⟨hx, hb, hml, hown, hts⟩ (m_isHouse l D ks bx bm hbm _ (u) ⟨by omega, by omega⟩) (cwS 1 hts gX5_addMelody_X5_isHouse rfl rfl rfl (by decide +kernel) ⟨Nat.le_of_ble_eq_true rfl, Nat.le_of_ble_eq_true rfl⟩) (g_preS hG hS (rm_ge hbm)) rfl rfl hl.1 rfl (lv_room (Nat.le_of_ble_eq_true rfl)) dX5_addMelody_2 ⟨Nat.le_of_ble_eq_true rfl, Nat.le_of_ble_eq_true rfl⟩) hS (fun _ h => h) (fun _ _ _ _ _ h => h.elim) (fun v H1 locs hp hz9 hk9 hS => ?_)
  obtain ⟨rfl, hH9⟩ := hp
  obtain rfl := hH9.symm
  obtain ⟨iv_2, ev_2, ib_2⟩ : ∃ z : Int, z = (if 0 ≤ u ∧ u ≤ 7 then 1 else 0) ∧ (((0 ≤ u ∧ u ≤ 7) ∧ z = 1) ∨ (¬ (0 ≤ u ∧ u ≤ 7) ∧ z = 0)) := ⟨_, rfl, by split <;> omega⟩
  rw [← ev_2]
  refine W.eq (g2 := F0 m 5 ls [.int (z2 (iv_2)), .ref bm]) rfl ?_
  refine b_if_eq (tgt := 12) hx hb dX5_addMelody_5 (by decide) ⟨by omega, by omega⟩ (fun c_5 => ?_) (fun c_5 => ?_)
  · skip
    refine b_iconst hx hb dX5_addMelody_12 ?_
    refine g_put (C := RX5) (T := TX5) (N := 23) hx hb hts inX5 tyX5 tyX5_ok nmX5 hown hG hS hM.1 (Or.inl ⟨by omega, by omega⟩) rfl 22 (by decide) (by decide +kernel) rfl rfl (v := .int (z2 (1))) rfl rfl (Nat.le_of_ble_eq_true rfl) dX5_addMelody_13 (fun H locs he hz oq hS => ?_)
    have hM : PM D ks bm (up X 22 0 (1)) H := hM.own (k := 22) (by decide) he oq
    refine lv_aload_n hx hb dX5_addMelody_16 rfl (lv_at hl 0 rfl) ?_
    refine g_get (C := RX5) (T := TX5) (N := 23) hx hb hts inX5 hown hG hM.1 rfl 22 (by decide) (by decide +kernel) rfl (v := .int (z2 (1))) (congrArg (fun z => some (Value.int (z2 z))) (by simp [up] : (up X 22 0 (1)) 22 0 = 1)) dX5_addMelody_17 ?_
    refine b_if_le (tgt := 25) hx hb dX5_addMelody_20 (by decide) ⟨by omega, by omega⟩ (fun c => absurd c (by omega)) (fun _ => ?_)
    refine b_iconst hx hb dX5_addMelody_23 ?_
    exact g_iret hx hb hr hlocks hS ⟨Nat.le_of_ble_eq_true rfl, Nat.le_of_ble_eq_true rfl⟩ (⟨0, up X 22 0 (1), Or.inr (Or.inl (⟨by omega, rfl⟩)), rfl, hM⟩) dX5_addMelody_24
  · skip
    refine b_iconst hx hb dX5_addMelody_8 ?_
    refine lv_goto (tgt := 13) hx hb dX5_addMelody_9 (by decide) ?_
    refine g_put (C := RX5) (T := TX5) (N := 23) hx hb hts inX5 tyX5 tyX5_ok nmX5 hown hG hS hM.1 (Or.inl ⟨by omega, by omega⟩) rfl 22 (by decide) (by decide +kernel) rfl rfl (v := .int (z2 (0))) rfl rfl (Nat.le_of_ble_eq_true rfl) dX5_addMelody_13 (fun H locs he hz oq hS => ?_)
    have hM : PM D ks bm (up X 22 0 (0)) H := hM.own (k := 22) (by decide) he oq
    refine lv_aload_n hx hb dX5_addMelody_16 rfl (lv_at hl 0 rfl) ?_
    refine g_get (C := RX5) (T := TX5) (N := 23) hx hb hts inX5 hown hG hM.1 rfl 22 (by decide) (by decide +kernel) rfl (v := .int (z2 (0))) (congrArg (fun z => some (Value.int (z2 z))) (by simp [up] : (up X 22 0 (0)) 22 0 = 0)) dX5_addMelody_17 ?_
    refine b_if_le (tgt := 25) hx hb dX5_addMelody_20 (by decide) ⟨by omega, by omega⟩ (fun _ => ?_) (fun c => absurd c (by omega))
    refine lv_iload_n hx hb dX5_addMelody_25 rfl (lv_at hl 2 rfl) ?_
    refine b_iconst hx hb dX5_addMelody_26 ?_
    refine b_bipush hx hb dX5_addMelody_27 (by decide +kernel) ?_
    refine g_run (vx_runS (As := [.int (z2 (v2)), .int (z2 (1)), .int (z2 (12))]) (rest := []) ⟨hx, hb, hml, hown, hts⟩ (m_in l D ks bx bm _ (v2) (1) (12) ⟨⟨by omega, by omega⟩, ⟨by omega, by omega⟩, by omega, by omega⟩) (cwS 3 hts gX5_addMelody_X5_in rfl rfl rfl (by decide +kernel) ⟨Nat.le_of_ble_eq_true rfl, Nat.le_of_ble_eq_true rfl⟩) (g_preS hG hS (rm_ge hbm)) rfl rfl hl.1 rfl (lv_room (Nat.le_of_ble_eq_true rfl)) dX5_addMelody_29 ⟨Nat.le_of_ble_eq_true rfl, Nat.le_of_ble_eq_true rfl⟩) hS (fun _ h => h) (fun _ _ _ _ _ h => h.elim) (fun v H1 locs hp hz9 hk9 hS => ?_)
    obtain ⟨rfl, hH9⟩ := hp
    obtain rfl := hH9.symm
    obtain ⟨iv_29, ev_29, ib_29⟩ : ∃ z : Int, z = (if 1 ≤ v2 ∧ v2 ≤ 12 then 1 else 0) ∧ (((1 ≤ v2 ∧ v2 ≤ 12) ∧ z = 1) ∨ (¬ (1 ≤ v2 ∧ v2 ≤ 12) ∧ z = 0)) := ⟨_, rfl, by split <;> omega⟩
    rw [← ev_29]
    refine W.eq (g2 := F0 m 32 ls [.int (z2 (iv_29))]) rfl ?_
    refine b_if_eq (tgt := 51) hx hb dX5_addMelody_32 (by decide) ⟨by omega, by omega⟩ (fun c_32 => ?_) (fun c_32 => ?_)
    · skip
      refine lv_aload_n hx hb dX5_addMelody_51 rfl (lv_at hl 0 rfl) ?_
      refine b_iconst hx hb dX5_addMelody_52 ?_
      refine g_run (vx_runV (As := [.int (z2 (2))]) (rest := []) ⟨hx, hb, hml, hown, hts⟩ (m_fails l D ks bx bm hbm (up X 22 0 (0)) _ hM (vs_uf (hV) (by decide)) (2)) (cwV 1 hts gX5_addMelody_X5_fails rfl rfl rfl (by decide +kernel) ⟨Nat.le_of_ble_eq_true rfl, Nat.le_of_ble_eq_true rfl⟩) (g_preV (r := (RX5, TX5, 23)) hG hS (rm_ge hbm) hM.1 rfl) rfl rfl hl.1 rfl (lv_room (Nat.le_of_ble_eq_true rfl)) dX5_addMelody_53 ⟨Nat.le_of_ble_eq_true rfl, Nat.le_of_ble_eq_true rfl⟩) hS (fun _ h => h) (fun _ _ _ _ _ h => h.elim) (fun v H1 locs hp hz9 hk9 hS => ?_)
      obtain ⟨rfl, hM⟩ := hp
      refine W.eq (g2 := F0 m 56 ls [.int (z2 (0))]) rfl ?_
      exact g_iret hx hb hr hlocks hS ⟨Nat.le_of_ble_eq_true rfl, Nat.le_of_ble_eq_true rfl⟩ (⟨0, (up (up X 22 0 (0)) 22 0 (2)), Or.inr (Or.inr (Or.inl (⟨⟨by omega, fun ⟨cn9, h1, h2, h3⟩ => by first | omega | (obtain rfl : cn = cn9 := (by omega); omega)⟩, rfl⟩))), rfl, hM⟩) dX5_addMelody_56
    · skip
      obtain ⟨cn, rfl⟩ : ∃ cn : Nat, v2 = cn := ⟨(v2).toNat, by omega⟩
      have tb : 0 ≤ t → 0 ≤ t / 16 ^ cn ∧ t / 16 ^ cn ≤ t := fun h => ⟨Int.ediv_nonneg h (Int.le_of_lt (Int.pow_pos (by decide))), Int.ediv_le_self _ h⟩
      refine lv_lload_n hx hb dX5_addMelody_35 rfl (lv_at hl 3 rfl) ?_
      refine lv_lconst (v := l2 0) hx hb dX5_addMelody_36 (by decide +kernel) ?_
      refine W.lcmp hx hb dX5_addMelody_37 ?_
      obtain ⟨cv37, ecv37, bcv37⟩ : ∃ z : Int, z = (if 0 < t then 1 else if t = 0 then 0 else -1) ∧ -1 ≤ z ∧ z ≤ 1 := ⟨_, rfl, by (repeat' split) <;> omega, by (repeat' split) <;> omega⟩
      refine b_top (v := cv37) ((l2_cmp ⟨by omega, by omega⟩ ⟨by omega, by omega⟩).trans (by rw [ecv37])) ?_
      refine b_if_lt (tgt := 51) hx hb dX5_addMelody_38 (by decide) ⟨by omega, by omega⟩ (fun c_38 => ?_) (fun c_38 => ?_)
      · skip
        refine lv_aload_n hx hb dX5_addMelody_51 rfl (lv_at hl 0 rfl) ?_
        refine b_iconst hx hb dX5_addMelody_52 ?_
        refine g_run (vx_runV (As := [.int (z2 (2))]) (rest := []) ⟨hx, hb, hml, hown, hts⟩ (m_fails l D ks bx bm hbm (up X 22 0 (0)) _ hM (vs_uf (hV) (by decide)) (2)) (cwV 1 hts gX5_addMelody_X5_fails rfl rfl rfl (by decide +kernel) ⟨Nat.le_of_ble_eq_true rfl, Nat.le_of_ble_eq_true rfl⟩) (g_preV (r := (RX5, TX5, 23)) hG hS (rm_ge hbm) hM.1 rfl) rfl rfl hl.1 rfl (lv_room (Nat.le_of_ble_eq_true rfl)) dX5_addMelody_53 ⟨Nat.le_of_ble_eq_true rfl, Nat.le_of_ble_eq_true rfl⟩) hS (fun _ h => h) (fun _ _ _ _ _ h => h.elim) (fun v H1 locs hp hz9 hk9 hS => ?_)
        obtain ⟨rfl, hM⟩ := hp
        refine W.eq (g2 := F0 m 56 ls [.int (z2 (0))]) rfl ?_
        exact g_iret hx hb hr hlocks hS ⟨Nat.le_of_ble_eq_true rfl, Nat.le_of_ble_eq_true rfl⟩ (⟨0, (up (up X 22 0 (0)) 22 0 (2)), Or.inr (Or.inr (Or.inl (⟨⟨by omega, fun ⟨cn9, h1, h2, h3⟩ => by first | omega | (obtain rfl : cn = cn9 := (by omega); omega)⟩, rfl⟩))), rfl, hM⟩) dX5_addMelody_56
      · skip
        refine lv_lload_n hx hb dX5_addMelody_41 rfl (lv_at hl 3 rfl) ?_
        refine b_iconst hx hb dX5_addMelody_42 ?_
        refine lv_iload_n hx hb dX5_addMelody_43 rfl (lv_at hl 2 rfl) ?_
        refine b_imul hx hb dX5_addMelody_44 ?_
        refine lv_lshr hx hb dX5_addMelody_45 rfl ?_
        have tb2 := tb (by omega)
        refine b_topl (v := t / 16 ^ cn) (l2_tone ⟨by omega, by omega⟩ (by omega)) ?_
        refine lv_lconst (v := l2 0) hx hb dX5_addMelody_46 (by decide +kernel) ?_
        refine W.lcmp hx hb dX5_addMelody_47 ?_
        obtain ⟨cv47, ecv47, bcv47⟩ : ∃ z : Int, z = (if 0 < (t / 16 ^ cn) then 1 else if (t / 16 ^ cn) = 0 then 0 else -1) ∧ -1 ≤ z ∧ z ≤ 1 := ⟨_, rfl, by (repeat' split) <;> omega, by (repeat' split) <;> omega⟩
        refine b_top (v := cv47) ((l2_cmp ⟨by omega, by omega⟩ ⟨by omega, by omega⟩).trans (by rw [ecv47])) ?_
        refine b_if_eq (tgt := 57) hx hb dX5_addMelody_48 (by decide) ⟨by omega, by omega⟩ (fun c_48 => ?_) (fun c_48 => ?_)
        · skip
          refine lv_aload_n hx hb dX5_addMelody_57 rfl (lv_at hl 0 rfl) ?_
          have b_58 : 0 ≤ X 1 0 ∧ X 1 0 ≤ 12 := hV.1 1 _ (by decide) rfl
          refine g_get (C := RX5) (T := TX5) (N := 23) hx hb hts inX5 hown hG hM.1 rfl 1 (by decide) (by decide +kernel) rfl (v := .int (z2 (X 1 0))) rfl dX5_addMelody_58 ?_
          refine b_bipush hx hb dX5_addMelody_61 (by decide +kernel) ?_
          refine b_icmp_ne (tgt := 72) hx hb dX5_addMelody_63 (by decide) ⟨⟨by omega, by omega⟩, ⟨by omega, by omega⟩⟩ (fun c_63 => ?_) (fun c_63 => ?_)
          · skip
            refine lv_aload_n hx hb dX5_addMelody_72 rfl (lv_at hl 0 rfl) ?_
            refine g_get (C := RX5) (T := TX5) (N := 23) hx hb hts inX5 hown hG hM.1 rfl 2 (by decide) (by decide +kernel) rfl (v := .ref (bm + 1)) rfl dX5_addMelody_73 ?_
            refine lv_aload_n hx hb dX5_addMelody_76 rfl (lv_at hl 0 rfl) ?_
            have b_77 : 0 ≤ X 1 0 ∧ X 1 0 ≤ 12 := hV.1 1 _ (by decide) rfl
            refine g_get (C := RX5) (T := TX5) (N := 23) hx hb hts inX5 hown hG hM.1 rfl 1 (by decide) (by decide +kernel) rfl (v := .int (z2 (X 1 0))) rfl dX5_addMelody_77 ?_
            refine lv_iload_n hx hb dX5_addMelody_80 rfl (lv_at hl 1 rfl) ?_
            refine g_iast (n := 12) hx hb hG hS (f := fun i => z2 ((up X 22 0 (0)) 2 i)) (show ca D (bm + 1) (iA (ks 0) 12 (fun i => z2 ((up X 22 0 (0)) 2 i))) _ from hM.2.1 2 (sr_of (by decide))) (Or.inl ⟨by omega, by omega⟩) ((X 1 0).toNat) ⟨by omega, by omega, by decide⟩ dX5_addMelody_81 (fun H locs he hz oq hS => ?_)
            have hM : PM D ks bm (up (up X 22 0 (0)) 2 ((X 1 0).toNat) (u)) H := hM.row (f := 2) (sr_of (by decide)) he oq
            refine lv_aload_n hx hb dX5_addMelody_82 rfl (lv_at hl 0 rfl) ?_
            refine g_get (C := RX5) (T := TX5) (N := 23) hx hb hts inX5 hown hG hM.1 rfl 3 (by decide) (by decide +kernel) rfl (v := .ref (bm + 2)) rfl dX5_addMelody_83 ?_
            refine lv_aload_n hx hb dX5_addMelody_86 rfl (lv_at hl 0 rfl) ?_
            have b_87 : 0 ≤ X 1 0 ∧ X 1 0 ≤ 12 := hV.1 1 _ (by decide) rfl
            refine g_get (C := RX5) (T := TX5) (N := 23) hx hb hts inX5 hown hG hM.1 rfl 1 (by decide) (by decide +kernel) rfl (v := .int (z2 (X 1 0))) rfl dX5_addMelody_87 ?_
            refine lv_iload_n hx hb dX5_addMelody_90 rfl (lv_at hl 2 rfl) ?_
            refine g_iast (n := 12) hx hb hG hS (f := fun i => z2 ((up (up X 22 0 (0)) 2 ((X 1 0).toNat) (u)) 3 i)) (show ca D (bm + 2) (iA (ks 0) 12 (fun i => z2 ((up (up X 22 0 (0)) 2 ((X 1 0).toNat) (u)) 3 i))) _ from hM.2.1 3 (sr_of (by decide))) (Or.inl ⟨by omega, by omega⟩) ((X 1 0).toNat) ⟨by omega, by omega, by decide⟩ dX5_addMelody_91 (fun H locs he hz oq hS => ?_)
            have hM : PM D ks bm (up (up (up X 22 0 (0)) 2 ((X 1 0).toNat) (u)) 3 ((X 1 0).toNat) (((cn : Nat) : Int))) H := hM.row (f := 3) (sr_of (by decide)) he oq
            refine lv_aload_n hx hb dX5_addMelody_92 rfl (lv_at hl 0 rfl) ?_
            refine g_get (C := RX5) (T := TX5) (N := 23) hx hb hts inX5 hown hG hM.1 rfl 4 (by decide) (by decide +kernel) rfl (v := .ref (bm + 3)) rfl dX5_addMelody_93 ?_
            refine lv_aload_n hx hb dX5_addMelody_96 rfl (lv_at hl 0 rfl) ?_
            have b_97 : 0 ≤ X 1 0 ∧ X 1 0 ≤ 12 := hV.1 1 _ (by decide) rfl
            refine g_get (C := RX5) (T := TX5) (N := 23) hx hb hts inX5 hown hG hM.1 rfl 1 (by decide) (by decide +kernel) rfl (v := .int (z2 (X 1 0))) rfl dX5_addMelody_97 ?_
            refine lv_lload_n hx hb dX5_addMelody_100 rfl (lv_at hl 3 rfl) ?_
            refine g_last (n := 12) hx hb hG hS (f := fun i => l2 ((up (up (up X 22 0 (0)) 2 ((X 1 0).toNat) (u)) 3 ((X 1 0).toNat) (((cn : Nat) : Int))) 4 i)) hM.2.2 (Or.inl ⟨by omega, by omega⟩) ((X 1 0).toNat) ⟨by omega, by omega, by decide⟩ dX5_addMelody_101 (fun H locs he hz oq hS => ?_)
            have hM : PM D ks bm (up (up (up (up X 22 0 (0)) 2 ((X 1 0).toNat) (u)) 3 ((X 1 0).toNat) (((cn : Nat) : Int))) 4 ((X 1 0).toNat) (t)) H := hM.tone he oq
            refine lv_aload_n hx hb dX5_addMelody_102 rfl (lv_at hl 0 rfl) ?_
            refine lv_dup hx hb dX5_addMelody_103 rfl ?_
            have b_104 : 0 ≤ X 1 0 ∧ X 1 0 ≤ 12 := hV.1 1 _ (by decide) rfl
            refine g_get (C := RX5) (T := TX5) (N := 23) hx hb hts inX5 hown hG hM.1 rfl 1 (by decide) (by decide +kernel) rfl (v := .int (z2 (X 1 0))) rfl dX5_addMelody_104 ?_
            refine b_iconst hx hb dX5_addMelody_107 ?_
            refine b_iadd hx hb dX5_addMelody_108 ?_
            refine g_put (C := RX5) (T := TX5) (N := 23) hx hb hts inX5 tyX5 tyX5_ok nmX5 hown hG hS hM.1 (Or.inl ⟨by omega, by omega⟩) rfl 1 (by decide) (by decide +kernel) rfl rfl (v := .int (z2 ((X 1 0) + 1))) rfl rfl (Nat.le_of_ble_eq_true rfl) dX5_addMelody_109 (fun H locs he hz oq hS => ?_)
            have hM : PM D ks bm (up (up (up (up (up X 22 0 (0)) 2 ((X 1 0).toNat) (u)) 3 ((X 1 0).toNat) (((cn : Nat) : Int))) 4 ((X 1 0).toNat) (t)) 1 0 ((X 1 0) + 1)) H := hM.own (k := 1) (by decide) he oq
            refine lv_aload_n hx hb dX5_addMelody_112 rfl (lv_at hl 0 rfl) ?_
            refine g_get (C := RX5) (T := TX5) (N := 23) hx hb hts inX5 hown hG hM.1 rfl 1 (by decide) (by decide +kernel) rfl (v := .int (z2 ((X 1 0) + 1))) (congrArg (fun z => some (Value.int (z2 z))) (by simp [up] : (up (up (up (up (up X 22 0 (0)) 2 ((X 1 0).toNat) (u)) 3 ((X 1 0).toNat) (((cn : Nat) : Int))) 4 ((X 1 0).toNat) (t)) 1 0 ((X 1 0) + 1)) 1 0 = (X 1 0) + 1)) dX5_addMelody_113 ?_
            refine b_iconst hx hb dX5_addMelody_116 ?_
            refine b_isub hx hb dX5_addMelody_117 ?_
            exact g_iret hx hb hr hlocks hS ⟨Nat.le_of_ble_eq_true rfl, Nat.le_of_ble_eq_true rfl⟩ (⟨((X 1 0) + 1) - 1, up (up (up (up (up X 22 0 (0)) 2 ((X 1 0).toNat) (u)) 3 ((X 1 0).toNat) (((cn : Nat) : Int))) 4 ((X 1 0).toNat) (t)) 1 0 ((X 1 0) + 1), Or.inl (⟨(u).toNat, cn, by omega, by omega, rfl⟩), rfl, hM⟩) dX5_addMelody_118
          · skip
            refine lv_aload_n hx hb dX5_addMelody_66 rfl (lv_at hl 0 rfl) ?_
            refine b_iconst hx hb dX5_addMelody_67 ?_
            refine g_run (vx_runV (As := [.int (z2 (3))]) (rest := []) ⟨hx, hb, hml, hown, hts⟩ (m_fails l D ks bx bm hbm (up X 22 0 (0)) _ hM (vs_uf (hV) (by decide)) (3)) (cwV 1 hts gX5_addMelody_X5_fails rfl rfl rfl (by decide +kernel) ⟨Nat.le_of_ble_eq_true rfl, Nat.le_of_ble_eq_true rfl⟩) (g_preV (r := (RX5, TX5, 23)) hG hS (rm_ge hbm) hM.1 rfl) rfl rfl hl.1 rfl (lv_room (Nat.le_of_ble_eq_true rfl)) dX5_addMelody_68 ⟨Nat.le_of_ble_eq_true rfl, Nat.le_of_ble_eq_true rfl⟩) hS (fun _ h => h) (fun _ _ _ _ _ h => h.elim) (fun v H1 locs hp hz9 hk9 hS => ?_)
            obtain ⟨rfl, hM⟩ := hp
            refine W.eq (g2 := F0 m 71 ls [.int (z2 (0))]) rfl ?_
            exact g_iret hx hb hr hlocks hS ⟨Nat.le_of_ble_eq_true rfl, Nat.le_of_ble_eq_true rfl⟩ (⟨0, (up (up X 22 0 (0)) 22 0 (3)), Or.inr (Or.inr (Or.inr (⟨⟨(u).toNat, cn, by omega⟩, rfl⟩))), rfl, hM⟩) dX5_addMelody_71
        · skip
          refine lv_aload_n hx hb dX5_addMelody_51 rfl (lv_at hl 0 rfl) ?_
          refine b_iconst hx hb dX5_addMelody_52 ?_
          refine g_run (vx_runV (As := [.int (z2 (2))]) (rest := []) ⟨hx, hb, hml, hown, hts⟩ (m_fails l D ks bx bm hbm (up X 22 0 (0)) _ hM (vs_uf (hV) (by decide)) (2)) (cwV 1 hts gX5_addMelody_X5_fails rfl rfl rfl (by decide +kernel) ⟨Nat.le_of_ble_eq_true rfl, Nat.le_of_ble_eq_true rfl⟩) (g_preV (r := (RX5, TX5, 23)) hG hS (rm_ge hbm) hM.1 rfl) rfl rfl hl.1 rfl (lv_room (Nat.le_of_ble_eq_true rfl)) dX5_addMelody_53 ⟨Nat.le_of_ble_eq_true rfl, Nat.le_of_ble_eq_true rfl⟩) hS (fun _ h => h) (fun _ _ _ _ _ h => h.elim) (fun v H1 locs hp hz9 hk9 hS => ?_)
          obtain ⟨rfl, hM⟩ := hp
          refine W.eq (g2 := F0 m 56 ls [.int (z2 (0))]) rfl ?_
          exact g_iret hx hb hr hlocks hS ⟨Nat.le_of_ble_eq_true rfl, Nat.le_of_ble_eq_true rfl⟩ (⟨0, (up (up X 22 0 (0)) 22 0 (2)), Or.inr (Or.inr (Or.inl (⟨⟨by omega, fun ⟨cn9, h1, h2, h3⟩ => by first | omega | (obtain rfl : cn = cn9 := (by omega); omega)⟩, rfl⟩))), rfl, hM⟩) dX5_addMelody_56
