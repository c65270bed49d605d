/-! THE CLASS, module House: loops, spend, closeDay, finish. -/
set_option maxHeartbeats 4000000 in
set_option maxRecDepth 100000 in
theorem k_startBells (l : Launch) (D : va_G) (ks : Nat → ClassId) (bx : Nat) (ml : Nat → Nat) (X : Nat → Nat → Int) (H : Heap) (hP : PX D ks bx ml X H) (hV0 : VX X) {n : Nat} (hn : n < 8) (u : Int) (hu : 0 ≤ u ∧ u ≤ 1000000) : KM l yX2_startBells wsX2_startBells ({ frames := 1, cells := 0, slots := 0, locals := 21 } : Room) D ks bx [.ref (bx + 5 + 6 * n), .int (z2 u)] H (RX bx) (fun v H1 => v = some (.int (z2 (sbN X n 3))) ∧ PX D ks bx ml (sbX X n u 3) H1) (fun _ _ => False) := by
  refine KM.of (cc := cX2_startBells) (maxL := 7) (ret := (some .int)) (by decide) rfl (Nat.le_of_ble_eq_true rfl) ?_
  intro p e s m below meth c hx hb hml hr hlocks hown hname hts hext hH0 hG ls hl
  subst hH0
  have hown : s.vm.findClass RX2 = some m.cls := hown
  have hS : va_S (AR (RX bx) s.heap.size) s.heap s.heap [] := va_S.rf
  have hl : lv_has ls 7 [(0, .ref (bx + 5 + 6 * n)), (1, .int (z2 (u)))] := hl
  have inX0 : ∀ w ∈ wsX00, w ∈ wsX2_startBells := by decide +kernel
  have inX2 : ∀ w ∈ wsX20, w ∈ wsX2_startBells := by decide +kernel
  refine b_iconst hx hb dX2_startBells_0 ?_
  refine lv_istore_n (lv' := [(2, .int (z2 (0))), (0, .ref (bx + 5 + 6 * n)), (1, .int (z2 (u)))]) hx hb dX2_startBells_1 rfl hl (by decide) rfl (fun ls hl => ?_)
  refine lv_aload_n hx hb dX2_startBells_2 rfl (lv_at hl 1 rfl) ?_
  refine g_get (C := RX2) (T := TX2) (N := 13) hx hb hts inX2 hown hG (hP.hs hn) rfl 2 (by decide) (by decide +kernel) rfl (v := .ref (bx + 5 + 6 * n + 1)) rfl dX2_startBells_3 ?_
  refine lv_astore_n (lv' := [(3, .ref (bx + 5 + 6 * n + 1)), (2, .int (z2 (0))), (0, .ref (bx + 5 + 6 * n)), (1, .int (z2 (u)))]) hx hb dX2_startBells_6 rfl hl (by decide) rfl (fun ls hl => ?_)
  refine lv_aload_n hx hb dX2_startBells_7 rfl (lv_at hl 0 rfl) ?_
  refine g_alen (n := 3) hx hb hG 2 rfl (hP.ba hn) rfl dX2_startBells_8 ?_
  refine lv_istore (lv' := [(4, .int (z2 (3))), (3, .ref (bx + 5 + 6 * n + 1)), (2, .int (z2 (0))), (0, .ref (bx + 5 + 6 * n)), (1, .int (z2 (u)))]) hx hb dX2_startBells_9 hl (by decide) rfl (fun ls hl => ?_)
  refine b_iconst hx hb dX2_startBells_11 ?_
  refine lv_istore (lv' := [(5, .int (z2 (0))), (4, .int (z2 (3))), (3, .ref (bx + 5 + 6 * n + 1)), (2, .int (z2 (0))), (0, .ref (bx + 5 + 6 * n)), (1, .int (z2 (u)))]) hx hb dX2_startBells_12 hl (by decide) rfl (fun ls hl => ?_)
  refine lp_ms (σ := Nat) (fun k H locs ls => k ≤ 3 ∧ PX D ks bx ml (sbX X n u k) H ∧ va_S (AR (RX bx) s.heap.size) s.heap H locs ∧ lv_has ls 7 [(0, .ref (bx + 5 + 6 * n)), (1, .int (z2 (u))), (2, .int (z2 (sbN X n k))), (3, .ref (bx + 5 + 6 * n + 1)), (4, .int (z2 (3))), (5, .int (z2 (((k : Nat) : Int))))]) (fun k => 3 - k) (fun k H locs ls hI ih => ?_) 0 ⟨by omega, hP, hS, lv_sub hl [4, 5, 3, 2, 1, 0] rfl⟩
  obtain ⟨hkN, hP, hS, hl⟩ := hI
  have hV := vx_sb hV0 hu (h := n) k
  have f30 : sbX X n u k 30 (3 * n + k) = X 30 (3 * n + k) := sbX_f X n u (by decide) _ k
  have f32 : sbX X n u k 32 (3 * n + k) = X 32 (3 * n + k) := sbX_i X n u 32 _ k (by omega)
  refine lv_iload hx hb dX2_startBells_14 (lv_at hl 5 rfl) ?_
  refine lv_iload hx hb dX2_startBells_16 (lv_at hl 4 rfl) ?_
  refine b_icmp_ge (tgt := 67) hx hb dX2_startBells_18 (by decide) ⟨⟨by omega, by omega⟩, ⟨by omega, by omega⟩⟩ (fun c_18 => ?_) (fun c_18 => ?_)
  · skip
    refine lv_iload_n hx hb dX2_startBells_67 rfl (lv_at hl 2 rfl) ?_
    obtain rfl : k = 3 := by omega
    exact g_iret hx hb hr hlocks hS ⟨Nat.le_of_ble_eq_true rfl, Nat.le_of_ble_eq_true rfl⟩ (⟨rfl, hP⟩) dX2_startBells_68
  · skip
    refine lv_aload_n hx hb dX2_startBells_21 rfl (lv_at hl 3 rfl) ?_
    refine lv_iload hx hb dX2_startBells_22 (lv_at hl 5 rfl) ?_
    refine g_aald (n := 3) hx hb hG 2 rfl (hP.ba hn) k ⟨by omega, by omega, by decide⟩ dX2_startBells_24 (v := .ref (bx + 5 + 6 * n + 3 + k)) rfl ?_
    refine lv_astore (lv' := [(6, .ref (bx + 5 + 6 * n + 3 + k)), (0, .ref (bx + 5 + 6 * n)), (1, .int (z2 (u))), (2, .int (z2 (sbN X n k))), (3, .ref (bx + 5 + 6 * n + 1)), (4, .int (z2 (3))), (5, .int (z2 (((k : Nat) : Int))))]) hx hb dX2_startBells_25 hl (by decide) rfl (fun ls hl => ?_)
    refine lv_aload hx hb dX2_startBells_27 (lv_at hl 0 rfl) ?_
    have b_29 : -1 ≤ (sbX X n u k) 30 (3 * n + k) ∧ (sbX X n u k) 30 (3 * n + k) ≤ 11 := hV.1 30 _ rfl
    have b4_29 := hV.2.1 (3 * n + k)
    refine g_getN (C := RX0) (T := TX0) (N := 4) hx hb hts inX0 hown hG (hP.be hn (by omega)) rfl 0 (by decide) (List.mem_of_getElem? (i := 24) rfl) rfl (v := va_rf (mo ml ((sbX X n u k) 30 (3 * n + k)))) rfl dX2_startBells_29 ?_
    refine g_mo b_29.1 (fun c_29 => ?_) (fun k29 c_29 => ?_)
    · skip
      refine lv_ifnullN (tgt := 61) hx hb dX2_startBells_32 (by decide) ?_
      refine b_iinc (lv' := [(5, .int (z2 (((k : Nat) : Int) + 1))), (6, .ref (bx + 5 + 6 * n + 3 + k)), (0, .ref (bx + 5 + 6 * n)), (1, .int (z2 (u))), (2, .int (z2 (sbN X n k))), (3, .ref (bx + 5 + 6 * n + 1)), (4, .int (z2 (3)))]) hx hb dX2_startBells_61 hl (k := 6) rfl (by decide) rfl (fun ls hl => ?_)
      refine lv_goto (tgt := 14) hx hb dX2_startBells_64 (by decide) ?_
      have e2 : sbX X n u (k + 1) = sbX X n u k := if_neg (fun q => by omega)
      have e1 : sbN X n (k + 1) = sbN X n k := if_neg (fun q => by omega)
      exact ih (k + 1) _ _ _ (by omega) ⟨by omega, (by rw [e2]; exact hP), hS, by rw [e1]; exact lv_sub hl [2, 3, 4, 5, 6, 0] rfl⟩
    · skip
      have hk29 : (k29 : Int) < (sbX X n u k) 4 0 := by omega
      refine lv_ifnull hx hb dX2_startBells_32 ?_
      refine lv_aload hx hb dX2_startBells_35 (lv_at hl 0 rfl) ?_
      have b_37 : 0 ≤ ((sbX X n u k)) 32 (3 * n + k) ∧ ((sbX X n u k)) 32 (3 * n + k) ≤ 1 := hV.1 32 _ rfl
      refine g_getN (C := RX0) (T := TX0) (N := 4) hx hb hts inX0 hown hG (hP.be hn (by omega)) rfl 2 (by decide) (List.mem_of_getElem? (i := 22) rfl) rfl (v := .int (z2 (((sbX X n u k)) 32 (3 * n + k)))) rfl dX2_startBells_37 ?_
      refine b_if_ne (tgt := 61) hx hb dX2_startBells_40 (by decide) ⟨by omega, by omega⟩ (fun c_40 => ?_) (fun c_40 => ?_)
      · skip
        refine b_iinc (lv' := [(5, .int (z2 (((k : Nat) : Int) + 1))), (6, .ref (bx + 5 + 6 * n + 3 + k)), (0, .ref (bx + 5 + 6 * n)), (1, .int (z2 (u))), (2, .int (z2 (sbN X n k))), (3, .ref (bx + 5 + 6 * n + 1)), (4, .int (z2 (3)))]) hx hb dX2_startBells_61 hl (k := 6) rfl (by decide) rfl (fun ls hl => ?_)
        refine lv_goto (tgt := 14) hx hb dX2_startBells_64 (by decide) ?_
        have e2 : sbX X n u (k + 1) = sbX X n u k := if_neg (fun q => by omega)
        have e1 : sbN X n (k + 1) = sbN X n k := if_neg (fun q => by omega)
        exact ih (k + 1) _ _ _ (by omega) ⟨by omega, (by rw [e2]; exact hP), hS, by rw [e1]; exact lv_sub hl [2, 3, 4, 5, 6, 0] rfl⟩
      · skip
        refine lv_aload hx hb dX2_startBells_43 (lv_at hl 0 rfl) ?_
        refine lv_iload_n hx hb dX2_startBells_45 rfl (lv_at hl 2 rfl) ?_
        refine lv_aload hx hb dX2_startBells_46 (lv_at hl 0 rfl) ?_
        refine g_getN (C := RX0) (T := TX0) (N := 4) hx hb hts inX0 hown hG (hP.be hn (by omega)) rfl 0 (by decide) (List.mem_of_getElem? (i := 24) rfl) rfl (v := va_rf (mo ml ((sbX X n u k) 30 (3 * n + k)))) rfl dX2_startBells_48 ?_
        refine g_mo (by omega) (fun q => absurd q (by omega)) (fun km q => ?_)
        obtain rfl : k29 = km := by omega
        refine g_run (vx_runV (As := []) (rest := [.int (z2 (u)), .ref (bx + 5 + 6 * n + 3 + k)]) ⟨hx, hb, hml, hown, hts⟩ (k_lasts l D ks bx ml (sbX X n u k) _ hP hV hk29) (cwV 0 hts gX2_startBells_X3_lasts rfl rfl rfl (by decide +kernel) ⟨Nat.le_of_ble_eq_true rfl, Nat.le_of_ble_eq_true rfl⟩) (g_preV (r := (RX3, TX3, 4)) hG hS rx_ge (hP.me hk29) rfl) rfl rfl hl.1 rfl (lv_room (Nat.le_of_ble_eq_true rfl)) dX2_startBells_51 ⟨Nat.le_of_ble_eq_true rfl, Nat.le_of_ble_eq_true rfl⟩) hS (fun _ h => h) (fun _ _ _ _ _ h => h.elim) (fun v H1 locs hp hz9 hk9 hS => ?_)
        obtain ⟨rfl, hH9⟩ := hp
        obtain rfl := hH9.symm
        have ls_51 : 1 ≤ (sbX X n u k) 37 k29 ∧ (sbX X n u k) 37 k29 ≤ 12 := hV.1 37 _ rfl
        refine W.eq (g2 := F0 m 54 ls [.int (z2 (2 * (sbX X n u k) 37 k29)), .int (z2 (u)), .ref (bx + 5 + 6 * n + 3 + k)]) rfl ?_
        refine b_iadd hx hb dX2_startBells_54 ?_
        refine g_run (vx_runV (As := [.int (z2 (u + (2 * (sbX X n u k) 37 k29)))]) (rest := []) ⟨hx, hb, hml, hown, hts⟩ (k_ringUntil l D ks bx ml (sbX X n u k) _ hP hV hn (by omega) (u + (2 * (sbX X n u k) 37 k29))) (cwV 1 hts gX2_startBells_X0_ringUntil rfl rfl rfl (by decide +kernel) ⟨Nat.le_of_ble_eq_true rfl, Nat.le_of_ble_eq_true rfl⟩) (g_preV (r := (RX0, TX0, 4)) hG hS rx_ge (hP.be hn (by omega)) rfl) rfl rfl hl.1 rfl (lv_room (Nat.le_of_ble_eq_true rfl)) dX2_startBells_55 ⟨Nat.le_of_ble_eq_true rfl, Nat.le_of_ble_eq_true rfl⟩) hS (fun _ h => h) (fun _ _ _ _ _ h => h.elim) (fun v H1 locs hp hz9 hk9 hS => ?_)
        obtain ⟨rfl, hP⟩ := hp
        refine W.eq (g2 := F0 m 58 ls []) rfl ?_
        refine b_iinc (lv' := [(2, .int (z2 ((sbN X n k) + 1))), (6, .ref (bx + 5 + 6 * n + 3 + k)), (0, .ref (bx + 5 + 6 * n)), (1, .int (z2 (u))), (3, .ref (bx + 5 + 6 * n + 1)), (4, .int (z2 (3))), (5, .int (z2 (((k : Nat) : Int))))]) hx hb dX2_startBells_58 hl (k := 3) rfl (by decide) rfl (fun ls hl => ?_)
        refine b_iinc (lv' := [(5, .int (z2 (((k : Nat) : Int) + 1))), (2, .int (z2 ((sbN X n k) + 1))), (6, .ref (bx + 5 + 6 * n + 3 + k)), (0, .ref (bx + 5 + 6 * n)), (1, .int (z2 (u))), (3, .ref (bx + 5 + 6 * n + 1)), (4, .int (z2 (3)))]) hx hb dX2_startBells_61 hl (k := 6) rfl (by decide) rfl (fun ls hl => ?_)
        refine lv_goto (tgt := 14) hx hb dX2_startBells_64 (by decide) ?_
        have f37 : sbX X n u k 37 k29 = X 37 k29 := sbX_f X n u (by decide) _ k
        have f38 : (X 30 (3 * n + k)).toNat = k29 := by omega
        have e2 : sbX X n u (k + 1) = ruS (sbX X n u k) (3 * n + k) (u + (2 * (sbX X n u k) 37 k29)) := (if_pos ⟨by omega, by omega⟩).trans (by rw [f38, f37])
        have e1 : sbN X n (k + 1) = sbN X n k + 1 := if_pos ⟨by omega, by omega⟩
        exact ih (k + 1) _ _ _ (by omega) ⟨by omega, (by rw [e2]; exact hP), hS, by rw [e1]; exact lv_sub hl [3, 4, 1, 5, 6, 0] rfl⟩
set_option maxHeartbeats 4000000 in
set_option maxRecDepth 100000 in
theorem k_firstStop (l : Launch) (D : va_G) (ks : Nat → ClassId) (bx : Nat) (ml : Nat → Nat) (X : Nat → Nat → Int) (H : Heap) (hP : PX D ks bx ml X H) (hV : VX X) {n : Nat} (hn : n < 8) (u : Int) (hu : 0 ≤ u ∧ u ≤ 2000000) : KM l yX2_firstStop wsX2_firstStop ({ frames := 0, cells := 0, slots := 0, locals := 0 } : Room) D ks bx [.ref (bx + 5 + 6 * n), .int (z2 u)] H (RX bx) (fun v H1 => v = some (.int (z2 (fsS X n u 3))) ∧ H1 = H) (fun _ _ => False) := by
  refine KM.of (cc := cX2_firstStop) (maxL := 7) (ret := (some .int)) (by decide) rfl (Nat.le_of_ble_eq_true rfl) ?_
  intro p e s m below meth c hx hb hml hr hlocks hown hname hts hext hH0 hG ls hl
  subst hH0
  have hown : s.vm.findClass RX2 = some m.cls := hown
  have hS : va_S (AR (RX bx) s.heap.size) s.heap s.heap [] := va_S.rf
  have hl : lv_has ls 7 [(0, .ref (bx + 5 + 6 * n)), (1, .int (z2 (u)))] := hl
  have inX0 : ∀ w ∈ wsX00, w ∈ wsX2_firstStop := by decide +kernel
  have inX2 : ∀ w ∈ wsX20, w ∈ wsX2_firstStop := by decide +kernel
  refine lv_iload_n hx hb dX2_firstStop_0 rfl (lv_at hl 1 rfl) ?_
  refine lv_istore_n (lv' := [(2, .int (z2 (u))), (0, .ref (bx + 5 + 6 * n)), (1, .int (z2 (u)))]) hx hb dX2_firstStop_1 rfl hl (by decide) rfl (fun ls hl => ?_)
  refine lv_aload_n hx hb dX2_firstStop_2 rfl (lv_at hl 1 rfl) ?_
  refine g_get (C := RX2) (T := TX2) (N := 13) hx hb hts inX2 hown hG (hP.hs hn) rfl 2 (by decide) (by decide +kernel) rfl (v := .ref (bx + 5 + 6 * n + 1)) rfl dX2_firstStop_3 ?_
  refine lv_astore_n (lv' := [(3, .ref (bx + 5 + 6 * n + 1)), (2, .int (z2 (u))), (0, .ref (bx + 5 + 6 * n)), (1, .int (z2 (u)))]) hx hb dX2_firstStop_6 rfl hl (by decide) rfl (fun ls hl => ?_)
  refine lv_aload_n hx hb dX2_firstStop_7 rfl (lv_at hl 0 rfl) ?_
  refine g_alen (n := 3) hx hb hG 2 rfl (hP.ba hn) rfl dX2_firstStop_8 ?_
  refine lv_istore (lv' := [(4, .int (z2 (3))), (3, .ref (bx + 5 + 6 * n + 1)), (2, .int (z2 (u))), (0, .ref (bx + 5 + 6 * n)), (1, .int (z2 (u)))]) hx hb dX2_firstStop_9 hl (by decide) rfl (fun ls hl => ?_)
  refine b_iconst hx hb dX2_firstStop_11 ?_
  refine lv_istore (lv' := [(5, .int (z2 (0))), (4, .int (z2 (3))), (3, .ref (bx + 5 + 6 * n + 1)), (2, .int (z2 (u))), (0, .ref (bx + 5 + 6 * n)), (1, .int (z2 (u)))]) hx hb dX2_firstStop_12 hl (by decide) rfl (fun ls hl => ?_)
  refine lp_ms (σ := Nat) (fun k H locs ls => k ≤ 3 ∧ PX D ks bx ml X H ∧ H = s.heap ∧ va_S (AR (RX bx) s.heap.size) s.heap H locs ∧ lv_has ls 7 [(0, .ref (bx + 5 + 6 * n)), (1, .int (z2 (u))), (2, .int (z2 (fsS X n u k))), (3, .ref (bx + 5 + 6 * n + 1)), (4, .int (z2 (3))), (5, .int (z2 (((k : Nat) : Int))))]) (fun k => 3 - k) (fun k H locs ls hI ih => ?_) 0 ⟨by omega, hP, rfl, hS, lv_sub hl [4, 5, 3, 2, 1, 0] rfl⟩
  obtain ⟨hkN, hP, hHs, hS, hl⟩ := hI
  have fl := fs_le X n u k
  have fg := fs_ge hV n hu.1 k
  refine lv_iload hx hb dX2_firstStop_14 (lv_at hl 5 rfl) ?_
  refine lv_iload hx hb dX2_firstStop_16 (lv_at hl 4 rfl) ?_
  refine b_icmp_ge (tgt := 56) hx hb dX2_firstStop_18 (by decide) ⟨⟨by omega, by omega⟩, ⟨by omega, by omega⟩⟩ (fun c_18 => ?_) (fun c_18 => ?_)
  · skip
    refine lv_iload_n hx hb dX2_firstStop_56 rfl (lv_at hl 2 rfl) ?_
    obtain rfl : k = 3 := by omega
    exact g_iret hx hb hr hlocks hS ⟨Nat.le_of_ble_eq_true rfl, Nat.le_of_ble_eq_true rfl⟩ (⟨rfl, hHs⟩) dX2_firstStop_57
  · skip
    refine lv_aload_n hx hb dX2_firstStop_21 rfl (lv_at hl 3 rfl) ?_
    refine lv_iload hx hb dX2_firstStop_22 (lv_at hl 5 rfl) ?_
    refine g_aald (n := 3) hx hb hG 2 rfl (hP.ba hn) k ⟨by omega, by omega, by decide⟩ dX2_firstStop_24 (v := .ref (bx + 5 + 6 * n + 3 + k)) rfl ?_
    refine lv_astore (lv' := [(6, .ref (bx + 5 + 6 * n + 3 + k)), (0, .ref (bx + 5 + 6 * n)), (1, .int (z2 (u))), (2, .int (z2 (fsS X n u k))), (3, .ref (bx + 5 + 6 * n + 1)), (4, .int (z2 (3))), (5, .int (z2 (((k : Nat) : Int))))]) hx hb dX2_firstStop_25 hl (by decide) rfl (fun ls hl => ?_)
    refine lv_aload hx hb dX2_firstStop_27 (lv_at hl 0 rfl) ?_
    have b_29 : 0 ≤ X 32 (3 * n + k) ∧ X 32 (3 * n + k) ≤ 1 := hV.1 32 _ rfl
    refine g_getN (C := RX0) (T := TX0) (N := 4) hx hb hts inX0 hown hG (hP.be hn (by omega)) rfl 2 (by decide) (List.mem_of_getElem? (i := 22) rfl) rfl (v := .int (z2 (X 32 (3 * n + k)))) rfl dX2_firstStop_29 ?_
    refine b_if_eq (tgt := 50) hx hb dX2_firstStop_32 (by decide) ⟨by omega, by omega⟩ (fun c_32 => ?_) (fun c_32 => ?_)
    · skip
      refine b_iinc (lv' := [(5, .int (z2 (((k : Nat) : Int) + 1))), (6, .ref (bx + 5 + 6 * n + 3 + k)), (0, .ref (bx + 5 + 6 * n)), (1, .int (z2 (u))), (2, .int (z2 (fsS X n u k))), (3, .ref (bx + 5 + 6 * n + 1)), (4, .int (z2 (3)))]) hx hb dX2_firstStop_50 hl (k := 6) rfl (by decide) rfl (fun ls hl => ?_)
      refine lv_goto (tgt := 14) hx hb dX2_firstStop_53 (by decide) ?_
      have e1 : fsS X n u (k + 1) = fsS X n u k := if_neg (fun q => by omega)
      exact ih (k + 1) _ _ _ (by omega) ⟨by omega, hP, hHs, hS, by rw [e1]; exact lv_sub hl [2, 3, 4, 5, 6, 0] rfl⟩
    · skip
      refine lv_aload hx hb dX2_firstStop_35 (lv_at hl 0 rfl) ?_
      have b_37 : 0 ≤ X 33 (3 * n + k) ∧ X 33 (3 * n + k) ≤ 1000024 := hV.1 33 _ rfl
      refine g_getN (C := RX0) (T := TX0) (N := 4) hx hb hts inX0 hown hG (hP.be hn (by omega)) rfl 3 (by decide) (List.mem_of_getElem? (i := 25) rfl) rfl (v := .int (z2 (X 33 (3 * n + k)))) rfl dX2_firstStop_37 ?_
      refine lv_iload_n hx hb dX2_firstStop_40 rfl (lv_at hl 3 rfl) ?_
      refine b_icmp_ge (tgt := 50) hx hb dX2_firstStop_41 (by decide) ⟨⟨by omega, by omega⟩, ⟨by omega, by omega⟩⟩ (fun c_41 => ?_) (fun c_41 => ?_)
      · skip
        refine b_iinc (lv' := [(5, .int (z2 (((k : Nat) : Int) + 1))), (6, .ref (bx + 5 + 6 * n + 3 + k)), (0, .ref (bx + 5 + 6 * n)), (1, .int (z2 (u))), (2, .int (z2 (fsS X n u k))), (3, .ref (bx + 5 + 6 * n + 1)), (4, .int (z2 (3)))]) hx hb dX2_firstStop_50 hl (k := 6) rfl (by decide) rfl (fun ls hl => ?_)
        refine lv_goto (tgt := 14) hx hb dX2_firstStop_53 (by decide) ?_
        have e1 : fsS X n u (k + 1) = fsS X n u k := if_neg (fun q => by omega)
        exact ih (k + 1) _ _ _ (by omega) ⟨by omega, hP, hHs, hS, by rw [e1]; exact lv_sub hl [2, 3, 4, 5, 6, 0] rfl⟩
      · skip
        refine lv_aload hx hb dX2_firstStop_44 (lv_at hl 0 rfl) ?_
        have b_46 : 0 ≤ X 33 (3 * n + k) ∧ X 33 (3 * n + k) ≤ 1000024 := hV.1 33 _ rfl
        refine g_getN (C := RX0) (T := TX0) (N := 4) hx hb hts inX0 hown hG (hP.be hn (by omega)) rfl 3 (by decide) (List.mem_of_getElem? (i := 25) rfl) rfl (v := .int (z2 (X 33 (3 * n + k)))) rfl dX2_firstStop_46 ?_
        refine lv_istore_n (lv' := [(2, .int (z2 (X 33 (3 * n + k)))), (6, .ref (bx + 5 + 6 * n + 3 + k)), (0, .ref (bx + 5 + 6 * n)), (1, .int (z2 (u))), (3, .ref (bx + 5 + 6 * n + 1)), (4, .int (z2 (3))), (5, .int (z2 (((k : Nat) : Int))))]) hx hb dX2_firstStop_49 rfl hl (by decide) rfl (fun ls hl => ?_)
        refine b_iinc (lv' := [(5, .int (z2 (((k : Nat) : Int) + 1))), (2, .int (z2 (X 33 (3 * n + k)))), (6, .ref (bx + 5 + 6 * n + 3 + k)), (0, .ref (bx + 5 + 6 * n)), (1, .int (z2 (u))), (3, .ref (bx + 5 + 6 * n + 1)), (4, .int (z2 (3)))]) hx hb dX2_firstStop_50 hl (k := 6) rfl (by decide) rfl (fun ls hl => ?_)
        refine lv_goto (tgt := 14) hx hb dX2_firstStop_53 (by decide) ?_
        have e1 : fsS X n u (k + 1) = X 33 (3 * n + k) := if_pos ⟨by omega, by omega⟩
        exact ih (k + 1) _ _ _ (by omega) ⟨by omega, hP, hHs, hS, by rw [e1]; exact lv_sub hl [3, 4, 1, 5, 6, 0] rfl⟩
set_option maxHeartbeats 4000000 in
set_option maxRecDepth 100000 in
theorem k_stopEnded (l : Launch) (D : va_G) (ks : Nat → ClassId) (bx : Nat) (ml : Nat → Nat) (X : Nat → Nat → Int) (H : Heap) (hP : PX D ks bx ml X H) (hV0 : VX X) {n : Nat} (hn : n < 8) (u : Int) (hu : 0 ≤ u ∧ u ≤ 2000000) : KM l yX2_stopEndedBells wsX2_stopEndedBells ({ frames := 0, cells := 0, slots := 0, locals := 0 } : Room) D ks bx [.ref (bx + 5 + 6 * n), .int (z2 u)] H (RX bx) (fun v H1 => v = none ∧ PX D ks bx ml (seS X n u 3) H1) (fun _ _ => False) := by
  refine KM.of (cc := cX2_stopEndedBells) (maxL := 6) (ret := none) (by decide) rfl (Nat.le_of_ble_eq_true rfl) ?_
  intro p e s m below meth c hx hb hml hr hlocks hown hname hts hext hH0 hG ls hl
  subst hH0
  have hown : s.vm.findClass RX2 = some m.cls := hown
  have hS : va_S (AR (RX bx) s.heap.size) s.heap s.heap [] := va_S.rf
  have hl : lv_has ls 6 [(0, .ref (bx + 5 + 6 * n)), (1, .int (z2 (u)))] := hl
  have inX0 : ∀ w ∈ wsX00, w ∈ wsX2_stopEndedBells := by decide +kernel
  have inX2 : ∀ w ∈ wsX20, w ∈ wsX2_stopEndedBells := by decide +kernel
  refine lv_aload_n hx hb dX2_stopEndedBells_0 rfl (lv_at hl 0 rfl) ?_
  refine g_get (C := RX2) (T := TX2) (N := 13) hx hb hts inX2 hown hG (hP.hs hn) rfl 2 (by decide) (by decide +kernel) rfl (v := .ref (bx + 5 + 6 * n + 1)) rfl dX2_stopEndedBells_1 ?_
  refine lv_astore_n (lv' := [(2, .ref (bx + 5 + 6 * n + 1)), (0, .ref (bx + 5 + 6 * n)), (1, .int (z2 (u)))]) hx hb dX2_stopEndedBells_4 rfl hl (by decide) rfl (fun ls hl => ?_)
  refine lv_aload_n hx hb dX2_stopEndedBells_5 rfl (lv_at hl 0 rfl) ?_
  refine g_alen (n := 3) hx hb hG 2 rfl (hP.ba hn) rfl dX2_stopEndedBells_6 ?_
  refine lv_istore_n (lv' := [(3, .int (z2 (3))), (2, .ref (bx + 5 + 6 * n + 1)), (0, .ref (bx + 5 + 6 * n)), (1, .int (z2 (u)))]) hx hb dX2_stopEndedBells_7 rfl hl (by decide) rfl (fun ls hl => ?_)
  refine b_iconst hx hb dX2_stopEndedBells_8 ?_
  refine lv_istore (lv' := [(4, .int (z2 (0))), (3, .int (z2 (3))), (2, .ref (bx + 5 + 6 * n + 1)), (0, .ref (bx + 5 + 6 * n)), (1, .int (z2 (u)))]) hx hb dX2_stopEndedBells_9 hl (by decide) rfl (fun ls hl => ?_)
  refine lp_ms (σ := Nat) (fun k H locs ls => k ≤ 3 ∧ PX D ks bx ml (seS X n u k) H ∧ va_S (AR (RX bx) s.heap.size) s.heap H locs ∧ lv_has ls 6 [(0, .ref (bx + 5 + 6 * n)), (1, .int (z2 (u))), (2, .ref (bx + 5 + 6 * n + 1)), (3, .int (z2 (3))), (4, .int (z2 (((k : Nat) : Int))))]) (fun k => 3 - k) (fun k H locs ls hI ih => ?_) 0 ⟨by omega, hP, hS, lv_sub hl [3, 4, 2, 1, 0] rfl⟩
  obtain ⟨hkN, hP, hS, hl⟩ := hI
  have hV := vx_se hV0 n u k
  have f33 : seS X n u k 33 (3 * n + k) = X 33 (3 * n + k) := seS_f X n u (by decide) _ k
  refine lv_iload hx hb dX2_stopEndedBells_11 (lv_at hl 4 rfl) ?_
  refine lv_iload_n hx hb dX2_stopEndedBells_13 rfl (lv_at hl 3 rfl) ?_
  refine b_icmp_ge (tgt := 44) hx hb dX2_stopEndedBells_14 (by decide) ⟨⟨by omega, by omega⟩, ⟨by omega, by omega⟩⟩ (fun c_14 => ?_) (fun c_14 => ?_)
  · skip
    obtain rfl : k = 3 := by omega
    exact g_vret hx hb hr hlocks hS ⟨Nat.le_of_ble_eq_true rfl, Nat.le_of_ble_eq_true rfl⟩ (⟨rfl, hP⟩) dX2_stopEndedBells_44
  · skip
    refine lv_aload_n hx hb dX2_stopEndedBells_17 rfl (lv_at hl 2 rfl) ?_
    refine lv_iload hx hb dX2_stopEndedBells_18 (lv_at hl 4 rfl) ?_
    refine g_aald (n := 3) hx hb hG 2 rfl (hP.ba hn) k ⟨by omega, by omega, by decide⟩ dX2_stopEndedBells_20 (v := .ref (bx + 5 + 6 * n + 3 + k)) rfl ?_
    refine lv_astore (lv' := [(5, .ref (bx + 5 + 6 * n + 3 + k)), (0, .ref (bx + 5 + 6 * n)), (1, .int (z2 (u))), (2, .ref (bx + 5 + 6 * n + 1)), (3, .int (z2 (3))), (4, .int (z2 (((k : Nat) : Int))))]) hx hb dX2_stopEndedBells_21 hl (by decide) rfl (fun ls hl => ?_)
    refine lv_aload hx hb dX2_stopEndedBells_23 (lv_at hl 0 rfl) ?_
    have b_25 : 0 ≤ ((seS X n u k)) 33 (3 * n + k) ∧ ((seS X n u k)) 33 (3 * n + k) ≤ 1000024 := hV.1 33 _ rfl
    refine g_getN (C := RX0) (T := TX0) (N := 4) hx hb hts inX0 hown hG (hP.be hn (by omega)) rfl 3 (by decide) (List.mem_of_getElem? (i := 25) rfl) rfl (v := .int (z2 (((seS X n u k)) 33 (3 * n + k)))) rfl dX2_stopEndedBells_25 ?_
    refine lv_iload_n hx hb dX2_stopEndedBells_28 rfl (lv_at hl 2 rfl) ?_
    refine b_icmp_gt (tgt := 38) hx hb dX2_stopEndedBells_29 (by decide) ⟨⟨by omega, by omega⟩, ⟨by omega, by omega⟩⟩ (fun c_29 => ?_) (fun c_29 => ?_)
    · skip
      refine b_iinc (lv' := [(4, .int (z2 (((k : Nat) : Int) + 1))), (5, .ref (bx + 5 + 6 * n + 3 + k)), (0, .ref (bx + 5 + 6 * n)), (1, .int (z2 (u))), (2, .ref (bx + 5 + 6 * n + 1)), (3, .int (z2 (3)))]) hx hb dX2_stopEndedBells_38 hl (k := 5) rfl (by decide) rfl (fun ls hl => ?_)
      refine lv_goto (tgt := 11) hx hb dX2_stopEndedBells_41 (by decide) ?_
      have e2 : seS X n u (k + 1) = _ := if_neg (fun q => by omega)
      exact ih (k + 1) _ _ _ (by omega) ⟨by omega, (by rw [e2]; exact hP), hS, lv_sub hl [2, 3, 4, 5, 0] rfl⟩
    · skip
      refine lv_aload hx hb dX2_stopEndedBells_32 (lv_at hl 0 rfl) ?_
      refine b_iconst hx hb dX2_stopEndedBells_34 ?_
      refine g_putN (C := RX0) (T := TX0) (N := 4) hx hb hts inX0 tyX0 tyX0_ok nmX0 hown hG hS (hP.be hn (by omega)) (Or.inl ⟨by omega, by omega⟩) rfl 2 (by decide) (List.mem_of_getElem? (i := 22) rfl) rfl rfl (v := .int (z2 (0))) (by decide +kernel) (by decide +kernel) (Nat.le_of_ble_eq_true rfl) dX2_stopEndedBells_35 (fun H locs he hz oq hS => ?_)
      have hP : PX D ks bx ml (up ((seS X n u k)) 32 (3 * n + k) (0)) H := hP.bell (k := 2) hn (by omega) ⟨by decide, by decide⟩ he oq
      refine b_iinc (lv' := [(4, .int (z2 (((k : Nat) : Int) + 1))), (5, .ref (bx + 5 + 6 * n + 3 + k)), (0, .ref (bx + 5 + 6 * n)), (1, .int (z2 (u))), (2, .ref (bx + 5 + 6 * n + 1)), (3, .int (z2 (3)))]) hx hb dX2_stopEndedBells_38 hl (k := 5) rfl (by decide) rfl (fun ls hl => ?_)
      refine lv_goto (tgt := 11) hx hb dX2_stopEndedBells_41 (by decide) ?_
      have e2 : seS X n u (k + 1) = _ := if_pos (by omega)
      exact ih (k + 1) _ _ _ (by omega) ⟨by omega, (by rw [e2]; exact hP), hS, lv_sub hl [2, 3, 4, 5, 0] rfl⟩
set_option maxHeartbeats 4000000 in
set_option maxRecDepth 100000 in
theorem k_spend (l : Launch) (D : va_G) (ks : Nat → ClassId) (bx : Nat) (ml : Nat → Nat) (X : Nat → Nat → Int) (H : Heap) (hP : PX D ks bx ml X H) (hV : VX X) {n : Nat} (hn : n < 8) (u v2 : Int) (hr : (0 ≤ u ∧ u ≤ 1000000) ∧ 0 ≤ v2 ∧ v2 ≤ 1000001) : KM l yX2_spend wsX2_spend ({ frames := 3, cells := 0, slots := 0, locals := 71 } : Room) D ks bx [.ref (bx + 5 + 6 * n), .int (z2 u), .int (z2 v2)] H (RX bx) (fun v H1 => v = none ∧ PX D ks bx ml (spS X n u v2) H1) (fun _ _ => False) := by
  refine KM.of (cc := cX2_spend) (maxL := 4) (ret := none) (by decide) rfl (Nat.le_of_ble_eq_true rfl) ?_
  intro p e s m below meth c hx hb hml hr hlocks hown hname hts hext hH0 hG ls hl
  subst hH0
  have hown : s.vm.findClass RX2 = some m.cls := hown
  have hS : va_S (AR (RX bx) s.heap.size) s.heap s.heap [] := va_S.rf
  have hl : lv_has ls 4 [(0, .ref (bx + 5 + 6 * n)), (1, .int (z2 (u))), (2, .int (z2 (v2)))] := hl
  have inX2 : ∀ w ∈ wsX20, w ∈ wsX2_spend := by decide +kernel
  refine lv_aload_n hx hb dX2_spend_0 rfl (lv_at hl 0 rfl) ?_
  refine g_run (vx_runV (As := []) (rest := []) ⟨hx, hb, hml, hown, hts⟩ (k_ringingSet l D ks bx ml X _ hP hV hn) (cwV 0 hts gX2_spend_X2_ringingSet rfl rfl rfl (by decide +kernel) ⟨Nat.le_of_ble_eq_true rfl, Nat.le_of_ble_eq_true rfl⟩) (g_preV (r := (RX2, TX2, 13)) hG hS rx_ge (hP.hs hn) rfl) rfl rfl hl.1 rfl (lv_room (Nat.le_of_ble_eq_true rfl)) dX2_spend_1 ⟨Nat.le_of_ble_eq_true rfl, Nat.le_of_ble_eq_true rfl⟩) hS (fun _ h => h) (fun _ _ _ _ _ h => h.elim) (fun v H1 locs hp hz9 hk9 hS => ?_)
  obtain ⟨rfl, hH9⟩ := hp
  obtain rfl := hH9.symm
  have rb_1 := rsS_b X n
  refine W.eq (g2 := F0 m 4 ls [.int (z2 (rsS X n))]) rfl ?_
  refine b_if_ne (tgt := 8) hx hb dX2_spend_4 (by decide) ⟨by omega, by omega⟩ (fun c_4 => ?_) (fun c_4 => ?_)
  · skip
    refine lv_aload_n hx hb dX2_spend_8 rfl (lv_at hl 0 rfl) ?_
    refine lv_iload_n hx hb dX2_spend_9 rfl (lv_at hl 1 rfl) ?_
    refine lv_iload_n hx hb dX2_spend_10 rfl (lv_at hl 2 rfl) ?_
    refine g_run (vx_runV (As := [.int (z2 (u)), .int (z2 (v2))]) (rest := []) ⟨hx, hb, hml, hown, hts⟩ (k_quietSeconds l D ks bx ml X _ hP hV hn (u) (v2) ⟨⟨by omega, by omega⟩, by omega, by omega⟩) (cwV 2 hts gX2_spend_X2_quietSeconds rfl rfl rfl (by decide +kernel) ⟨Nat.le_of_ble_eq_true rfl, Nat.le_of_ble_eq_true rfl⟩) (g_preV (r := (RX2, TX2, 13)) hG hS rx_ge (hP.hs hn) rfl) rfl rfl hl.1 rfl (lv_room (Nat.le_of_ble_eq_true rfl)) dX2_spend_11 ⟨Nat.le_of_ble_eq_true rfl, Nat.le_of_ble_eq_true rfl⟩) hS (fun _ h => h) (fun _ _ _ _ _ h => h.elim) (fun v H1 locs hp hz9 hk9 hS => ?_)
    obtain ⟨rfl, hH9⟩ := hp
    obtain rfl := hH9.symm
    have qb_11 := qS_b (X := X) hV n (u) (v2)
    refine W.eq (g2 := F0 m 14 ls [.int (z2 (qS X n (u) (v2)))]) rfl ?_
    refine lv_istore_n (lv' := [(3, .int (z2 (qS X n (u) (v2)))), (0, .ref (bx + 5 + 6 * n)), (1, .int (z2 (u))), (2, .int (z2 (v2)))]) hx hb dX2_spend_14 rfl hl (by decide) rfl (fun ls hl => ?_)
    refine lv_aload_n hx hb dX2_spend_15 rfl (lv_at hl 1 rfl) ?_
    refine lv_dup hx hb dX2_spend_16 rfl ?_
    refine g_get (C := RX2) (T := TX2) (N := 13) hx hb hts inX2 hown hG (hP.hs hn) rfl 8 (by decide) (by decide +kernel) rfl (v := .int (z2 (X 18 n))) rfl dX2_spend_17 ?_
    refine lv_iload_n hx hb dX2_spend_20 rfl (lv_at hl 3 rfl) ?_
    refine lv_iload_n hx hb dX2_spend_21 rfl (lv_at hl 2 rfl) ?_
    refine b_isub hx hb dX2_spend_22 ?_
    refine b_iadd hx hb dX2_spend_23 ?_
    refine g_put (C := RX2) (T := TX2) (N := 13) hx hb hts inX2 tyX2 tyX2_ok nmX2 hown hG hS (hP.hs hn) (Or.inl ⟨by omega, by omega⟩) rfl 8 (by decide) (by decide +kernel) rfl rfl (v := .int (z2 ((X 18 n) + (v2 - u)))) rfl rfl (Nat.le_of_ble_eq_true rfl) dX2_spend_24 (fun H locs he hz oq hS => ?_)
    have hP : PX D ks bx ml (up X 18 n ((X 18 n) + (v2 - u))) H := hP.house (k := 8) hn ⟨by decide, by decide⟩ he oq
    refine lv_aload_n hx hb dX2_spend_27 rfl (lv_at hl 1 rfl) ?_
    refine lv_dup hx hb dX2_spend_28 rfl ?_
    refine g_get (C := RX2) (T := TX2) (N := 13) hx hb hts inX2 hown hG (hP.hs hn) rfl 9 (by decide) (by decide +kernel) rfl (v := .int (z2 (X 19 n))) rfl dX2_spend_29 ?_
    refine lv_iload_n hx hb dX2_spend_32 rfl (lv_at hl 0 rfl) ?_
    refine b_iadd hx hb dX2_spend_33 ?_
    refine g_put (C := RX2) (T := TX2) (N := 13) hx hb hts inX2 tyX2 tyX2_ok nmX2 hown hG hS (hP.hs hn) (Or.inl ⟨by omega, by omega⟩) rfl 9 (by decide) (by decide +kernel) rfl rfl (v := .int (z2 ((X 19 n) + (qS X n (u) (v2))))) rfl rfl (Nat.le_of_ble_eq_true rfl) dX2_spend_34 (fun H locs he hz oq hS => ?_)
    have hP : PX D ks bx ml (up (up X 18 n ((X 18 n) + (v2 - u))) 19 n ((X 19 n) + (qS X n (u) (v2)))) H := hP.house (k := 9) hn ⟨by decide, by decide⟩ he oq
    refine lv_iload_n hx hb dX2_spend_37 rfl (lv_at hl 0 rfl) ?_
    refine b_if_le (tgt := 46) hx hb dX2_spend_38 (by decide) ⟨by omega, by omega⟩ (fun c_38 => ?_) (fun c_38 => ?_)
    · skip
      exact g_vret hx hb hr hlocks hS ⟨Nat.le_of_ble_eq_true rfl, Nat.le_of_ble_eq_true rfl⟩ (⟨rfl, by unfold spS; rw [if_neg (by omega), if_neg (by omega)]; exact hP⟩) dX2_spend_46
    · skip
      refine lv_aload_n hx hb dX2_spend_41 rfl (lv_at hl 1 rfl) ?_
      refine b_iconst hx hb dX2_spend_42 ?_
      refine g_put (C := RX2) (T := TX2) (N := 13) hx hb hts inX2 tyX2 tyX2_ok nmX2 hown hG hS (hP.hs hn) (Or.inl ⟨by omega, by omega⟩) rfl 12 (by decide) (by decide +kernel) rfl rfl (v := .int (z2 (0))) (by decide +kernel) (by decide +kernel) (Nat.le_of_ble_eq_true rfl) dX2_spend_43 (fun H locs he hz oq hS => ?_)
      have hP : PX D ks bx ml (up (up (up X 18 n ((X 18 n) + (v2 - u))) 19 n ((X 19 n) + (qS X n (u) (v2)))) 22 n (0)) H := hP.house (k := 12) hn ⟨by decide, by decide⟩ he oq
      exact g_vret hx hb hr hlocks hS ⟨Nat.le_of_ble_eq_true rfl, Nat.le_of_ble_eq_true rfl⟩ (⟨rfl, by unfold spS; rw [if_neg (by omega), if_pos (by omega)]; exact hP⟩) dX2_spend_46
  · skip
    exact g_vret hx hb hr hlocks hS ⟨Nat.le_of_ble_eq_true rfl, Nat.le_of_ble_eq_true rfl⟩ (⟨rfl, by unfold spS; rw [if_pos (by omega)]; exact hP⟩) dX2_spend_7
set_option maxHeartbeats 4000000 in
set_option maxRecDepth 100000 in
theorem k_closeDay (l : Launch) (D : va_G) (ks : Nat → ClassId) (bx : Nat) (ml : Nat → Nat) (X : Nat → Nat → Int) (H : Heap) (hP : PX D ks bx ml X H) (hV : VX X) {n : Nat} (hn : n < 8) : KM l yX2_closeDay wsX2_closeDay ({ frames := 0, cells := 0, slots := 0, locals := 0 } : Room) D ks bx [.ref (bx + 5 + 6 * n)] H (RX bx) (fun v H1 => v = none ∧ PX D ks bx ml (cdS X n) H1) (fun _ _ => False) := by
  refine KM.of (cc := cX2_closeDay) (maxL := 1) (ret := none) (by decide) rfl (Nat.le_of_ble_eq_true rfl) ?_
  intro p e s m below meth c hx hb hml hr hlocks hown hname hts hext hH0 hG ls hl
  subst hH0
  have hown : s.vm.findClass RX2 = some m.cls := hown
  have hS : va_S (AR (RX bx) s.heap.size) s.heap s.heap [] := va_S.rf
  have hl : lv_has ls 1 [(0, .ref (bx + 5 + 6 * n))] := hl
  have inX2 : ∀ w ∈ wsX20, w ∈ wsX2_closeDay := by decide +kernel
  refine lv_aload_n hx hb dX2_closeDay_0 rfl (lv_at hl 0 rfl) ?_
  have b_1 : 0 ≤ X 22 n ∧ X 22 n ≤ 1 := hV.1 22 _ rfl
  refine g_get (C := RX2) (T := TX2) (N := 13) hx hb hts inX2 hown hG (hP.hs hn) rfl 12 (by decide) (by decide +kernel) rfl (v := .int (z2 (X 22 n))) rfl dX2_closeDay_1 ?_
  refine b_if_eq (tgt := 17) hx hb dX2_closeDay_4 (by decide) ⟨by omega, by omega⟩ (fun c_4 => ?_) (fun c_4 => ?_)
  · skip
    refine lv_aload_n hx hb dX2_closeDay_17 rfl (lv_at hl 0 rfl) ?_
    refine lv_dup hx hb dX2_closeDay_18 rfl ?_
    refine g_get (C := RX2) (T := TX2) (N := 13) hx hb hts inX2 hown hG (hP.hs hn) rfl 7 (by decide) (by decide +kernel) rfl (v := .int (z2 (X 17 n))) rfl dX2_closeDay_19 ?_
    refine b_iconst hx hb dX2_closeDay_22 ?_
    refine lv_aload_n hx hb dX2_closeDay_23 rfl (lv_at hl 0 rfl) ?_
    refine g_get (C := RX2) (T := TX2) (N := 13) hx hb hts inX2 hown hG (hP.hs hn) rfl 11 (by decide) (by decide +kernel) rfl (v := .int (z2 (X 21 n))) rfl dX2_closeDay_24 ?_
    refine b_imul hx hb dX2_closeDay_27 ?_
    refine b_isub hx hb dX2_closeDay_28 ?_
    refine g_put (C := RX2) (T := TX2) (N := 13) hx hb hts inX2 tyX2 tyX2_ok nmX2 hown hG hS (hP.hs hn) (Or.inl ⟨by omega, by omega⟩) rfl 7 (by decide) (by decide +kernel) rfl rfl (v := .int (z2 ((X 17 n) - (3 * (X 21 n))))) rfl rfl (Nat.le_of_ble_eq_true rfl) dX2_closeDay_29 (fun H locs he hz oq hS => ?_)
    have hP : PX D ks bx ml (up X 17 n ((X 17 n) - (3 * (X 21 n)))) H := hP.house (k := 7) hn ⟨by decide, by decide⟩ he oq
    refine lv_aload_n hx hb dX2_closeDay_32 rfl (lv_at hl 0 rfl) ?_
    refine b_iconst hx hb dX2_closeDay_33 ?_
    refine g_put (C := RX2) (T := TX2) (N := 13) hx hb hts inX2 tyX2 tyX2_ok nmX2 hown hG hS (hP.hs hn) (Or.inl ⟨by omega, by omega⟩) rfl 12 (by decide) (by decide +kernel) rfl rfl (v := .int (z2 (1))) (by decide +kernel) (by decide +kernel) (Nat.le_of_ble_eq_true rfl) dX2_closeDay_34 (fun H locs he hz oq hS => ?_)
    have hP : PX D ks bx ml (up (up X 17 n ((X 17 n) - (3 * (X 21 n)))) 22 n (1)) H := hP.house (k := 12) hn ⟨by decide, by decide⟩ he oq
    refine lv_aload_n hx hb dX2_closeDay_37 rfl (lv_at hl 0 rfl) ?_
    refine b_iconst hx hb dX2_closeDay_38 ?_
    refine g_put (C := RX2) (T := TX2) (N := 13) hx hb hts inX2 tyX2 tyX2_ok nmX2 hown hG hS (hP.hs hn) (Or.inl ⟨by omega, by omega⟩) rfl 11 (by decide) (by decide +kernel) rfl rfl (v := .int (z2 (0))) rfl rfl (Nat.le_of_ble_eq_true rfl) dX2_closeDay_39 (fun H locs he hz oq hS => ?_)
    have hP : PX D ks bx ml (up (up (up X 17 n ((X 17 n) - (3 * (X 21 n)))) 22 n (1)) 21 n (0)) H := hP.house (k := 11) hn ⟨by decide, by decide⟩ he oq
    exact g_vret hx hb hr hlocks hS ⟨Nat.le_of_ble_eq_true rfl, Nat.le_of_ble_eq_true rfl⟩ (⟨rfl, by unfold cdS; rw [if_pos (by omega)]; exact hP⟩) dX2_closeDay_42
  · skip
    refine lv_aload_n hx hb dX2_closeDay_7 rfl (lv_at hl 0 rfl) ?_
    refine lv_dup hx hb dX2_closeDay_8 rfl ?_
    refine g_get (C := RX2) (T := TX2) (N := 13) hx hb hts inX2 hown hG (hP.hs hn) rfl 7 (by decide) (by decide +kernel) rfl (v := .int (z2 (X 17 n))) rfl dX2_closeDay_9 ?_
    refine b_iconst hx hb dX2_closeDay_12 ?_
    refine b_iadd hx hb dX2_closeDay_13 ?_
    refine g_put (C := RX2) (T := TX2) (N := 13) hx hb hts inX2 tyX2 tyX2_ok nmX2 hown hG hS (hP.hs hn) (Or.inl ⟨by omega, by omega⟩) rfl 7 (by decide) (by decide +kernel) rfl rfl (v := .int (z2 ((X 17 n) + 1))) rfl rfl (Nat.le_of_ble_eq_true rfl) dX2_closeDay_14 (fun H locs he hz oq hS => ?_)
    have hP : PX D ks bx ml (up X 17 n ((X 17 n) + 1)) H := hP.house (k := 7) hn ⟨by decide, by decide⟩ he oq
    refine lv_aload_n hx hb dX2_closeDay_17 rfl (lv_at hl 0 rfl) ?_
    refine lv_dup hx hb dX2_closeDay_18 rfl ?_
    refine g_get (C := RX2) (T := TX2) (N := 13) hx hb hts inX2 hown hG (hP.hs hn) rfl 7 (by decide) (by decide +kernel) rfl (v := .int (z2 ((X 17 n) + 1))) (congrArg (fun z => some (Value.int (z2 z))) (by simp [up] : (up X 17 n ((X 17 n) + 1)) 17 n = (X 17 n) + 1)) dX2_closeDay_19 ?_
    refine b_iconst hx hb dX2_closeDay_22 ?_
    refine lv_aload_n hx hb dX2_closeDay_23 rfl (lv_at hl 0 rfl) ?_
    refine g_get (C := RX2) (T := TX2) (N := 13) hx hb hts inX2 hown hG (hP.hs hn) rfl 11 (by decide) (by decide +kernel) rfl (v := .int (z2 (X 21 n))) rfl dX2_closeDay_24 ?_
    refine b_imul hx hb dX2_closeDay_27 ?_
    refine b_isub hx hb dX2_closeDay_28 ?_
    refine g_put (C := RX2) (T := TX2) (N := 13) hx hb hts inX2 tyX2 tyX2_ok nmX2 hown hG hS (hP.hs hn) (Or.inl ⟨by omega, by omega⟩) rfl 7 (by decide) (by decide +kernel) rfl rfl (v := .int (z2 (((X 17 n) + 1) - (3 * (X 21 n))))) rfl rfl (Nat.le_of_ble_eq_true rfl) dX2_closeDay_29 (fun H locs he hz oq hS => ?_)
    have hP : PX D ks bx ml (up (up X 17 n ((X 17 n) + 1)) 17 n (((X 17 n) + 1) - (3 * (X 21 n)))) H := hP.house (k := 7) hn ⟨by decide, by decide⟩ he oq
    refine lv_aload_n hx hb dX2_closeDay_32 rfl (lv_at hl 0 rfl) ?_
    refine b_iconst hx hb dX2_closeDay_33 ?_
    refine g_put (C := RX2) (T := TX2) (N := 13) hx hb hts inX2 tyX2 tyX2_ok nmX2 hown hG hS (hP.hs hn) (Or.inl ⟨by omega, by omega⟩) rfl 12 (by decide) (by decide +kernel) rfl rfl (v := .int (z2 (1))) (by decide +kernel) (by decide +kernel) (Nat.le_of_ble_eq_true rfl) dX2_closeDay_34 (fun H locs he hz oq hS => ?_)
    have hP : PX D ks bx ml (up (up (up X 17 n ((X 17 n) + 1)) 17 n (((X 17 n) + 1) - (3 * (X 21 n)))) 22 n (1)) H := hP.house (k := 12) hn ⟨by decide, by decide⟩ he oq
    refine lv_aload_n hx hb dX2_closeDay_37 rfl (lv_at hl 0 rfl) ?_
    refine b_iconst hx hb dX2_closeDay_38 ?_
    refine g_put (C := RX2) (T := TX2) (N := 13) hx hb hts inX2 tyX2 tyX2_ok nmX2 hown hG hS (hP.hs hn) (Or.inl ⟨by omega, by omega⟩) rfl 11 (by decide) (by decide +kernel) rfl rfl (v := .int (z2 (0))) rfl rfl (Nat.le_of_ble_eq_true rfl) dX2_closeDay_39 (fun H locs he hz oq hS => ?_)
    have hP : PX D ks bx ml (up (up (up (up X 17 n ((X 17 n) + 1)) 17 n (((X 17 n) + 1) - (3 * (X 21 n)))) 22 n (1)) 21 n (0)) H := hP.house (k := 11) hn ⟨by decide, by decide⟩ he oq
    exact g_vret hx hb hr hlocks hS ⟨Nat.le_of_ble_eq_true rfl, Nat.le_of_ble_eq_true rfl⟩ (⟨rfl, by unfold cdS; rw [if_neg (by omega)]; exact hP⟩) dX2_closeDay_42
set_option maxHeartbeats 4000000 in
set_option maxRecDepth 100000 in
theorem k_finish (l : Launch) (D : va_G) (ks : Nat → ClassId) (bx : Nat) (ml : Nat → Nat) (X : Nat → Nat → Int) (H : Heap) (hP : PX D ks bx ml X H) (hV : VX X) {n : Nat} (hn : n < 2) (u : Int) (hu : 0 ≤ u ∧ u ≤ 2000000) : KM l yX1_finish wsX1_finish ({ frames := 0, cells := 0, slots := 0, locals := 0 } : Room) D ks bx [.ref (bx + 53 + n), .int (z2 u)] H (RX bx) (fun v H1 => v = none ∧ PX D ks bx ml (fiS X n u) H1) (fun _ _ => False) := by
  refine KM.of (cc := cX1_finish) (maxL := 2) (ret := none) (by decide) rfl (Nat.le_of_ble_eq_true rfl) ?_
  intro p e s m below meth c hx hb hml hr hlocks hown hname hts hext hH0 hG ls hl
  subst hH0
  have hown : s.vm.findClass RX1 = some m.cls := hown
  have hS : va_S (AR (RX bx) s.heap.size) s.heap s.heap [] := va_S.rf
  have hl : lv_has ls 2 [(0, .ref (bx + 53 + n)), (1, .int (z2 (u)))] := hl
  have inX1 : ∀ w ∈ wsX10, w ∈ wsX1_finish := by decide +kernel
  have inX2 : ∀ w ∈ wsX20, w ∈ wsX1_finish := by decide +kernel
  refine lv_aload_n hx hb dX1_finish_0 rfl (lv_at hl 0 rfl) ?_
  have b_1 : -1 ≤ X 34 n ∧ X 34 n ≤ 7 := hV.1 34 _ rfl
  refine g_get (C := RX1) (T := TX1) (N := 2) hx hb hts inX1 hown hG (hP.cr hn) rfl 0 (by decide) (by decide +kernel) rfl (v := va_rf (go bx (X 34 n))) rfl dX1_finish_1 ?_
  refine g_go b_1.1 (fun c_1 => ?_) (fun k1 c_1 => ?_)
  · skip
    refine lv_ifnullN (tgt := 28) hx hb dX1_finish_4 (by decide) ?_
    exact g_vret hx hb hr hlocks hS ⟨Nat.le_of_ble_eq_true rfl, Nat.le_of_ble_eq_true rfl⟩ (⟨rfl, by unfold fiS; rw [if_neg (fun q => by omega)]; exact hP⟩) dX1_finish_28
  · skip
    have hk1 : k1 < 8 := by omega
    refine lv_ifnull hx hb dX1_finish_4 ?_
    refine lv_aload_n hx hb dX1_finish_7 rfl (lv_at hl 0 rfl) ?_
    have b_8 : 0 ≤ X 35 n ∧ X 35 n ≤ 1000050 := hV.1 35 _ rfl
    refine g_get (C := RX1) (T := TX1) (N := 2) hx hb hts inX1 hown hG (hP.cr hn) rfl 1 (by decide) (by decide +kernel) rfl (v := .int (z2 (X 35 n))) rfl dX1_finish_8 ?_
    refine lv_iload_n hx hb dX1_finish_11 rfl (lv_at hl 1 rfl) ?_
    refine b_icmp_gt (tgt := 28) hx hb dX1_finish_12 (by decide) ⟨⟨by omega, by omega⟩, ⟨by omega, by omega⟩⟩ (fun c_12 => ?_) (fun c_12 => ?_)
    · skip
      exact g_vret hx hb hr hlocks hS ⟨Nat.le_of_ble_eq_true rfl, Nat.le_of_ble_eq_true rfl⟩ (⟨rfl, by unfold fiS; rw [if_neg (fun q => by omega)]; exact hP⟩) dX1_finish_28
    · skip
      refine lv_aload_n hx hb dX1_finish_15 rfl (lv_at hl 0 rfl) ?_
      refine g_get (C := RX1) (T := TX1) (N := 2) hx hb hts inX1 hown hG (hP.cr hn) rfl 0 (by decide) (by decide +kernel) rfl (v := va_rf (go bx (X 34 n))) rfl dX1_finish_16 ?_
      refine g_go (by omega) (fun q => absurd q (by omega)) (fun km q => ?_)
      obtain rfl : k1 = km := by omega
      refine b_iconst hx hb dX1_finish_19 ?_
      refine g_putN (C := RX2) (T := TX2) (N := 13) hx hb hts inX2 tyX2 tyX2_ok nmX2 hown hG hS (hP.hs hk1) (Or.inl ⟨by omega, by omega⟩) rfl 4 (by decide) (List.mem_of_getElem? (i := 19) rfl) rfl rfl (v := .int (z2 (1))) (by decide +kernel) (by decide +kernel) (Nat.le_of_ble_eq_true rfl) dX1_finish_20 (fun H locs he hz oq hS => ?_)
      have hP : PX D ks bx ml (up X 14 k1 (1)) H := hP.house (k := 4) hk1 ⟨by decide, by decide⟩ he oq
      refine lv_aload_n hx hb dX1_finish_23 rfl (lv_at hl 0 rfl) ?_
      refine lv_null hx hb dX1_finish_24 ?_
      refine W.eq (g2 := F0 m 25 ls (va_rf (go bx (-1)) :: .ref (bx + 53 + n) :: [])) rfl ?_
      refine g_put (C := RX1) (T := TX1) (N := 2) hx hb hts inX1 tyX1 tyX1_ok nmX1 hown hG hS (hP.cr hn) (Or.inl ⟨by omega, by omega⟩) rfl 0 (by decide) (by decide +kernel) rfl rfl (v := va_rf (go bx (-1))) (by cases go bx _ <;> rfl) (by cases go bx _ <;> rfl) (Nat.le_of_ble_eq_true rfl) dX1_finish_25 (fun H locs he hz oq hS => ?_)
      have hP : PX D ks bx ml (up (up X 14 k1 (1)) 34 n ((-1))) H := hP.goal hn he oq
      have f9 : (X 34 n).toNat = k1 := by omega
      exact g_vret hx hb hr hlocks hS ⟨Nat.le_of_ble_eq_true rfl, Nat.le_of_ble_eq_true rfl⟩ (⟨rfl, by unfold fiS; rw [if_pos ⟨by omega, by omega⟩, f9]; exact hP⟩) dX1_finish_28
