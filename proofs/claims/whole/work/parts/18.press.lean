/-! press -/
set_option maxHeartbeats 4000000 in
set_option maxRecDepth 100000 in
theorem m_press (l : Launch) (D : va_G) (ks : Nat → ClassId) (bx : Nat) (bm : Nat) (hbm : bx ≤ bm) (X : Nat → Nat → Int) (H : Heap) (hM : PM D ks bm X H) (hV : VS X) (u v2 : Int) (hu : -2147483648 ≤ u ∧ u < 2147483648) (hv2 : -2147483648 ≤ v2 ∧ v2 < 2147483648) : KM l yX5_press wsX5_press ({ frames := 2, cells := 0, slots := 0, locals := 42 } : Room) D ks bx [.ref bm, .int (z2 u), .int (z2 v2)] H (RM bm) (fun v H1 => ∃ (r : Int) (Y : Nat → Nat → Int), ro_press X u v2 r Y ∧ v = some (.int (z2 r)) ∧ PM D ks bm Y H1) (fun _ _ => False) := by
  refine KM.of (cc := cX5_press) (maxL := 8) (ret := (some .int)) (by decide) rfl (Nat.le_of_ble_eq_true rfl) ?_
  intro p e s m below meth c hx hb hml hr hlocks hown hname hts hext hH0 hG ls hl
  subst hH0
  have hown : s.vm.findClass RX5 = some m.cls := hown
  have hS : va_S (AR (RM bm) s.heap.size) s.heap s.heap [] := va_S.rf
  have hl : lv_has ls 8 [(0, .ref bm), (1, .int (z2 (u))), (2, .int (z2 (v2)))] := hl
  have inX5 : ∀ w ∈ wsX50, w ∈ wsX5_press := by decide +kernel
  refine lv_aload_n hx hb dX5_press_0 rfl (lv_at hl 0 rfl) ?_
  refine lv_iload_n hx hb dX5_press_1 rfl (lv_at hl 1 rfl) ?_
  refine g_run (vx_runS (As := [.int (z2 (u))]) (rest := [.ref bm]) ⟨hx, hb, hml, hown, hts⟩ (m_isHouse l D ks bx bm hbm _ (u) ⟨by omega, by omega⟩) (cwS 1 hts gX5_press_X5_isHouse rfl rfl rfl (by decide +kernel) ⟨Nat.le_of_ble_eq_true rfl, Nat.le_of_ble_eq_true rfl⟩) (g_preS hG hS (rm_ge hbm)) rfl rfl hl.1 rfl (lv_room (Nat.le_of_ble_eq_true rfl)) dX5_press_2 ⟨Nat.le_of_ble_eq_true rfl, Nat.le_of_ble_eq_true rfl⟩) hS (fun _ h => h) (fun _ _ _ _ _ h => h.elim) (fun v H1 locs hp hz9 hk9 hS => ?_)
  obtain ⟨rfl, hH9⟩ := hp
  obtain rfl := hH9.symm
  obtain ⟨iv_2, ev_2, ib_2⟩ : ∃ z : Int, z = (if 0 ≤ u ∧ u ≤ 7 then 1 else 0) ∧ (((0 ≤ u ∧ u ≤ 7) ∧ z = 1) ∨ (¬ (0 ≤ u ∧ u ≤ 7) ∧ z = 0)) := ⟨_, rfl, by split <;> omega⟩
  rw [← ev_2]
  refine W.eq (g2 := F0 m 5 ls [.int (z2 (iv_2)), .ref bm]) rfl ?_
  refine b_if_eq (tgt := 17) hx hb dX5_press_5 (by decide) ⟨by omega, by omega⟩ (fun c_5 => ?_) (fun c_5 => ?_)
  · skip
    refine b_iconst hx hb dX5_press_17 ?_
    refine lv_goto (tgt := 22) hx hb dX5_press_18 (by decide) ?_
    refine g_put (C := RX5) (T := TX5) (N := 23) hx hb hts inX5 tyX5 tyX5_ok nmX5 hown hG hS hM.1 (Or.inl ⟨by omega, by omega⟩) rfl 22 (by decide) (by decide +kernel) rfl rfl (v := .int (z2 (1))) rfl rfl (Nat.le_of_ble_eq_true rfl) dX5_press_22 (fun H locs he hz oq hS => ?_)
    have hM : PM D ks bm (up X 22 0 (1)) H := hM.own (k := 22) (by decide) he oq
    refine lv_aload_n hx hb dX5_press_25 rfl (lv_at hl 0 rfl) ?_
    refine g_get (C := RX5) (T := TX5) (N := 23) hx hb hts inX5 hown hG hM.1 rfl 22 (by decide) (by decide +kernel) rfl (v := .int (z2 (1))) (congrArg (fun z => some (Value.int (z2 z))) (by simp [up] : (up X 22 0 (1)) 22 0 = 1)) dX5_press_26 ?_
    refine b_if_le (tgt := 34) hx hb dX5_press_29 (by decide) ⟨by omega, by omega⟩ (fun c => absurd c (by omega)) (fun _ => ?_)
    refine b_iconst hx hb dX5_press_32 ?_
    exact g_iret hx hb hr hlocks hS ⟨Nat.le_of_ble_eq_true rfl, Nat.le_of_ble_eq_true rfl⟩ (⟨0, up X 22 0 (1), Or.inr (Or.inl (⟨by omega, rfl⟩)), rfl, hM⟩) dX5_press_33
  · skip
    refine lv_iload_n hx hb dX5_press_8 rfl (lv_at hl 2 rfl) ?_
    refine b_iconst hx hb dX5_press_9 ?_
    refine b_iconst hx hb dX5_press_10 ?_
    refine g_run (vx_runS (As := [.int (z2 (v2)), .int (z2 (0)), .int (z2 (2))]) (rest := [.ref bm]) ⟨hx, hb, hml, hown, hts⟩ (m_in l D ks bx bm _ (v2) (0) (2) ⟨⟨by omega, by omega⟩, ⟨by omega, by omega⟩, by omega, by omega⟩) (cwS 3 hts gX5_press_X5_in rfl rfl rfl (by decide +kernel) ⟨Nat.le_of_ble_eq_true rfl, Nat.le_of_ble_eq_true rfl⟩) (g_preS hG hS (rm_ge hbm)) rfl rfl hl.1 rfl (lv_room (Nat.le_of_ble_eq_true rfl)) dX5_press_11 ⟨Nat.le_of_ble_eq_true rfl, Nat.le_of_ble_eq_true rfl⟩) hS (fun _ h => h) (fun _ _ _ _ _ h => h.elim) (fun v H1 locs hp hz9 hk9 hS => ?_)
    obtain ⟨rfl, hH9⟩ := hp
    obtain rfl := hH9.symm
    obtain ⟨iv_11, ev_11, ib_11⟩ : ∃ z : Int, z = (if 0 ≤ v2 ∧ v2 ≤ 2 then 1 else 0) ∧ (((0 ≤ v2 ∧ v2 ≤ 2) ∧ z = 1) ∨ (¬ (0 ≤ v2 ∧ v2 ≤ 2) ∧ z = 0)) := ⟨_, rfl, by split <;> omega⟩
    rw [← ev_11]
    refine W.eq (g2 := F0 m 14 ls [.int (z2 (iv_11)), .ref bm]) rfl ?_
    refine b_if_ne (tgt := 21) hx hb dX5_press_14 (by decide) ⟨by omega, by omega⟩ (fun c_14 => ?_) (fun c_14 => ?_)
    · skip
      refine b_iconst hx hb dX5_press_21 ?_
      refine g_put (C := RX5) (T := TX5) (N := 23) hx hb hts inX5 tyX5 tyX5_ok nmX5 hown hG hS hM.1 (Or.inl ⟨by omega, by omega⟩) rfl 22 (by decide) (by decide +kernel) rfl rfl (v := .int (z2 (0))) rfl rfl (Nat.le_of_ble_eq_true rfl) dX5_press_22 (fun H locs he hz oq hS => ?_)
      have hM : PM D ks bm (up X 22 0 (0)) H := hM.own (k := 22) (by decide) he oq
      refine lv_aload_n hx hb dX5_press_25 rfl (lv_at hl 0 rfl) ?_
      refine g_get (C := RX5) (T := TX5) (N := 23) hx hb hts inX5 hown hG hM.1 rfl 22 (by decide) (by decide +kernel) rfl (v := .int (z2 (0))) (congrArg (fun z => some (Value.int (z2 z))) (by simp [up] : (up X 22 0 (0)) 22 0 = 0)) dX5_press_26 ?_
      refine b_if_le (tgt := 34) hx hb dX5_press_29 (by decide) ⟨by omega, by omega⟩ (fun _ => ?_) (fun c => absurd c (by omega))
      obtain ⟨n, rfl⟩ : ∃ n : Nat, u = n := ⟨(u).toNat, by omega⟩
      obtain ⟨b, rfl⟩ : ∃ b : Nat, v2 = b := ⟨(v2).toNat, by omega⟩
      refine b_iconst hx hb dX5_press_34 ?_
      refine lv_iload_n hx hb dX5_press_35 rfl (lv_at hl 1 rfl) ?_
      refine b_imul hx hb dX5_press_36 ?_
      refine lv_iload_n hx hb dX5_press_37 rfl (lv_at hl 2 rfl) ?_
      refine b_iadd hx hb dX5_press_38 ?_
      refine lv_istore_n (lv' := [(3, .int (z2 ((3 * ((n : Nat) : Int)) + ((b : Nat) : Int)))), (0, .ref bm), (1, .int (z2 (((n : Nat) : Int)))), (2, .int (z2 (((b : Nat) : Int))))]) hx hb dX5_press_39 rfl hl (by decide) rfl (fun ls hl => ?_)
      refine lv_aload_n hx hb dX5_press_40 rfl (lv_at hl 1 rfl) ?_
      refine g_get (C := RX5) (T := TX5) (N := 23) hx hb hts inX5 hown hG hM.1 rfl 5 (by decide) (by decide +kernel) rfl (v := .ref (bm + 4)) rfl dX5_press_41 ?_
      refine lv_iload_n hx hb dX5_press_44 rfl (lv_at hl 0 rfl) ?_
      have b_45 : 0 ≤ X 5 (3 * n + b) ∧ X 5 (3 * n + b) ≤ 12 := hV.1 5 _ (by decide) rfl
      refine g_iald (n := 24) hx hb hG (f := fun i => z2 ((up X 22 0 (0)) 5 i)) (show ca D (bm + 4) (iA (ks 0) 24 (fun i => z2 ((up X 22 0 (0)) 5 i))) _ from hM.2.1 5 (sr_of (by decide))) (3 * n + b) ⟨by omega, by omega, by decide⟩ dX5_press_45 ?_
      refine W.eq (g2 := F0 m 46 ls (.int (z2 (X 5 (3 * n + b))) :: [])) rfl ?_
      refine b_if_ne (tgt := 55) hx hb dX5_press_46 (by decide) ⟨by omega, by omega⟩ (fun c_46 => ?_) (fun c_46 => ?_)
      · skip
        obtain ⟨k, hk5⟩ : ∃ k : Nat, X 5 (3 * n + b) = k + 1 := ⟨(X 5 (3 * n + b) - 1).toNat, by omega⟩
        refine lv_aload_n hx hb dX5_press_55 rfl (lv_at hl 1 rfl) ?_
        refine g_get (C := RX5) (T := TX5) (N := 23) hx hb hts inX5 hown hG hM.1 rfl 11 (by decide) (by decide +kernel) rfl (v := .ref (bm + 10)) rfl dX5_press_56 ?_
        refine lv_iload_n hx hb dX5_press_59 rfl (lv_at hl 2 rfl) ?_
        have b_60 : 0 ≤ X 11 n ∧ X 11 n ≤ 1 := hV.1 11 _ (by decide) rfl
        refine g_iald (n := 8) hx hb hG (f := fun i => z2 ((up X 22 0 (0)) 11 i)) (show ca D (bm + 10) (iA (ks 0) 8 (fun i => z2 ((up X 22 0 (0)) 11 i))) _ from hM.2.1 11 (sr_of (by decide))) n ⟨by omega, by omega, by decide⟩ dX5_press_60 ?_
        refine W.eq (g2 := F0 m 61 ls (.int (z2 (X 11 n)) :: [])) rfl ?_
        refine b_iconst hx hb dX5_press_61 ?_
        refine b_icmp_eq (tgt := 74) hx hb dX5_press_62 (by decide) ⟨⟨by omega, by omega⟩, ⟨by omega, by omega⟩⟩ (fun c_62 => ?_) (fun c_62 => ?_)
        · skip
          refine b_iconst hx hb dX5_press_74 ?_
          have e9 : pmS X (up X 22 0 0) n (3 * n + b) k = up X 22 0 (0) := by
            unfold pmS plM
            (repeat' split) <;> first | rfl | omega
          have e8 : (0 : Int) = pmV X n (3 * n + b) k := by
            unfold pmV plM
            (repeat' split) <;> omega
          exact g_iret hx hb hr hlocks hS ⟨Nat.le_of_ble_eq_true rfl, Nat.le_of_ble_eq_true rfl⟩ (⟨0, up X 22 0 (0), Or.inl (⟨n, b, k, by omega, e8, e9.symm⟩), rfl, hM⟩) dX5_press_75
        · skip
          refine lv_aload_n hx hb dX5_press_65 rfl (lv_at hl 1 rfl) ?_
          refine g_get (C := RX5) (T := TX5) (N := 23) hx hb hts inX5 hown hG hM.1 rfl 7 (by decide) (by decide +kernel) rfl (v := .ref (bm + 6)) rfl dX5_press_66 ?_
          refine lv_iload_n hx hb dX5_press_69 rfl (lv_at hl 0 rfl) ?_
          have b_70 : 0 ≤ X 7 (3 * n + b) ∧ X 7 (3 * n + b) ≤ 1000024 := hV.1 7 _ (by decide) rfl
          refine g_iald (n := 24) hx hb hG (f := fun i => z2 ((up X 22 0 (0)) 7 i)) (show ca D (bm + 6) (iA (ks 0) 24 (fun i => z2 ((up X 22 0 (0)) 7 i))) _ from hM.2.1 7 (sr_of (by decide))) (3 * n + b) ⟨by omega, by omega, by decide⟩ dX5_press_70 ?_
          refine W.eq (g2 := F0 m 71 ls (.int (z2 (X 7 (3 * n + b))) :: [])) rfl ?_
          refine b_if_le (tgt := 76) hx hb dX5_press_71 (by decide) ⟨by omega, by omega⟩ (fun c_71 => ?_) (fun c_71 => ?_)
          · skip
            refine lv_aload_n hx hb dX5_press_76 rfl (lv_at hl 1 rfl) ?_
            refine lv_iload_n hx hb dX5_press_77 rfl (lv_at hl 2 rfl) ?_
            refine g_run (vx_runV (As := [.int (z2 (((n : Nat) : Int)))]) (rest := []) ⟨hx, hb, hml, hown, hts⟩ (m_isQuiet l D ks bx bm hbm (up X 22 0 (0)) _ hM (vs_uf (hV) (by decide)) (n := n) (((n : Nat) : Int)) ⟨by omega, by omega⟩) (cwV 1 hts gX5_press_X5_isQuiet rfl rfl rfl (by decide +kernel) ⟨Nat.le_of_ble_eq_true rfl, Nat.le_of_ble_eq_true rfl⟩) (g_preV (r := (RX5, TX5, 23)) hG hS (rm_ge hbm) hM.1 rfl) rfl rfl hl.1 rfl (lv_room (Nat.le_of_ble_eq_true rfl)) dX5_press_78 ⟨Nat.le_of_ble_eq_true rfl, Nat.le_of_ble_eq_true rfl⟩) hS (fun _ h => h) (fun _ _ _ _ _ h => h.elim) (fun v H1 locs hp hz9 hk9 hS => ?_)
            obtain ⟨rfl, hH9⟩ := hp
            obtain rfl := hH9.symm
            have qe_78 : qM (up X 22 0 (0)) n = qM X n := by unfold qM; simp [up]
            rw [qe_78]
            have qb_78 := qM_b X n
            refine W.eq (g2 := F0 m 81 ls [.int (z2 (qM X n))]) rfl ?_
            refine b_if_eq (tgt := 96) hx hb dX5_press_81 (by decide) ⟨by omega, by omega⟩ (fun c_81 => ?_) (fun c_81 => ?_)
            · skip
              refine b_bipush hx hb dX5_press_96 (by decide +kernel) ?_
              refine lv_iload_n hx hb dX5_press_98 rfl (lv_at hl 2 rfl) ?_
              refine b_imul hx hb dX5_press_99 ?_
              refine lv_aload_n hx hb dX5_press_100 rfl (lv_at hl 1 rfl) ?_
              refine g_get (C := RX5) (T := TX5) (N := 23) hx hb hts inX5 hown hG hM.1 rfl 5 (by decide) (by decide +kernel) rfl (v := .ref (bm + 4)) rfl dX5_press_101 ?_
              refine lv_iload_n hx hb dX5_press_104 rfl (lv_at hl 0 rfl) ?_
              have b_105 : 0 ≤ X 5 (3 * n + b) ∧ X 5 (3 * n + b) ≤ 12 := hV.1 5 _ (by decide) rfl
              refine g_iald (n := 24) hx hb hG (f := fun i => z2 ((up X 22 0 (0)) 5 i)) (show ca D (bm + 4) (iA (ks 0) 24 (fun i => z2 ((up X 22 0 (0)) 5 i))) _ from hM.2.1 5 (sr_of (by decide))) (3 * n + b) ⟨by omega, by omega, by decide⟩ dX5_press_105 ?_
              refine W.eq (g2 := F0 m 106 ls (.int (z2 (X 5 (3 * n + b))) :: [.int (z2 (12 * ((n : Nat) : Int)))])) rfl ?_
              refine b_iadd hx hb dX5_press_106 ?_
              refine b_iconst hx hb dX5_press_107 ?_
              refine b_isub hx hb dX5_press_108 ?_
              refine lv_istore (lv' := [(4, .int (z2 (((12 * ((n : Nat) : Int)) + (X 5 (3 * n + b))) - 1))), (3, .int (z2 ((3 * ((n : Nat) : Int)) + ((b : Nat) : Int)))), (0, .ref bm), (1, .int (z2 (((n : Nat) : Int)))), (2, .int (z2 (((b : Nat) : Int))))]) hx hb dX5_press_109 hl (by decide) rfl (fun ls hl => ?_)
              refine lv_aload_n hx hb dX5_press_111 rfl (lv_at hl 2 rfl) ?_
              refine g_get (C := RX5) (T := TX5) (N := 23) hx hb hts inX5 hown hG hM.1 rfl 2 (by decide) (by decide +kernel) rfl (v := .ref (bm + 1)) rfl dX5_press_112 ?_
              refine lv_aload_n hx hb dX5_press_115 rfl (lv_at hl 2 rfl) ?_
              refine g_get (C := RX5) (T := TX5) (N := 23) hx hb hts inX5 hown hG hM.1 rfl 5 (by decide) (by decide +kernel) rfl (v := .ref (bm + 4)) rfl dX5_press_116 ?_
              refine lv_iload_n hx hb dX5_press_119 rfl (lv_at hl 1 rfl) ?_
              have b_120 : 0 ≤ X 5 (3 * n + b) ∧ X 5 (3 * n + b) ≤ 12 := hV.1 5 _ (by decide) rfl
              refine g_iald (n := 24) hx hb hG (f := fun i => z2 ((up X 22 0 (0)) 5 i)) (show ca D (bm + 4) (iA (ks 0) 24 (fun i => z2 ((up X 22 0 (0)) 5 i))) _ from hM.2.1 5 (sr_of (by decide))) (3 * n + b) ⟨by omega, by omega, by decide⟩ dX5_press_120 ?_
              refine W.eq (g2 := F0 m 121 ls (.int (z2 (X 5 (3 * n + b))) :: [.ref (bm + 1)])) rfl ?_
              refine b_iconst hx hb dX5_press_121 ?_
              refine b_isub hx hb dX5_press_122 ?_
              have b_123 : 0 ≤ X 2 k ∧ X 2 k ≤ 7 := hV.1 2 _ (by decide) rfl
              refine g_iald (n := 12) hx hb hG (f := fun i => z2 ((up X 22 0 (0)) 2 i)) (show ca D (bm + 1) (iA (ks 0) 12 (fun i => z2 ((up X 22 0 (0)) 2 i))) _ from hM.2.1 2 (sr_of (by decide))) k ⟨by omega, by omega, by decide⟩ dX5_press_123 ?_
              refine W.eq (g2 := F0 m 124 ls (.int (z2 (X 2 k)) :: [])) rfl ?_
              refine lv_iload_n hx hb dX5_press_124 rfl (lv_at hl 3 rfl) ?_
              refine b_icmp_ne (tgt := 132) hx hb dX5_press_125 (by decide) ⟨⟨by omega, by omega⟩, ⟨by omega, by omega⟩⟩ (fun c_125 => ?_) (fun c_125 => ?_)
              · skip
                refine b_iconst hx hb dX5_press_132 ?_
                refine lv_istore (lv' := [(5, .int (z2 (0))), (4, .int (z2 (((12 * ((n : Nat) : Int)) + (X 5 (3 * n + b))) - 1))), (3, .int (z2 ((3 * ((n : Nat) : Int)) + ((b : Nat) : Int)))), (0, .ref bm), (1, .int (z2 (((n : Nat) : Int)))), (2, .int (z2 (((b : Nat) : Int))))]) hx hb dX5_press_133 hl (by decide) rfl (fun ls hl => ?_)
                refine lv_iload hx hb dX5_press_135 (lv_at hl 0 rfl) ?_
                refine b_if_ne (tgt := 152) hx hb dX5_press_137 (by decide) ⟨by omega, by omega⟩ (fun c => absurd c (by omega)) (fun _ => ?_)
                refine lv_aload_n hx hb dX5_press_140 rfl (lv_at hl 3 rfl) ?_
                refine g_get (C := RX5) (T := TX5) (N := 23) hx hb hts inX5 hown hG hM.1 rfl 8 (by decide) (by decide +kernel) rfl (v := .ref (bm + 7)) rfl dX5_press_141 ?_
                refine lv_iload hx hb dX5_press_144 (lv_at hl 1 rfl) ?_
                have b_146 : 0 ≤ X 8 (12 * n + k) ∧ X 8 (12 * n + k) ≤ 1000 := hV.1 8 _ (by decide) rfl
                refine g_iald (n := 96) hx hb hG (f := fun i => z2 ((up X 22 0 (0)) 8 i)) (show ca D (bm + 7) (iA (ks 0) 96 (fun i => z2 ((up X 22 0 (0)) 8 i))) _ from hM.2.1 8 (sr_of (by decide))) (12 * n + k) ⟨by omega, by omega, by decide⟩ dX5_press_146 ?_
                refine W.eq (g2 := F0 m 147 ls (.int (z2 (X 8 (12 * n + k))) :: [])) rfl ?_
                refine b_if_ne (tgt := 152) hx hb dX5_press_147 (by decide) ⟨by omega, by omega⟩ (fun c_147 => ?_) (fun c_147 => ?_)
                · skip
                  refine lv_aload_n hx hb dX5_press_152 rfl (lv_at hl 3 rfl) ?_
                  refine g_get (C := RX5) (T := TX5) (N := 23) hx hb hts inX5 hown hG hM.1 rfl 6 (by decide) (by decide +kernel) rfl (v := .ref (bm + 5)) rfl dX5_press_153 ?_
                  refine lv_iload_n hx hb dX5_press_156 rfl (lv_at hl 2 rfl) ?_
                  have b_157 : 1 ≤ X 6 (3 * n + b) ∧ X 6 (3 * n + b) ≤ 9 := hV.1 6 _ (by decide) rfl
                  refine g_iald (n := 24) hx hb hG (f := fun i => z2 ((up X 22 0 (0)) 6 i)) (show ca D (bm + 5) (iA (ks 0) 24 (fun i => z2 ((up X 22 0 (0)) 6 i))) _ from hM.2.1 6 (sr_of (by decide))) (3 * n + b) ⟨by omega, by omega, by decide⟩ dX5_press_157 ?_
                  refine W.eq (g2 := F0 m 158 ls (.int (z2 (X 6 (3 * n + b))) :: [])) rfl ?_
                  refine lv_istore (lv' := [(6, .int (z2 (X 6 (3 * n + b)))), (5, .int (z2 (0))), (4, .int (z2 (((12 * ((n : Nat) : Int)) + (X 5 (3 * n + b))) - 1))), (3, .int (z2 ((3 * ((n : Nat) : Int)) + ((b : Nat) : Int)))), (0, .ref bm), (1, .int (z2 (((n : Nat) : Int)))), (2, .int (z2 (((b : Nat) : Int))))]) hx hb dX5_press_158 hl (by decide) rfl (fun ls hl => ?_)
                  refine b_iconst hx hb dX5_press_160 ?_
                  refine lv_istore (lv' := [(7, .int (z2 (0))), (6, .int (z2 (X 6 (3 * n + b)))), (5, .int (z2 (0))), (4, .int (z2 (((12 * ((n : Nat) : Int)) + (X 5 (3 * n + b))) - 1))), (3, .int (z2 ((3 * ((n : Nat) : Int)) + ((b : Nat) : Int)))), (0, .ref bm), (1, .int (z2 (((n : Nat) : Int)))), (2, .int (z2 (((b : Nat) : Int))))]) hx hb dX5_press_161 hl (by decide) rfl (fun ls hl => ?_)
                  refine lv_iload hx hb dX5_press_163 (lv_at hl 0 rfl) ?_
                  refine b_iconst hx hb dX5_press_165 ?_
                  refine b_icmp_ge (tgt := 209) hx hb dX5_press_166 (by decide) ⟨⟨by omega, by omega⟩, ⟨by omega, by omega⟩⟩ (fun c => absurd c (by omega)) (fun _ => ?_)
                  refine lv_iload hx hb dX5_press_169 (lv_at hl 1 rfl) ?_
                  refine lv_aload_n hx hb dX5_press_171 rfl (lv_at hl 5 rfl) ?_
                  refine g_get (C := RX5) (T := TX5) (N := 23) hx hb hts inX5 hown hG hM.1 rfl 7 (by decide) (by decide +kernel) rfl (v := .ref (bm + 6)) rfl dX5_press_172 ?_
                  refine b_iconst hx hb dX5_press_175 ?_
                  refine lv_iload_n hx hb dX5_press_176 rfl (lv_at hl 6 rfl) ?_
                  refine b_imul hx hb dX5_press_177 ?_
                  refine lv_iload hx hb dX5_press_178 (lv_at hl 0 rfl) ?_
                  refine b_iadd hx hb dX5_press_180 ?_
                  have b_181 : 0 ≤ X 7 (3 * n + 0) ∧ X 7 (3 * n + 0) ≤ 1000024 := hV.1 7 _ (by decide) rfl
                  refine g_iald (n := 24) hx hb hG (f := fun i => z2 ((up X 22 0 (0)) 7 i)) (show ca D (bm + 6) (iA (ks 0) 24 (fun i => z2 ((up X 22 0 (0)) 7 i))) _ from hM.2.1 7 (sr_of (by decide))) (3 * n + 0) ⟨by omega, by omega, by decide⟩ dX5_press_181 ?_
                  refine W.eq (g2 := F0 m 182 ls (.int (z2 (X 7 (3 * n + 0))) :: [.int (z2 (X 6 (3 * n + b)))])) rfl ?_
                  refine b_if_le (tgt := 199) hx hb dX5_press_182 (by decide) ⟨by omega, by omega⟩ (fun c_182 => ?_) (fun c_182 => ?_)
                  · skip
                    refine b_iconst hx hb dX5_press_199 ?_
                    refine b_iadd hx hb dX5_press_200 ?_
                    refine lv_istore (lv' := [(6, .int (z2 ((X 6 (3 * n + b)) + 0))), (7, .int (z2 (0))), (5, .int (z2 (0))), (4, .int (z2 (((12 * ((n : Nat) : Int)) + (X 5 (3 * n + b))) - 1))), (3, .int (z2 ((3 * ((n : Nat) : Int)) + ((b : Nat) : Int)))), (0, .ref bm), (1, .int (z2 (((n : Nat) : Int)))), (2, .int (z2 (((b : Nat) : Int))))]) hx hb dX5_press_201 hl (by decide) rfl (fun ls hl => ?_)
                    refine b_iinc (lv' := [(7, .int (z2 (1))), (6, .int (z2 ((X 6 (3 * n + b)) + 0))), (5, .int (z2 (0))), (4, .int (z2 (((12 * ((n : Nat) : Int)) + (X 5 (3 * n + b))) - 1))), (3, .int (z2 ((3 * ((n : Nat) : Int)) + ((b : Nat) : Int)))), (0, .ref bm), (1, .int (z2 (((n : Nat) : Int)))), (2, .int (z2 (((b : Nat) : Int))))]) hx hb dX5_press_203 hl (k := 1) rfl (by decide) rfl (fun ls hl => ?_)
                    refine lv_goto (tgt := 163) hx hb dX5_press_206 (by decide) ?_
                    refine lv_iload hx hb dX5_press_163 (lv_at hl 0 rfl) ?_
                    refine b_iconst hx hb dX5_press_165 ?_
                    refine b_icmp_ge (tgt := 209) hx hb dX5_press_166 (by decide) ⟨⟨by omega, by omega⟩, ⟨by omega, by omega⟩⟩ (fun c => absurd c (by omega)) (fun _ => ?_)
                    refine lv_iload hx hb dX5_press_169 (lv_at hl 1 rfl) ?_
                    refine lv_aload_n hx hb dX5_press_171 rfl (lv_at hl 5 rfl) ?_
                    refine g_get (C := RX5) (T := TX5) (N := 23) hx hb hts inX5 hown hG hM.1 rfl 7 (by decide) (by decide +kernel) rfl (v := .ref (bm + 6)) rfl dX5_press_172 ?_
                    refine b_iconst hx hb dX5_press_175 ?_
                    refine lv_iload_n hx hb dX5_press_176 rfl (lv_at hl 6 rfl) ?_
                    refine b_imul hx hb dX5_press_177 ?_
                    refine lv_iload hx hb dX5_press_178 (lv_at hl 0 rfl) ?_
                    refine b_iadd hx hb dX5_press_180 ?_
                    have b_181 : 0 ≤ X 7 (3 * n + 1) ∧ X 7 (3 * n + 1) ≤ 1000024 := hV.1 7 _ (by decide) rfl
                    refine g_iald (n := 24) hx hb hG (f := fun i => z2 ((up X 22 0 (0)) 7 i)) (show ca D (bm + 6) (iA (ks 0) 24 (fun i => z2 ((up X 22 0 (0)) 7 i))) _ from hM.2.1 7 (sr_of (by decide))) (3 * n + 1) ⟨by omega, by omega, by decide⟩ dX5_press_181 ?_
                    refine W.eq (g2 := F0 m 182 ls (.int (z2 (X 7 (3 * n + 1))) :: [.int (z2 ((X 6 (3 * n + b)) + 0))])) rfl ?_
                    refine b_if_le (tgt := 199) hx hb dX5_press_182 (by decide) ⟨by omega, by omega⟩ (fun c_182 => ?_) (fun c_182 => ?_)
                    · skip
                      refine b_iconst hx hb dX5_press_199 ?_
                      refine b_iadd hx hb dX5_press_200 ?_
                      refine lv_istore (lv' := [(6, .int (z2 (((X 6 (3 * n + b)) + 0) + 0))), (7, .int (z2 (1))), (5, .int (z2 (0))), (4, .int (z2 (((12 * ((n : Nat) : Int)) + (X 5 (3 * n + b))) - 1))), (3, .int (z2 ((3 * ((n : Nat) : Int)) + ((b : Nat) : Int)))), (0, .ref bm), (1, .int (z2 (((n : Nat) : Int)))), (2, .int (z2 (((b : Nat) : Int))))]) hx hb dX5_press_201 hl (by decide) rfl (fun ls hl => ?_)
                      refine b_iinc (lv' := [(7, .int (z2 (2))), (6, .int (z2 (((X 6 (3 * n + b)) + 0) + 0))), (5, .int (z2 (0))), (4, .int (z2 (((12 * ((n : Nat) : Int)) + (X 5 (3 * n + b))) - 1))), (3, .int (z2 ((3 * ((n : Nat) : Int)) + ((b : Nat) : Int)))), (0, .ref bm), (1, .int (z2 (((n : Nat) : Int)))), (2, .int (z2 (((b : Nat) : Int))))]) hx hb dX5_press_203 hl (k := 1) rfl (by decide) rfl (fun ls hl => ?_)
                      refine lv_goto (tgt := 163) hx hb dX5_press_206 (by decide) ?_
                      refine lv_iload hx hb dX5_press_163 (lv_at hl 0 rfl) ?_
                      refine b_iconst hx hb dX5_press_165 ?_
                      refine b_icmp_ge (tgt := 209) hx hb dX5_press_166 (by decide) ⟨⟨by omega, by omega⟩, ⟨by omega, by omega⟩⟩ (fun c => absurd c (by omega)) (fun _ => ?_)
                      refine lv_iload hx hb dX5_press_169 (lv_at hl 1 rfl) ?_
                      refine lv_aload_n hx hb dX5_press_171 rfl (lv_at hl 5 rfl) ?_
                      refine g_get (C := RX5) (T := TX5) (N := 23) hx hb hts inX5 hown hG hM.1 rfl 7 (by decide) (by decide +kernel) rfl (v := .ref (bm + 6)) rfl dX5_press_172 ?_
                      refine b_iconst hx hb dX5_press_175 ?_
                      refine lv_iload_n hx hb dX5_press_176 rfl (lv_at hl 6 rfl) ?_
                      refine b_imul hx hb dX5_press_177 ?_
                      refine lv_iload hx hb dX5_press_178 (lv_at hl 0 rfl) ?_
                      refine b_iadd hx hb dX5_press_180 ?_
                      have b_181 : 0 ≤ X 7 (3 * n + 2) ∧ X 7 (3 * n + 2) ≤ 1000024 := hV.1 7 _ (by decide) rfl
                      refine g_iald (n := 24) hx hb hG (f := fun i => z2 ((up X 22 0 (0)) 7 i)) (show ca D (bm + 6) (iA (ks 0) 24 (fun i => z2 ((up X 22 0 (0)) 7 i))) _ from hM.2.1 7 (sr_of (by decide))) (3 * n + 2) ⟨by omega, by omega, by decide⟩ dX5_press_181 ?_
                      refine W.eq (g2 := F0 m 182 ls (.int (z2 (X 7 (3 * n + 2))) :: [.int (z2 (((X 6 (3 * n + b)) + 0) + 0))])) rfl ?_
                      refine b_if_le (tgt := 199) hx hb dX5_press_182 (by decide) ⟨by omega, by omega⟩ (fun c_182 => ?_) (fun c_182 => ?_)
                      · skip
                        refine b_iconst hx hb dX5_press_199 ?_
                        refine b_iadd hx hb dX5_press_200 ?_
                        refine lv_istore (lv' := [(6, .int (z2 ((((X 6 (3 * n + b)) + 0) + 0) + 0))), (7, .int (z2 (2))), (5, .int (z2 (0))), (4, .int (z2 (((12 * ((n : Nat) : Int)) + (X 5 (3 * n + b))) - 1))), (3, .int (z2 ((3 * ((n : Nat) : Int)) + ((b : Nat) : Int)))), (0, .ref bm), (1, .int (z2 (((n : Nat) : Int)))), (2, .int (z2 (((b : Nat) : Int))))]) hx hb dX5_press_201 hl (by decide) rfl (fun ls hl => ?_)
                        refine b_iinc (lv' := [(7, .int (z2 (3))), (6, .int (z2 ((((X 6 (3 * n + b)) + 0) + 0) + 0))), (5, .int (z2 (0))), (4, .int (z2 (((12 * ((n : Nat) : Int)) + (X 5 (3 * n + b))) - 1))), (3, .int (z2 ((3 * ((n : Nat) : Int)) + ((b : Nat) : Int)))), (0, .ref bm), (1, .int (z2 (((n : Nat) : Int)))), (2, .int (z2 (((b : Nat) : Int))))]) hx hb dX5_press_203 hl (k := 1) rfl (by decide) rfl (fun ls hl => ?_)
                        refine lv_goto (tgt := 163) hx hb dX5_press_206 (by decide) ?_
                        refine lv_iload hx hb dX5_press_163 (lv_at hl 0 rfl) ?_
                        refine b_iconst hx hb dX5_press_165 ?_
                        refine b_icmp_ge (tgt := 209) hx hb dX5_press_166 (by decide) ⟨⟨by omega, by omega⟩, ⟨by omega, by omega⟩⟩ (fun _ => ?_) (fun c => absurd c (by omega))
                        refine lv_iload hx hb dX5_press_209 (lv_at hl 1 rfl) ?_
                        refine b_bipush hx hb dX5_press_211 (by decide +kernel) ?_
                        refine b_icmp_le (tgt := 223) hx hb dX5_press_213 (by decide) ⟨⟨by omega, by omega⟩, ⟨by omega, by omega⟩⟩ (fun c_213 => ?_) (fun c_213 => ?_)
                        · skip
                          refine lv_aload_n hx hb dX5_press_223 rfl (lv_at hl 5 rfl) ?_
                          refine g_get (C := RX5) (T := TX5) (N := 23) hx hb hts inX5 hown hG hM.1 rfl 8 (by decide) (by decide +kernel) rfl (v := .ref (bm + 7)) rfl dX5_press_224 ?_
                          refine lv_iload hx hb dX5_press_227 (lv_at hl 3 rfl) ?_
                          refine lv_dup2_11 hx hb dX5_press_229 rfl rfl ?_
                          have b_230 : 0 ≤ X 8 (12 * n + k) ∧ X 8 (12 * n + k) ≤ 1000 := hV.1 8 _ (by decide) rfl
                          refine g_iald (n := 96) hx hb hG (f := fun i => z2 ((up X 22 0 (0)) 8 i)) (show ca D (bm + 7) (iA (ks 0) 96 (fun i => z2 ((up X 22 0 (0)) 8 i))) _ from hM.2.1 8 (sr_of (by decide))) (12 * n + k) ⟨by omega, by omega, by decide⟩ dX5_press_230 ?_
                          refine W.eq (g2 := F0 m 231 ls (.int (z2 (X 8 (12 * n + k))) :: [.int (z2 (((12 * ((n : Nat) : Int)) + (X 5 (3 * n + b))) - 1)), .ref (bm + 7)])) rfl ?_
                          refine lv_iload hx hb dX5_press_231 (lv_at hl 2 rfl) ?_
                          refine b_if_eq (tgt := 240) hx hb dX5_press_233 (by decide) ⟨by omega, by omega⟩ (fun _ => ?_) (fun c => absurd c (by omega))
                          refine b_iconst hx hb dX5_press_240 ?_
                          refine b_isub hx hb dX5_press_241 ?_
                          refine g_iast (n := 96) hx hb hG hS (f := fun i => z2 ((up X 22 0 (0)) 8 i)) (show ca D (bm + 7) (iA (ks 0) 96 (fun i => z2 ((up X 22 0 (0)) 8 i))) _ from hM.2.1 8 (sr_of (by decide))) (Or.inl ⟨by omega, by omega⟩) (12 * n + k) ⟨by omega, by omega, by decide⟩ dX5_press_242 (fun H locs he hz oq hS => ?_)
                          have hM : PM D ks bm (up (up X 22 0 (0)) 8 (12 * n + k) ((X 8 (12 * n + k)) - 1)) H := hM.row (f := 8) (sr_of (by decide)) he oq
                          refine lv_aload_n hx hb dX5_press_243 rfl (lv_at hl 5 rfl) ?_
                          refine lv_iload_n hx hb dX5_press_244 rfl (lv_at hl 4 rfl) ?_
                          refine g_run (vx_runV (As := [.int (z2 ((3 * ((n : Nat) : Int)) + ((b : Nat) : Int)))]) (rest := []) ⟨hx, hb, hml, hown, hts⟩ (m_begins l D ks bx bm hbm (up (up X 22 0 (0)) 8 (12 * n + k) ((X 8 (12 * n + k)) - 1)) _ hM (vs_up (vs_uf hV (by decide)) (by decide) (fun _ _ => by show 0 ≤ _ ∧ _ ≤ (1000 : Int); omega)) (i := 3 * n + b) ((3 * ((n : Nat) : Int)) + ((b : Nat) : Int)) ⟨by omega, by omega⟩ (by show 0 < X 5 (3 * n + b); omega)) (cwV 1 hts gX5_press_X5_begins rfl rfl rfl (by decide +kernel) ⟨Nat.le_of_ble_eq_true rfl, Nat.le_of_ble_eq_true rfl⟩) (g_preV (r := (RX5, TX5, 23)) hG hS (rm_ge hbm) hM.1 rfl) rfl rfl hl.1 rfl (lv_room (Nat.le_of_ble_eq_true rfl)) dX5_press_245 ⟨Nat.le_of_ble_eq_true rfl, Nat.le_of_ble_eq_true rfl⟩) hS (fun _ h => h) (fun _ _ _ _ _ h => h.elim) (fun v H1 locs hp hz9 hk9 hS => ?_)
                          obtain ⟨rfl, hM⟩ := hp
                          refine W.eq (g2 := F0 m 248 ls []) rfl ?_
                          refine b_iconst hx hb dX5_press_248 ?_
                          have e9 : pmS X (up X 22 0 0) n (3 * n + b) k = (beS (up (up X 22 0 (0)) 8 (12 * n + k) ((X 8 (12 * n + k)) - 1)) (3 * n + b)) := by
                            unfold pmS plM
                            (repeat' split) <;> first | rfl | omega
                          have e8 : (1 : Int) = pmV X n (3 * n + b) k := by
                            unfold pmV plM
                            (repeat' split) <;> omega
                          exact g_iret hx hb hr hlocks hS ⟨Nat.le_of_ble_eq_true rfl, Nat.le_of_ble_eq_true rfl⟩ (⟨1, (beS (up (up X 22 0 (0)) 8 (12 * n + k) ((X 8 (12 * n + k)) - 1)) (3 * n + b)), Or.inl (⟨n, b, k, by omega, e8, e9.symm⟩), rfl, hM⟩) dX5_press_249
                        · skip
                          refine lv_aload_n hx hb dX5_press_216 rfl (lv_at hl 5 rfl) ?_
                          refine lv_iload_n hx hb dX5_press_217 rfl (lv_at hl 6 rfl) ?_
                          refine g_run (vx_runV (As := [.int (z2 (((n : Nat) : Int)))]) (rest := []) ⟨hx, hb, hml, hown, hts⟩ (m_breaks l D ks bx bm hbm (up X 22 0 (0)) _ hM (vs_uf (hV) (by decide)) (n := n) (((n : Nat) : Int)) ⟨by omega, by omega⟩) (cwV 1 hts gX5_press_X5_breaks rfl rfl rfl (by decide +kernel) ⟨Nat.le_of_ble_eq_true rfl, Nat.le_of_ble_eq_true rfl⟩) (g_preV (r := (RX5, TX5, 23)) hG hS (rm_ge hbm) hM.1 rfl) rfl rfl hl.1 rfl (lv_room (Nat.le_of_ble_eq_true rfl)) dX5_press_218 ⟨Nat.le_of_ble_eq_true rfl, Nat.le_of_ble_eq_true rfl⟩) hS (fun _ h => h) (fun _ _ _ _ _ h => h.elim) (fun v H1 locs hp hz9 hk9 hS => ?_)
                          obtain ⟨rfl, hM⟩ := hp
                          have hV : VS (brM (up X 22 0 (0)) n) := vs_br (vs_uf (hV) (by decide)) n
                          refine W.eq (g2 := F0 m 221 ls []) rfl ?_
                          refine b_iconst hx hb dX5_press_221 ?_
                          have e9 : pmS X (up X 22 0 0) n (3 * n + b) k = (brM (up X 22 0 (0)) n) := by
                            unfold pmS plM
                            (repeat' split) <;> first | rfl | omega
                          have e8 : (3 : Int) = pmV X n (3 * n + b) k := by
                            unfold pmV plM
                            (repeat' split) <;> omega
                          exact g_iret hx hb hr hlocks hS ⟨Nat.le_of_ble_eq_true rfl, Nat.le_of_ble_eq_true rfl⟩ (⟨3, (brM (up X 22 0 (0)) n), Or.inl (⟨n, b, k, by omega, e8, e9.symm⟩), rfl, hM⟩) dX5_press_222
                      · skip
                        refine lv_aload_n hx hb dX5_press_185 rfl (lv_at hl 5 rfl) ?_
                        refine g_get (C := RX5) (T := TX5) (N := 23) hx hb hts inX5 hown hG hM.1 rfl 6 (by decide) (by decide +kernel) rfl (v := .ref (bm + 5)) rfl dX5_press_186 ?_
                        refine b_iconst hx hb dX5_press_189 ?_
                        refine lv_iload_n hx hb dX5_press_190 rfl (lv_at hl 6 rfl) ?_
                        refine b_imul hx hb dX5_press_191 ?_
                        refine lv_iload hx hb dX5_press_192 (lv_at hl 0 rfl) ?_
                        refine b_iadd hx hb dX5_press_194 ?_
                        have b_195 : 1 ≤ X 6 (3 * n + 2) ∧ X 6 (3 * n + 2) ≤ 9 := hV.1 6 _ (by decide) rfl
                        refine g_iald (n := 24) hx hb hG (f := fun i => z2 ((up X 22 0 (0)) 6 i)) (show ca D (bm + 5) (iA (ks 0) 24 (fun i => z2 ((up X 22 0 (0)) 6 i))) _ from hM.2.1 6 (sr_of (by decide))) (3 * n + 2) ⟨by omega, by omega, by decide⟩ dX5_press_195 ?_
                        refine W.eq (g2 := F0 m 196 ls (.int (z2 (X 6 (3 * n + 2))) :: [.int (z2 (((X 6 (3 * n + b)) + 0) + 0))])) rfl ?_
                        refine lv_goto (tgt := 200) hx hb dX5_press_196 (by decide) ?_
                        refine b_iadd hx hb dX5_press_200 ?_
                        refine lv_istore (lv' := [(6, .int (z2 ((((X 6 (3 * n + b)) + 0) + 0) + (X 6 (3 * n + 2))))), (7, .int (z2 (2))), (5, .int (z2 (0))), (4, .int (z2 (((12 * ((n : Nat) : Int)) + (X 5 (3 * n + b))) - 1))), (3, .int (z2 ((3 * ((n : Nat) : Int)) + ((b : Nat) : Int)))), (0, .ref bm), (1, .int (z2 (((n : Nat) : Int)))), (2, .int (z2 (((b : Nat) : Int))))]) hx hb dX5_press_201 hl (by decide) rfl (fun ls hl => ?_)
                        refine b_iinc (lv' := [(7, .int (z2 (3))), (6, .int (z2 ((((X 6 (3 * n + b)) + 0) + 0) + (X 6 (3 * n + 2))))), (5, .int (z2 (0))), (4, .int (z2 (((12 * ((n : Nat) : Int)) + (X 5 (3 * n + b))) - 1))), (3, .int (z2 ((3 * ((n : Nat) : Int)) + ((b : Nat) : Int)))), (0, .ref bm), (1, .int (z2 (((n : Nat) : Int)))), (2, .int (z2 (((b : Nat) : Int))))]) hx hb dX5_press_203 hl (k := 1) rfl (by decide) rfl (fun ls hl => ?_)
                        refine lv_goto (tgt := 163) hx hb dX5_press_206 (by decide) ?_
                        refine lv_iload hx hb dX5_press_163 (lv_at hl 0 rfl) ?_
                        refine b_iconst hx hb dX5_press_165 ?_
                        refine b_icmp_ge (tgt := 209) hx hb dX5_press_166 (by decide) ⟨⟨by omega, by omega⟩, ⟨by omega, by omega⟩⟩ (fun _ => ?_) (fun c => absurd c (by omega))
                        refine lv_iload hx hb dX5_press_209 (lv_at hl 1 rfl) ?_
                        refine b_bipush hx hb dX5_press_211 (by decide +kernel) ?_
                        refine b_icmp_le (tgt := 223) hx hb dX5_press_213 (by decide) ⟨⟨by omega, by omega⟩, ⟨by omega, by omega⟩⟩ (fun c_213 => ?_) (fun c_213 => ?_)
                        · skip
                          refine lv_aload_n hx hb dX5_press_223 rfl (lv_at hl 5 rfl) ?_
                          refine g_get (C := RX5) (T := TX5) (N := 23) hx hb hts inX5 hown hG hM.1 rfl 8 (by decide) (by decide +kernel) rfl (v := .ref (bm + 7)) rfl dX5_press_224 ?_
                          refine lv_iload hx hb dX5_press_227 (lv_at hl 3 rfl) ?_
                          refine lv_dup2_11 hx hb dX5_press_229 rfl rfl ?_
                          have b_230 : 0 ≤ X 8 (12 * n + k) ∧ X 8 (12 * n + k) ≤ 1000 := hV.1 8 _ (by decide) rfl
                          refine g_iald (n := 96) hx hb hG (f := fun i => z2 ((up X 22 0 (0)) 8 i)) (show ca D (bm + 7) (iA (ks 0) 96 (fun i => z2 ((up X 22 0 (0)) 8 i))) _ from hM.2.1 8 (sr_of (by decide))) (12 * n + k) ⟨by omega, by omega, by decide⟩ dX5_press_230 ?_
                          refine W.eq (g2 := F0 m 231 ls (.int (z2 (X 8 (12 * n + k))) :: [.int (z2 (((12 * ((n : Nat) : Int)) + (X 5 (3 * n + b))) - 1)), .ref (bm + 7)])) rfl ?_
                          refine lv_iload hx hb dX5_press_231 (lv_at hl 2 rfl) ?_
                          refine b_if_eq (tgt := 240) hx hb dX5_press_233 (by decide) ⟨by omega, by omega⟩ (fun _ => ?_) (fun c => absurd c (by omega))
                          refine b_iconst hx hb dX5_press_240 ?_
                          refine b_isub hx hb dX5_press_241 ?_
                          refine g_iast (n := 96) hx hb hG hS (f := fun i => z2 ((up X 22 0 (0)) 8 i)) (show ca D (bm + 7) (iA (ks 0) 96 (fun i => z2 ((up X 22 0 (0)) 8 i))) _ from hM.2.1 8 (sr_of (by decide))) (Or.inl ⟨by omega, by omega⟩) (12 * n + k) ⟨by omega, by omega, by decide⟩ dX5_press_242 (fun H locs he hz oq hS => ?_)
                          have hM : PM D ks bm (up (up X 22 0 (0)) 8 (12 * n + k) ((X 8 (12 * n + k)) - 1)) H := hM.row (f := 8) (sr_of (by decide)) he oq
                          refine lv_aload_n hx hb dX5_press_243 rfl (lv_at hl 5 rfl) ?_
                          refine lv_iload_n hx hb dX5_press_244 rfl (lv_at hl 4 rfl) ?_
                          refine g_run (vx_runV (As := [.int (z2 ((3 * ((n : Nat) : Int)) + ((b : Nat) : Int)))]) (rest := []) ⟨hx, hb, hml, hown, hts⟩ (m_begins l D ks bx bm hbm (up (up X 22 0 (0)) 8 (12 * n + k) ((X 8 (12 * n + k)) - 1)) _ hM (vs_up (vs_uf hV (by decide)) (by decide) (fun _ _ => by show 0 ≤ _ ∧ _ ≤ (1000 : Int); omega)) (i := 3 * n + b) ((3 * ((n : Nat) : Int)) + ((b : Nat) : Int)) ⟨by omega, by omega⟩ (by show 0 < X 5 (3 * n + b); omega)) (cwV 1 hts gX5_press_X5_begins rfl rfl rfl (by decide +kernel) ⟨Nat.le_of_ble_eq_true rfl, Nat.le_of_ble_eq_true rfl⟩) (g_preV (r := (RX5, TX5, 23)) hG hS (rm_ge hbm) hM.1 rfl) rfl rfl hl.1 rfl (lv_room (Nat.le_of_ble_eq_true rfl)) dX5_press_245 ⟨Nat.le_of_ble_eq_true rfl, Nat.le_of_ble_eq_true rfl⟩) hS (fun _ h => h) (fun _ _ _ _ _ h => h.elim) (fun v H1 locs hp hz9 hk9 hS => ?_)
                          obtain ⟨rfl, hM⟩ := hp
                          refine W.eq (g2 := F0 m 248 ls []) rfl ?_
                          refine b_iconst hx hb dX5_press_248 ?_
                          have e9 : pmS X (up X 22 0 0) n (3 * n + b) k = (beS (up (up X 22 0 (0)) 8 (12 * n + k) ((X 8 (12 * n + k)) - 1)) (3 * n + b)) := by
                            unfold pmS plM
                            (repeat' split) <;> first | rfl | omega
                          have e8 : (1 : Int) = pmV X n (3 * n + b) k := by
                            unfold pmV plM
                            (repeat' split) <;> omega
                          exact g_iret hx hb hr hlocks hS ⟨Nat.le_of_ble_eq_true rfl, Nat.le_of_ble_eq_true rfl⟩ (⟨1, (beS (up (up X 22 0 (0)) 8 (12 * n + k) ((X 8 (12 * n + k)) - 1)) (3 * n + b)), Or.inl (⟨n, b, k, by omega, e8, e9.symm⟩), rfl, hM⟩) dX5_press_249
                        · skip
                          refine lv_aload_n hx hb dX5_press_216 rfl (lv_at hl 5 rfl) ?_
                          refine lv_iload_n hx hb dX5_press_217 rfl (lv_at hl 6 rfl) ?_
                          refine g_run (vx_runV (As := [.int (z2 (((n : Nat) : Int)))]) (rest := []) ⟨hx, hb, hml, hown, hts⟩ (m_breaks l D ks bx bm hbm (up X 22 0 (0)) _ hM (vs_uf (hV) (by decide)) (n := n) (((n : Nat) : Int)) ⟨by omega, by omega⟩) (cwV 1 hts gX5_press_X5_breaks rfl rfl rfl (by decide +kernel) ⟨Nat.le_of_ble_eq_true rfl, Nat.le_of_ble_eq_true rfl⟩) (g_preV (r := (RX5, TX5, 23)) hG hS (rm_ge hbm) hM.1 rfl) rfl rfl hl.1 rfl (lv_room (Nat.le_of_ble_eq_true rfl)) dX5_press_218 ⟨Nat.le_of_ble_eq_true rfl, Nat.le_of_ble_eq_true rfl⟩) hS (fun _ h => h) (fun _ _ _ _ _ h => h.elim) (fun v H1 locs hp hz9 hk9 hS => ?_)
                          obtain ⟨rfl, hM⟩ := hp
                          have hV : VS (brM (up X 22 0 (0)) n) := vs_br (vs_uf (hV) (by decide)) n
                          refine W.eq (g2 := F0 m 221 ls []) rfl ?_
                          refine b_iconst hx hb dX5_press_221 ?_
                          have e9 : pmS X (up X 22 0 0) n (3 * n + b) k = (brM (up X 22 0 (0)) n) := by
                            unfold pmS plM
                            (repeat' split) <;> first | rfl | omega
                          have e8 : (3 : Int) = pmV X n (3 * n + b) k := by
                            unfold pmV plM
                            (repeat' split) <;> omega
                          exact g_iret hx hb hr hlocks hS ⟨Nat.le_of_ble_eq_true rfl, Nat.le_of_ble_eq_true rfl⟩ (⟨3, (brM (up X 22 0 (0)) n), Or.inl (⟨n, b, k, by omega, e8, e9.symm⟩), rfl, hM⟩) dX5_press_222
                    · skip
                      refine lv_aload_n hx hb dX5_press_185 rfl (lv_at hl 5 rfl) ?_
                      refine g_get (C := RX5) (T := TX5) (N := 23) hx hb hts inX5 hown hG hM.1 rfl 6 (by decide) (by decide +kernel) rfl (v := .ref (bm + 5)) rfl dX5_press_186 ?_
                      refine b_iconst hx hb dX5_press_189 ?_
                      refine lv_iload_n hx hb dX5_press_190 rfl (lv_at hl 6 rfl) ?_
                      refine b_imul hx hb dX5_press_191 ?_
                      refine lv_iload hx hb dX5_press_192 (lv_at hl 0 rfl) ?_
                      refine b_iadd hx hb dX5_press_194 ?_
                      have b_195 : 1 ≤ X 6 (3 * n + 1) ∧ X 6 (3 * n + 1) ≤ 9 := hV.1 6 _ (by decide) rfl
                      refine g_iald (n := 24) hx hb hG (f := fun i => z2 ((up X 22 0 (0)) 6 i)) (show ca D (bm + 5) (iA (ks 0) 24 (fun i => z2 ((up X 22 0 (0)) 6 i))) _ from hM.2.1 6 (sr_of (by decide))) (3 * n + 1) ⟨by omega, by omega, by decide⟩ dX5_press_195 ?_
                      refine W.eq (g2 := F0 m 196 ls (.int (z2 (X 6 (3 * n + 1))) :: [.int (z2 ((X 6 (3 * n + b)) + 0))])) rfl ?_
                      refine lv_goto (tgt := 200) hx hb dX5_press_196 (by decide) ?_
                      refine b_iadd hx hb dX5_press_200 ?_
                      refine lv_istore (lv' := [(6, .int (z2 (((X 6 (3 * n + b)) + 0) + (X 6 (3 * n + 1))))), (7, .int (z2 (1))), (5, .int (z2 (0))), (4, .int (z2 (((12 * ((n : Nat) : Int)) + (X 5 (3 * n + b))) - 1))), (3, .int (z2 ((3 * ((n : Nat) : Int)) + ((b : Nat) : Int)))), (0, .ref bm), (1, .int (z2 (((n : Nat) : Int)))), (2, .int (z2 (((b : Nat) : Int))))]) hx hb dX5_press_201 hl (by decide) rfl (fun ls hl => ?_)
                      refine b_iinc (lv' := [(7, .int (z2 (2))), (6, .int (z2 (((X 6 (3 * n + b)) + 0) + (X 6 (3 * n + 1))))), (5, .int (z2 (0))), (4, .int (z2 (((12 * ((n : Nat) : Int)) + (X 5 (3 * n + b))) - 1))), (3, .int (z2 ((3 * ((n : Nat) : Int)) + ((b : Nat) : Int)))), (0, .ref bm), (1, .int (z2 (((n : Nat) : Int)))), (2, .int (z2 (((b : Nat) : Int))))]) hx hb dX5_press_203 hl (k := 1) rfl (by decide) rfl (fun ls hl => ?_)
                      refine lv_goto (tgt := 163) hx hb dX5_press_206 (by decide) ?_
                      refine lv_iload hx hb dX5_press_163 (lv_at hl 0 rfl) ?_
                      refine b_iconst hx hb dX5_press_165 ?_
                      refine b_icmp_ge (tgt := 209) hx hb dX5_press_166 (by decide) ⟨⟨by omega, by omega⟩, ⟨by omega, by omega⟩⟩ (fun c => absurd c (by omega)) (fun _ => ?_)
                      refine lv_iload hx hb dX5_press_169 (lv_at hl 1 rfl) ?_
                      refine lv_aload_n hx hb dX5_press_171 rfl (lv_at hl 5 rfl) ?_
                      refine g_get (C := RX5) (T := TX5) (N := 23) hx hb hts inX5 hown hG hM.1 rfl 7 (by decide) (by decide +kernel) rfl (v := .ref (bm + 6)) rfl dX5_press_172 ?_
                      refine b_iconst hx hb dX5_press_175 ?_
                      refine lv_iload_n hx hb dX5_press_176 rfl (lv_at hl 6 rfl) ?_
                      refine b_imul hx hb dX5_press_177 ?_
                      refine lv_iload hx hb dX5_press_178 (lv_at hl 0 rfl) ?_
                      refine b_iadd hx hb dX5_press_180 ?_
                      have b_181 : 0 ≤ X 7 (3 * n + 2) ∧ X 7 (3 * n + 2) ≤ 1000024 := hV.1 7 _ (by decide) rfl
                      refine g_iald (n := 24) hx hb hG (f := fun i => z2 ((up X 22 0 (0)) 7 i)) (show ca D (bm + 6) (iA (ks 0) 24 (fun i => z2 ((up X 22 0 (0)) 7 i))) _ from hM.2.1 7 (sr_of (by decide))) (3 * n + 2) ⟨by omega, by omega, by decide⟩ dX5_press_181 ?_
                      refine W.eq (g2 := F0 m 182 ls (.int (z2 (X 7 (3 * n + 2))) :: [.int (z2 (((X 6 (3 * n + b)) + 0) + (X 6 (3 * n + 1))))])) rfl ?_
                      refine b_if_le (tgt := 199) hx hb dX5_press_182 (by decide) ⟨by omega, by omega⟩ (fun c_182 => ?_) (fun c_182 => ?_)
                      · skip
                        refine b_iconst hx hb dX5_press_199 ?_
                        refine b_iadd hx hb dX5_press_200 ?_
                        refine lv_istore (lv' := [(6, .int (z2 ((((X 6 (3 * n + b)) + 0) + (X 6 (3 * n + 1))) + 0))), (7, .int (z2 (2))), (5, .int (z2 (0))), (4, .int (z2 (((12 * ((n : Nat) : Int)) + (X 5 (3 * n + b))) - 1))), (3, .int (z2 ((3 * ((n : Nat) : Int)) + ((b : Nat) : Int)))), (0, .ref bm), (1, .int (z2 (((n : Nat) : Int)))), (2, .int (z2 (((b : Nat) : Int))))]) hx hb dX5_press_201 hl (by decide) rfl (fun ls hl => ?_)
                        refine b_iinc (lv' := [(7, .int (z2 (3))), (6, .int (z2 ((((X 6 (3 * n + b)) + 0) + (X 6 (3 * n + 1))) + 0))), (5, .int (z2 (0))), (4, .int (z2 (((12 * ((n : Nat) : Int)) + (X 5 (3 * n + b))) - 1))), (3, .int (z2 ((3 * ((n : Nat) : Int)) + ((b : Nat) : Int)))), (0, .ref bm), (1, .int (z2 (((n : Nat) : Int)))), (2, .int (z2 (((b : Nat) : Int))))]) hx hb dX5_press_203 hl (k := 1) rfl (by decide) rfl (fun ls hl => ?_)
                        refine lv_goto (tgt := 163) hx hb dX5_press_206 (by decide) ?_
                        refine lv_iload hx hb dX5_press_163 (lv_at hl 0 rfl) ?_
                        refine b_iconst hx hb dX5_press_165 ?_
                        refine b_icmp_ge (tgt := 209) hx hb dX5_press_166 (by decide) ⟨⟨by omega, by omega⟩, ⟨by omega, by omega⟩⟩ (fun _ => ?_) (fun c => absurd c (by omega))
                        refine lv_iload hx hb dX5_press_209 (lv_at hl 1 rfl) ?_
                        refine b_bipush hx hb dX5_press_211 (by decide +kernel) ?_
                        refine b_icmp_le (tgt := 223) hx hb dX5_press_213 (by decide) ⟨⟨by omega, by omega⟩, ⟨by omega, by omega⟩⟩ (fun c_213 => ?_) (fun c_213 => ?_)
                        · skip
                          refine lv_aload_n hx hb dX5_press_223 rfl (lv_at hl 5 rfl) ?_
                          refine g_get (C := RX5) (T := TX5) (N := 23) hx hb hts inX5 hown hG hM.1 rfl 8 (by decide) (by decide +kernel) rfl (v := .ref (bm + 7)) rfl dX5_press_224 ?_
                          refine lv_iload hx hb dX5_press_227 (lv_at hl 3 rfl) ?_
                          refine lv_dup2_11 hx hb dX5_press_229 rfl rfl ?_
                          have b_230 : 0 ≤ X 8 (12 * n + k) ∧ X 8 (12 * n + k) ≤ 1000 := hV.1 8 _ (by decide) rfl
                          refine g_iald (n := 96) hx hb hG (f := fun i => z2 ((up X 22 0 (0)) 8 i)) (show ca D (bm + 7) (iA (ks 0) 96 (fun i => z2 ((up X 22 0 (0)) 8 i))) _ from hM.2.1 8 (sr_of (by decide))) (12 * n + k) ⟨by omega, by omega, by decide⟩ dX5_press_230 ?_
                          refine W.eq (g2 := F0 m 231 ls (.int (z2 (X 8 (12 * n + k))) :: [.int (z2 (((12 * ((n : Nat) : Int)) + (X 5 (3 * n + b))) - 1)), .ref (bm + 7)])) rfl ?_
                          refine lv_iload hx hb dX5_press_231 (lv_at hl 2 rfl) ?_
                          refine b_if_eq (tgt := 240) hx hb dX5_press_233 (by decide) ⟨by omega, by omega⟩ (fun _ => ?_) (fun c => absurd c (by omega))
                          refine b_iconst hx hb dX5_press_240 ?_
                          refine b_isub hx hb dX5_press_241 ?_
                          refine g_iast (n := 96) hx hb hG hS (f := fun i => z2 ((up X 22 0 (0)) 8 i)) (show ca D (bm + 7) (iA (ks 0) 96 (fun i => z2 ((up X 22 0 (0)) 8 i))) _ from hM.2.1 8 (sr_of (by decide))) (Or.inl ⟨by omega, by omega⟩) (12 * n + k) ⟨by omega, by omega, by decide⟩ dX5_press_242 (fun H locs he hz oq hS => ?_)
                          have hM : PM D ks bm (up (up X 22 0 (0)) 8 (12 * n + k) ((X 8 (12 * n + k)) - 1)) H := hM.row (f := 8) (sr_of (by decide)) he oq
                          refine lv_aload_n hx hb dX5_press_243 rfl (lv_at hl 5 rfl) ?_
                          refine lv_iload_n hx hb dX5_press_244 rfl (lv_at hl 4 rfl) ?_
                          refine g_run (vx_runV (As := [.int (z2 ((3 * ((n : Nat) : Int)) + ((b : Nat) : Int)))]) (rest := []) ⟨hx, hb, hml, hown, hts⟩ (m_begins l D ks bx bm hbm (up (up X 22 0 (0)) 8 (12 * n + k) ((X 8 (12 * n + k)) - 1)) _ hM (vs_up (vs_uf hV (by decide)) (by decide) (fun _ _ => by show 0 ≤ _ ∧ _ ≤ (1000 : Int); omega)) (i := 3 * n + b) ((3 * ((n : Nat) : Int)) + ((b : Nat) : Int)) ⟨by omega, by omega⟩ (by show 0 < X 5 (3 * n + b); omega)) (cwV 1 hts gX5_press_X5_begins rfl rfl rfl (by decide +kernel) ⟨Nat.le_of_ble_eq_true rfl, Nat.le_of_ble_eq_true rfl⟩) (g_preV (r := (RX5, TX5, 23)) hG hS (rm_ge hbm) hM.1 rfl) rfl rfl hl.1 rfl (lv_room (Nat.le_of_ble_eq_true rfl)) dX5_press_245 ⟨Nat.le_of_ble_eq_true rfl, Nat.le_of_ble_eq_true rfl⟩) hS (fun _ h => h) (fun _ _ _ _ _ h => h.elim) (fun v H1 locs hp hz9 hk9 hS => ?_)
                          obtain ⟨rfl, hM⟩ := hp
                          refine W.eq (g2 := F0 m 248 ls []) rfl ?_
                          refine b_iconst hx hb dX5_press_248 ?_
                          have e9 : pmS X (up X 22 0 0) n (3 * n + b) k = (beS (up (up X 22 0 (0)) 8 (12 * n + k) ((X 8 (12 * n + k)) - 1)) (3 * n + b)) := by
                            unfold pmS plM
                            (repeat' split) <;> first | rfl | omega
                          have e8 : (1 : Int) = pmV X n (3 * n + b) k := by
                            unfold pmV plM
                            (repeat' split) <;> omega
                          exact g_iret hx hb hr hlocks hS ⟨Nat.le_of_ble_eq_true rfl, Nat.le_of_ble_eq_true rfl⟩ (⟨1, (beS (up (up X 22 0 (0)) 8 (12 * n + k) ((X 8 (12 * n + k)) - 1)) (3 * n + b)), Or.inl (⟨n, b, k, by omega, e8, e9.symm⟩), rfl, hM⟩) dX5_press_249
                        · skip
                          refine lv_aload_n hx hb dX5_press_216 rfl (lv_at hl 5 rfl) ?_
                          refine lv_iload_n hx hb dX5_press_217 rfl (lv_at hl 6 rfl) ?_
                          refine g_run (vx_runV (As := [.int (z2 (((n : Nat) : Int)))]) (rest := []) ⟨hx, hb, hml, hown, hts⟩ (m_breaks l D ks bx bm hbm (up X 22 0 (0)) _ hM (vs_uf (hV) (by decide)) (n := n) (((n : Nat) : Int)) ⟨by omega, by omega⟩) (cwV 1 hts gX5_press_X5_breaks rfl rfl rfl (by decide +kernel) ⟨Nat.le_of_ble_eq_true rfl, Nat.le_of_ble_eq_true rfl⟩) (g_preV (r := (RX5, TX5, 23)) hG hS (rm_ge hbm) hM.1 rfl) rfl rfl hl.1 rfl (lv_room (Nat.le_of_ble_eq_true rfl)) dX5_press_218 ⟨Nat.le_of_ble_eq_true rfl, Nat.le_of_ble_eq_true rfl⟩) hS (fun _ h => h) (fun _ _ _ _ _ h => h.elim) (fun v H1 locs hp hz9 hk9 hS => ?_)
                          obtain ⟨rfl, hM⟩ := hp
                          have hV : VS (brM (up X 22 0 (0)) n) := vs_br (vs_uf (hV) (by decide)) n
                          refine W.eq (g2 := F0 m 221 ls []) rfl ?_
                          refine b_iconst hx hb dX5_press_221 ?_
                          have e9 : pmS X (up X 22 0 0) n (3 * n + b) k = (brM (up X 22 0 (0)) n) := by
                            unfold pmS plM
                            (repeat' split) <;> first | rfl | omega
                          have e8 : (3 : Int) = pmV X n (3 * n + b) k := by
                            unfold pmV plM
                            (repeat' split) <;> omega
                          exact g_iret hx hb hr hlocks hS ⟨Nat.le_of_ble_eq_true rfl, Nat.le_of_ble_eq_true rfl⟩ (⟨3, (brM (up X 22 0 (0)) n), Or.inl (⟨n, b, k, by omega, e8, e9.symm⟩), rfl, hM⟩) dX5_press_222
                      · skip
                        refine lv_aload_n hx hb dX5_press_185 rfl (lv_at hl 5 rfl) ?_
                        refine g_get (C := RX5) (T := TX5) (N := 23) hx hb hts inX5 hown hG hM.1 rfl 6 (by decide) (by decide +kernel) rfl (v := .ref (bm + 5)) rfl dX5_press_186 ?_
                        refine b_iconst hx hb dX5_press_189 ?_
                        refine lv_iload_n hx hb dX5_press_190 rfl (lv_at hl 6 rfl) ?_
                        refine b_imul hx hb dX5_press_191 ?_
                        refine lv_iload hx hb dX5_press_192 (lv_at hl 0 rfl) ?_
                        refine b_iadd hx hb dX5_press_194 ?_
                        have b_195 : 1 ≤ X 6 (3 * n + 2) ∧ X 6 (3 * n + 2) ≤ 9 := hV.1 6 _ (by decide) rfl
                        refine g_iald (n := 24) hx hb hG (f := fun i => z2 ((up X 22 0 (0)) 6 i)) (show ca D (bm + 5) (iA (ks 0) 24 (fun i => z2 ((up X 22 0 (0)) 6 i))) _ from hM.2.1 6 (sr_of (by decide))) (3 * n + 2) ⟨by omega, by omega, by decide⟩ dX5_press_195 ?_
                        refine W.eq (g2 := F0 m 196 ls (.int (z2 (X 6 (3 * n + 2))) :: [.int (z2 (((X 6 (3 * n + b)) + 0) + (X 6 (3 * n + 1))))])) rfl ?_
                        refine lv_goto (tgt := 200) hx hb dX5_press_196 (by decide) ?_
                        refine b_iadd hx hb dX5_press_200 ?_
                        refine lv_istore (lv' := [(6, .int (z2 ((((X 6 (3 * n + b)) + 0) + (X 6 (3 * n + 1))) + (X 6 (3 * n + 2))))), (7, .int (z2 (2))), (5, .int (z2 (0))), (4, .int (z2 (((12 * ((n : Nat) : Int)) + (X 5 (3 * n + b))) - 1))), (3, .int (z2 ((3 * ((n : Nat) : Int)) + ((b : Nat) : Int)))), (0, .ref bm), (1, .int (z2 (((n : Nat) : Int)))), (2, .int (z2 (((b : Nat) : Int))))]) hx hb dX5_press_201 hl (by decide) rfl (fun ls hl => ?_)
                        refine b_iinc (lv' := [(7, .int (z2 (3))), (6, .int (z2 ((((X 6 (3 * n + b)) + 0) + (X 6 (3 * n + 1))) + (X 6 (3 * n + 2))))), (5, .int (z2 (0))), (4, .int (z2 (((12 * ((n : Nat) : Int)) + (X 5 (3 * n + b))) - 1))), (3, .int (z2 ((3 * ((n : Nat) : Int)) + ((b : Nat) : Int)))), (0, .ref bm), (1, .int (z2 (((n : Nat) : Int)))), (2, .int (z2 (((b : Nat) : Int))))]) hx hb dX5_press_203 hl (k := 1) rfl (by decide) rfl (fun ls hl => ?_)
                        refine lv_goto (tgt := 163) hx hb dX5_press_206 (by decide) ?_
                        refine lv_iload hx hb dX5_press_163 (lv_at hl 0 rfl) ?_
                        refine b_iconst hx hb dX5_press_165 ?_
                        refine b_icmp_ge (tgt := 209) hx hb dX5_press_166 (by decide) ⟨⟨by omega, by omega⟩, ⟨by omega, by omega⟩⟩ (fun _ => ?_) (fun c => absurd c (by omega))
                        refine lv_iload hx hb dX5_press_209 (lv_at hl 1 rfl) ?_
                        refine b_bipush hx hb dX5_press_211 (by decide +kernel) ?_
                        refine b_icmp_le (tgt := 223) hx hb dX5_press_213 (by decide) ⟨⟨by omega, by omega⟩, ⟨by omega, by omega⟩⟩ (fun c_213 => ?_) (fun c_213 => ?_)
                        · skip
                          refine lv_aload_n hx hb dX5_press_223 rfl (lv_at hl 5 rfl) ?_
                          refine g_get (C := RX5) (T := TX5) (N := 23) hx hb hts inX5 hown hG hM.1 rfl 8 (by decide) (by decide +kernel) rfl (v := .ref (bm + 7)) rfl dX5_press_224 ?_
                          refine lv_iload hx hb dX5_press_227 (lv_at hl 3 rfl) ?_
                          refine lv_dup2_11 hx hb dX5_press_229 rfl rfl ?_
                          have b_230 : 0 ≤ X 8 (12 * n + k) ∧ X 8 (12 * n + k) ≤ 1000 := hV.1 8 _ (by decide) rfl
                          refine g_iald (n := 96) hx hb hG (f := fun i => z2 ((up X 22 0 (0)) 8 i)) (show ca D (bm + 7) (iA (ks 0) 96 (fun i => z2 ((up X 22 0 (0)) 8 i))) _ from hM.2.1 8 (sr_of (by decide))) (12 * n + k) ⟨by omega, by omega, by decide⟩ dX5_press_230 ?_
                          refine W.eq (g2 := F0 m 231 ls (.int (z2 (X 8 (12 * n + k))) :: [.int (z2 (((12 * ((n : Nat) : Int)) + (X 5 (3 * n + b))) - 1)), .ref (bm + 7)])) rfl ?_
                          refine lv_iload hx hb dX5_press_231 (lv_at hl 2 rfl) ?_
                          refine b_if_eq (tgt := 240) hx hb dX5_press_233 (by decide) ⟨by omega, by omega⟩ (fun _ => ?_) (fun c => absurd c (by omega))
                          refine b_iconst hx hb dX5_press_240 ?_
                          refine b_isub hx hb dX5_press_241 ?_
                          refine g_iast (n := 96) hx hb hG hS (f := fun i => z2 ((up X 22 0 (0)) 8 i)) (show ca D (bm + 7) (iA (ks 0) 96 (fun i => z2 ((up X 22 0 (0)) 8 i))) _ from hM.2.1 8 (sr_of (by decide))) (Or.inl ⟨by omega, by omega⟩) (12 * n + k) ⟨by omega, by omega, by decide⟩ dX5_press_242 (fun H locs he hz oq hS => ?_)
                          have hM : PM D ks bm (up (up X 22 0 (0)) 8 (12 * n + k) ((X 8 (12 * n + k)) - 1)) H := hM.row (f := 8) (sr_of (by decide)) he oq
                          refine lv_aload_n hx hb dX5_press_243 rfl (lv_at hl 5 rfl) ?_
                          refine lv_iload_n hx hb dX5_press_244 rfl (lv_at hl 4 rfl) ?_
                          refine g_run (vx_runV (As := [.int (z2 ((3 * ((n : Nat) : Int)) + ((b : Nat) : Int)))]) (rest := []) ⟨hx, hb, hml, hown, hts⟩ (m_begins l D ks bx bm hbm (up (up X 22 0 (0)) 8 (12 * n + k) ((X 8 (12 * n + k)) - 1)) _ hM (vs_up (vs_uf hV (by decide)) (by decide) (fun _ _ => by show 0 ≤ _ ∧ _ ≤ (1000 : Int); omega)) (i := 3 * n + b) ((3 * ((n : Nat) : Int)) + ((b : Nat) : Int)) ⟨by omega, by omega⟩ (by show 0 < X 5 (3 * n + b); omega)) (cwV 1 hts gX5_press_X5_begins rfl rfl rfl (by decide +kernel) ⟨Nat.le_of_ble_eq_true rfl, Nat.le_of_ble_eq_true rfl⟩) (g_preV (r := (RX5, TX5, 23)) hG hS (rm_ge hbm) hM.1 rfl) rfl rfl hl.1 rfl (lv_room (Nat.le_of_ble_eq_true rfl)) dX5_press_245 ⟨Nat.le_of_ble_eq_true rfl, Nat.le_of_ble_eq_true rfl⟩) hS (fun _ h => h) (fun _ _ _ _ _ h => h.elim) (fun v H1 locs hp hz9 hk9 hS => ?_)
                          obtain ⟨rfl, hM⟩ := hp
                          refine W.eq (g2 := F0 m 248 ls []) rfl ?_
                          refine b_iconst hx hb dX5_press_248 ?_
                          have e9 : pmS X (up X 22 0 0) n (3 * n + b) k = (beS (up (up X 22 0 (0)) 8 (12 * n + k) ((X 8 (12 * n + k)) - 1)) (3 * n + b)) := by
                            unfold pmS plM
                            (repeat' split) <;> first | rfl | omega
                          have e8 : (1 : Int) = pmV X n (3 * n + b) k := by
                            unfold pmV plM
                            (repeat' split) <;> omega
                          exact g_iret hx hb hr hlocks hS ⟨Nat.le_of_ble_eq_true rfl, Nat.le_of_ble_eq_true rfl⟩ (⟨1, (beS (up (up X 22 0 (0)) 8 (12 * n + k) ((X 8 (12 * n + k)) - 1)) (3 * n + b)), Or.inl (⟨n, b, k, by omega, e8, e9.symm⟩), rfl, hM⟩) dX5_press_249
                        · skip
                          refine lv_aload_n hx hb dX5_press_216 rfl (lv_at hl 5 rfl) ?_
                          refine lv_iload_n hx hb dX5_press_217 rfl (lv_at hl 6 rfl) ?_
                          refine g_run (vx_runV (As := [.int (z2 (((n : Nat) : Int)))]) (rest := []) ⟨hx, hb, hml, hown, hts⟩ (m_breaks l D ks bx bm hbm (up X 22 0 (0)) _ hM (vs_uf (hV) (by decide)) (n := n) (((n : Nat) : Int)) ⟨by omega, by omega⟩) (cwV 1 hts gX5_press_X5_breaks rfl rfl rfl (by decide +kernel) ⟨Nat.le_of_ble_eq_true rfl, Nat.le_of_ble_eq_true rfl⟩) (g_preV (r := (RX5, TX5, 23)) hG hS (rm_ge hbm) hM.1 rfl) rfl rfl hl.1 rfl (lv_room (Nat.le_of_ble_eq_true rfl)) dX5_press_218 ⟨Nat.le_of_ble_eq_true rfl, Nat.le_of_ble_eq_true rfl⟩) hS (fun _ h => h) (fun _ _ _ _ _ h => h.elim) (fun v H1 locs hp hz9 hk9 hS => ?_)
                          obtain ⟨rfl, hM⟩ := hp
                          have hV : VS (brM (up X 22 0 (0)) n) := vs_br (vs_uf (hV) (by decide)) n
                          refine W.eq (g2 := F0 m 221 ls []) rfl ?_
                          refine b_iconst hx hb dX5_press_221 ?_
                          have e9 : pmS X (up X 22 0 0) n (3 * n + b) k = (brM (up X 22 0 (0)) n) := by
                            unfold pmS plM
                            (repeat' split) <;> first | rfl | omega
                          have e8 : (3 : Int) = pmV X n (3 * n + b) k := by
                            unfold pmV plM
                            (repeat' split) <;> omega
                          exact g_iret hx hb hr hlocks hS ⟨Nat.le_of_ble_eq_true rfl, Nat.le_of_ble_eq_true rfl⟩ (⟨3, (brM (up X 22 0 (0)) n), Or.inl (⟨n, b, k, by omega, e8, e9.symm⟩), rfl, hM⟩) dX5_press_222
                  · skip
                    refine lv_aload_n hx hb dX5_press_185 rfl (lv_at hl 5 rfl) ?_
                    refine g_get (C := RX5) (T := TX5) (N := 23) hx hb hts inX5 hown hG hM.1 rfl 6 (by decide) (by decide +kernel) rfl (v := .ref (bm + 5)) rfl dX5_press_186 ?_
                    refine b_iconst hx hb dX5_press_189 ?_
                    refine lv_iload_n hx hb dX5_press_190 rfl (lv_at hl 6 rfl) ?_
                    refine b_imul hx hb dX5_press_191 ?_
                    refine lv_iload hx hb dX5_press_192 (lv_at hl 0 rfl) ?_
                    refine b_iadd hx hb dX5_press_194 ?_
                    have b_195 : 1 ≤ X 6 (3 * n + 0) ∧ X 6 (3 * n + 0) ≤ 9 := hV.1 6 _ (by decide) rfl
                    refine g_iald (n := 24) hx hb hG (f := fun i => z2 ((up X 22 0 (0)) 6 i)) (show ca D (bm + 5) (iA (ks 0) 24 (fun i => z2 ((up X 22 0 (0)) 6 i))) _ from hM.2.1 6 (sr_of (by decide))) (3 * n + 0) ⟨by omega, by omega, by decide⟩ dX5_press_195 ?_
                    refine W.eq (g2 := F0 m 196 ls (.int (z2 (X 6 (3 * n + 0))) :: [.int (z2 (X 6 (3 * n + b)))])) rfl ?_
                    refine lv_goto (tgt := 200) hx hb dX5_press_196 (by decide) ?_
                    refine b_iadd hx hb dX5_press_200 ?_
                    refine lv_istore (lv' := [(6, .int (z2 ((X 6 (3 * n + b)) + (X 6 (3 * n + 0))))), (7, .int (z2 (0))), (5, .int (z2 (0))), (4, .int (z2 (((12 * ((n : Nat) : Int)) + (X 5 (3 * n + b))) - 1))), (3, .int (z2 ((3 * ((n : Nat) : Int)) + ((b : Nat) : Int)))), (0, .ref bm), (1, .int (z2 (((n : Nat) : Int)))), (2, .int (z2 (((b : Nat) : Int))))]) hx hb dX5_press_201 hl (by decide) rfl (fun ls hl => ?_)
                    refine b_iinc (lv' := [(7, .int (z2 (1))), (6, .int (z2 ((X 6 (3 * n + b)) + (X 6 (3 * n + 0))))), (5, .int (z2 (0))), (4, .int (z2 (((12 * ((n : Nat) : Int)) + (X 5 (3 * n + b))) - 1))), (3, .int (z2 ((3 * ((n : Nat) : Int)) + ((b : Nat) : Int)))), (0, .ref bm), (1, .int (z2 (((n : Nat) : Int)))), (2, .int (z2 (((b : Nat) : Int))))]) hx hb dX5_press_203 hl (k := 1) rfl (by decide) rfl (fun ls hl => ?_)
                    refine lv_goto (tgt := 163) hx hb dX5_press_206 (by decide) ?_
                    refine lv_iload hx hb dX5_press_163 (lv_at hl 0 rfl) ?_
                    refine b_iconst hx hb dX5_press_165 ?_
                    refine b_icmp_ge (tgt := 209) hx hb dX5_press_166 (by decide) ⟨⟨by omega, by omega⟩, ⟨by omega, by omega⟩⟩ (fun c => absurd c (by omega)) (fun _ => ?_)
                    refine lv_iload hx hb dX5_press_169 (lv_at hl 1 rfl) ?_
                    refine lv_aload_n hx hb dX5_press_171 rfl (lv_at hl 5 rfl) ?_
                    refine g_get (C := RX5) (T := TX5) (N := 23) hx hb hts inX5 hown hG hM.1 rfl 7 (by decide) (by decide +kernel) rfl (v := .ref (bm + 6)) rfl dX5_press_172 ?_
                    refine b_iconst hx hb dX5_press_175 ?_
                    refine lv_iload_n hx hb dX5_press_176 rfl (lv_at hl 6 rfl) ?_
                    refine b_imul hx hb dX5_press_177 ?_
                    refine lv_iload hx hb dX5_press_178 (lv_at hl 0 rfl) ?_
                    refine b_iadd hx hb dX5_press_180 ?_
                    have b_181 : 0 ≤ X 7 (3 * n + 1) ∧ X 7 (3 * n + 1) ≤ 1000024 := hV.1 7 _ (by decide) rfl
                    refine g_iald (n := 24) hx hb hG (f := fun i => z2 ((up X 22 0 (0)) 7 i)) (show ca D (bm + 6) (iA (ks 0) 24 (fun i => z2 ((up X 22 0 (0)) 7 i))) _ from hM.2.1 7 (sr_of (by decide))) (3 * n + 1) ⟨by omega, by omega, by decide⟩ dX5_press_181 ?_
                    refine W.eq (g2 := F0 m 182 ls (.int (z2 (X 7 (3 * n + 1))) :: [.int (z2 ((X 6 (3 * n + b)) + (X 6 (3 * n + 0))))])) rfl ?_
                    refine b_if_le (tgt := 199) hx hb dX5_press_182 (by decide) ⟨by omega, by omega⟩ (fun c_182 => ?_) (fun c_182 => ?_)
                    · skip
                      refine b_iconst hx hb dX5_press_199 ?_
                      refine b_iadd hx hb dX5_press_200 ?_
                      refine lv_istore (lv' := [(6, .int (z2 (((X 6 (3 * n + b)) + (X 6 (3 * n + 0))) + 0))), (7, .int (z2 (1))), (5, .int (z2 (0))), (4, .int (z2 (((12 * ((n : Nat) : Int)) + (X 5 (3 * n + b))) - 1))), (3, .int (z2 ((3 * ((n : Nat) : Int)) + ((b : Nat) : Int)))), (0, .ref bm), (1, .int (z2 (((n : Nat) : Int)))), (2, .int (z2 (((b : Nat) : Int))))]) hx hb dX5_press_201 hl (by decide) rfl (fun ls hl => ?_)
                      refine b_iinc (lv' := [(7, .int (z2 (2))), (6, .int (z2 (((X 6 (3 * n + b)) + (X 6 (3 * n + 0))) + 0))), (5, .int (z2 (0))), (4, .int (z2 (((12 * ((n : Nat) : Int)) + (X 5 (3 * n + b))) - 1))), (3, .int (z2 ((3 * ((n : Nat) : Int)) + ((b : Nat) : Int)))), (0, .ref bm), (1, .int (z2 (((n : Nat) : Int)))), (2, .int (z2 (((b : Nat) : Int))))]) hx hb dX5_press_203 hl (k := 1) rfl (by decide) rfl (fun ls hl => ?_)
                      refine lv_goto (tgt := 163) hx hb dX5_press_206 (by decide) ?_
                      refine lv_iload hx hb dX5_press_163 (lv_at hl 0 rfl) ?_
                      refine b_iconst hx hb dX5_press_165 ?_
                      refine b_icmp_ge (tgt := 209) hx hb dX5_press_166 (by decide) ⟨⟨by omega, by omega⟩, ⟨by omega, by omega⟩⟩ (fun c => absurd c (by omega)) (fun _ => ?_)
                      refine lv_iload hx hb dX5_press_169 (lv_at hl 1 rfl) ?_
                      refine lv_aload_n hx hb dX5_press_171 rfl (lv_at hl 5 rfl) ?_
                      refine g_get (C := RX5) (T := TX5) (N := 23) hx hb hts inX5 hown hG hM.1 rfl 7 (by decide) (by decide +kernel) rfl (v := .ref (bm + 6)) rfl dX5_press_172 ?_
                      refine b_iconst hx hb dX5_press_175 ?_
                      refine lv_iload_n hx hb dX5_press_176 rfl (lv_at hl 6 rfl) ?_
                      refine b_imul hx hb dX5_press_177 ?_
                      refine lv_iload hx hb dX5_press_178 (lv_at hl 0 rfl) ?_
                      refine b_iadd hx hb dX5_press_180 ?_
                      have b_181 : 0 ≤ X 7 (3 * n + 2) ∧ X 7 (3 * n + 2) ≤ 1000024 := hV.1 7 _ (by decide) rfl
                      refine g_iald (n := 24) hx hb hG (f := fun i => z2 ((up X 22 0 (0)) 7 i)) (show ca D (bm + 6) (iA (ks 0) 24 (fun i => z2 ((up X 22 0 (0)) 7 i))) _ from hM.2.1 7 (sr_of (by decide))) (3 * n + 2) ⟨by omega, by omega, by decide⟩ dX5_press_181 ?_
                      refine W.eq (g2 := F0 m 182 ls (.int (z2 (X 7 (3 * n + 2))) :: [.int (z2 (((X 6 (3 * n + b)) + (X 6 (3 * n + 0))) + 0))])) rfl ?_
                      refine b_if_le (tgt := 199) hx hb dX5_press_182 (by decide) ⟨by omega, by omega⟩ (fun c_182 => ?_) (fun c_182 => ?_)
                      · skip
                        refine b_iconst hx hb dX5_press_199 ?_
                        refine b_iadd hx hb dX5_press_200 ?_
                        refine lv_istore (lv' := [(6, .int (z2 ((((X 6 (3 * n + b)) + (X 6 (3 * n + 0))) + 0) + 0))), (7, .int (z2 (2))), (5, .int (z2 (0))), (4, .int (z2 (((12 * ((n : Nat) : Int)) + (X 5 (3 * n + b))) - 1))), (3, .int (z2 ((3 * ((n : Nat) : Int)) + ((b : Nat) : Int)))), (0, .ref bm), (1, .int (z2 (((n : Nat) : Int)))), (2, .int (z2 (((b : Nat) : Int))))]) hx hb dX5_press_201 hl (by decide) rfl (fun ls hl => ?_)
                        refine b_iinc (lv' := [(7, .int (z2 (3))), (6, .int (z2 ((((X 6 (3 * n + b)) + (X 6 (3 * n + 0))) + 0) + 0))), (5, .int (z2 (0))), (4, .int (z2 (((12 * ((n : Nat) : Int)) + (X 5 (3 * n + b))) - 1))), (3, .int (z2 ((3 * ((n : Nat) : Int)) + ((b : Nat) : Int)))), (0, .ref bm), (1, .int (z2 (((n : Nat) : Int)))), (2, .int (z2 (((b : Nat) : Int))))]) hx hb dX5_press_203 hl (k := 1) rfl (by decide) rfl (fun ls hl => ?_)
                        refine lv_goto (tgt := 163) hx hb dX5_press_206 (by decide) ?_
                        refine lv_iload hx hb dX5_press_163 (lv_at hl 0 rfl) ?_
                        refine b_iconst hx hb dX5_press_165 ?_
                        refine b_icmp_ge (tgt := 209) hx hb dX5_press_166 (by decide) ⟨⟨by omega, by omega⟩, ⟨by omega, by omega⟩⟩ (fun _ => ?_) (fun c => absurd c (by omega))
                        refine lv_iload hx hb dX5_press_209 (lv_at hl 1 rfl) ?_
                        refine b_bipush hx hb dX5_press_211 (by decide +kernel) ?_
                        refine b_icmp_le (tgt := 223) hx hb dX5_press_213 (by decide) ⟨⟨by omega, by omega⟩, ⟨by omega, by omega⟩⟩ (fun c_213 => ?_) (fun c_213 => ?_)
                        · skip
                          refine lv_aload_n hx hb dX5_press_223 rfl (lv_at hl 5 rfl) ?_
                          refine g_get (C := RX5) (T := TX5) (N := 23) hx hb hts inX5 hown hG hM.1 rfl 8 (by decide) (by decide +kernel) rfl (v := .ref (bm + 7)) rfl dX5_press_224 ?_
                          refine lv_iload hx hb dX5_press_227 (lv_at hl 3 rfl) ?_
                          refine lv_dup2_11 hx hb dX5_press_229 rfl rfl ?_
                          have b_230 : 0 ≤ X 8 (12 * n + k) ∧ X 8 (12 * n + k) ≤ 1000 := hV.1 8 _ (by decide) rfl
                          refine g_iald (n := 96) hx hb hG (f := fun i => z2 ((up X 22 0 (0)) 8 i)) (show ca D (bm + 7) (iA (ks 0) 96 (fun i => z2 ((up X 22 0 (0)) 8 i))) _ from hM.2.1 8 (sr_of (by decide))) (12 * n + k) ⟨by omega, by omega, by decide⟩ dX5_press_230 ?_
                          refine W.eq (g2 := F0 m 231 ls (.int (z2 (X 8 (12 * n + k))) :: [.int (z2 (((12 * ((n : Nat) : Int)) + (X 5 (3 * n + b))) - 1)), .ref (bm + 7)])) rfl ?_
                          refine lv_iload hx hb dX5_press_231 (lv_at hl 2 rfl) ?_
                          refine b_if_eq (tgt := 240) hx hb dX5_press_233 (by decide) ⟨by omega, by omega⟩ (fun _ => ?_) (fun c => absurd c (by omega))
                          refine b_iconst hx hb dX5_press_240 ?_
                          refine b_isub hx hb dX5_press_241 ?_
                          refine g_iast (n := 96) hx hb hG hS (f := fun i => z2 ((up X 22 0 (0)) 8 i)) (show ca D (bm + 7) (iA (ks 0) 96 (fun i => z2 ((up X 22 0 (0)) 8 i))) _ from hM.2.1 8 (sr_of (by decide))) (Or.inl ⟨by omega, by omega⟩) (12 * n + k) ⟨by omega, by omega, by decide⟩ dX5_press_242 (fun H locs he hz oq hS => ?_)
                          have hM : PM D ks bm (up (up X 22 0 (0)) 8 (12 * n + k) ((X 8 (12 * n + k)) - 1)) H := hM.row (f := 8) (sr_of (by decide)) he oq
                          refine lv_aload_n hx hb dX5_press_243 rfl (lv_at hl 5 rfl) ?_
                          refine lv_iload_n hx hb dX5_press_244 rfl (lv_at hl 4 rfl) ?_
                          refine g_run (vx_runV (As := [.int (z2 ((3 * ((n : Nat) : Int)) + ((b : Nat) : Int)))]) (rest := []) ⟨hx, hb, hml, hown, hts⟩ (m_begins l D ks bx bm hbm (up (up X 22 0 (0)) 8 (12 * n + k) ((X 8 (12 * n + k)) - 1)) _ hM (vs_up (vs_uf hV (by decide)) (by decide) (fun _ _ => by show 0 ≤ _ ∧ _ ≤ (1000 : Int); omega)) (i := 3 * n + b) ((3 * ((n : Nat) : Int)) + ((b : Nat) : Int)) ⟨by omega, by omega⟩ (by show 0 < X 5 (3 * n + b); omega)) (cwV 1 hts gX5_press_X5_begins rfl rfl rfl (by decide +kernel) ⟨Nat.le_of_ble_eq_true rfl, Nat.le_of_ble_eq_true rfl⟩) (g_preV (r := (RX5, TX5, 23)) hG hS (rm_ge hbm) hM.1 rfl) rfl rfl hl.1 rfl (lv_room (Nat.le_of_ble_eq_true rfl)) dX5_press_245 ⟨Nat.le_of_ble_eq_true rfl, Nat.le_of_ble_eq_true rfl⟩) hS (fun _ h => h) (fun _ _ _ _ _ h => h.elim) (fun v H1 locs hp hz9 hk9 hS => ?_)
                          obtain ⟨rfl, hM⟩ := hp
                          refine W.eq (g2 := F0 m 248 ls []) rfl ?_
                          refine b_iconst hx hb dX5_press_248 ?_
                          have e9 : pmS X (up X 22 0 0) n (3 * n + b) k = (beS (up (up X 22 0 (0)) 8 (12 * n + k) ((X 8 (12 * n + k)) - 1)) (3 * n + b)) := by
                            unfold pmS plM
                            (repeat' split) <;> first | rfl | omega
                          have e8 : (1 : Int) = pmV X n (3 * n + b) k := by
                            unfold pmV plM
                            (repeat' split) <;> omega
                          exact g_iret hx hb hr hlocks hS ⟨Nat.le_of_ble_eq_true rfl, Nat.le_of_ble_eq_true rfl⟩ (⟨1, (beS (up (up X 22 0 (0)) 8 (12 * n + k) ((X 8 (12 * n + k)) - 1)) (3 * n + b)), Or.inl (⟨n, b, k, by omega, e8, e9.symm⟩), rfl, hM⟩) dX5_press_249
                        · skip
                          refine lv_aload_n hx hb dX5_press_216 rfl (lv_at hl 5 rfl) ?_
                          refine lv_iload_n hx hb dX5_press_217 rfl (lv_at hl 6 rfl) ?_
                          refine g_run (vx_runV (As := [.int (z2 (((n : Nat) : Int)))]) (rest := []) ⟨hx, hb, hml, hown, hts⟩ (m_breaks l D ks bx bm hbm (up X 22 0 (0)) _ hM (vs_uf (hV) (by decide)) (n := n) (((n : Nat) : Int)) ⟨by omega, by omega⟩) (cwV 1 hts gX5_press_X5_breaks rfl rfl rfl (by decide +kernel) ⟨Nat.le_of_ble_eq_true rfl, Nat.le_of_ble_eq_true rfl⟩) (g_preV (r := (RX5, TX5, 23)) hG hS (rm_ge hbm) hM.1 rfl) rfl rfl hl.1 rfl (lv_room (Nat.le_of_ble_eq_true rfl)) dX5_press_218 ⟨Nat.le_of_ble_eq_true rfl, Nat.le_of_ble_eq_true rfl⟩) hS (fun _ h => h) (fun _ _ _ _ _ h => h.elim) (fun v H1 locs hp hz9 hk9 hS => ?_)
                          obtain ⟨rfl, hM⟩ := hp
                          have hV : VS (brM (up X 22 0 (0)) n) := vs_br (vs_uf (hV) (by decide)) n
                          refine W.eq (g2 := F0 m 221 ls []) rfl ?_
                          refine b_iconst hx hb dX5_press_221 ?_
                          have e9 : pmS X (up X 22 0 0) n (3 * n + b) k = (brM (up X 22 0 (0)) n) := by
                            unfold pmS plM
                            (repeat' split) <;> first | rfl | omega
                          have e8 : (3 : Int) = pmV X n (3 * n + b) k := by
                            unfold pmV plM
                            (repeat' split) <;> omega
                          exact g_iret hx hb hr hlocks hS ⟨Nat.le_of_ble_eq_true rfl, Nat.le_of_ble_eq_true rfl⟩ (⟨3, (brM (up X 22 0 (0)) n), Or.inl (⟨n, b, k, by omega, e8, e9.symm⟩), rfl, hM⟩) dX5_press_222
                      · skip
                        refine lv_aload_n hx hb dX5_press_185 rfl (lv_at hl 5 rfl) ?_
                        refine g_get (C := RX5) (T := TX5) (N := 23) hx hb hts inX5 hown hG hM.1 rfl 6 (by decide) (by decide +kernel) rfl (v := .ref (bm + 5)) rfl dX5_press_186 ?_
                        refine b_iconst hx hb dX5_press_189 ?_
                        refine lv_iload_n hx hb dX5_press_190 rfl (lv_at hl 6 rfl) ?_
                        refine b_imul hx hb dX5_press_191 ?_
                        refine lv_iload hx hb dX5_press_192 (lv_at hl 0 rfl) ?_
                        refine b_iadd hx hb dX5_press_194 ?_
                        have b_195 : 1 ≤ X 6 (3 * n + 2) ∧ X 6 (3 * n + 2) ≤ 9 := hV.1 6 _ (by decide) rfl
                        refine g_iald (n := 24) hx hb hG (f := fun i => z2 ((up X 22 0 (0)) 6 i)) (show ca D (bm + 5) (iA (ks 0) 24 (fun i => z2 ((up X 22 0 (0)) 6 i))) _ from hM.2.1 6 (sr_of (by decide))) (3 * n + 2) ⟨by omega, by omega, by decide⟩ dX5_press_195 ?_
                        refine W.eq (g2 := F0 m 196 ls (.int (z2 (X 6 (3 * n + 2))) :: [.int (z2 (((X 6 (3 * n + b)) + (X 6 (3 * n + 0))) + 0))])) rfl ?_
                        refine lv_goto (tgt := 200) hx hb dX5_press_196 (by decide) ?_
                        refine b_iadd hx hb dX5_press_200 ?_
                        refine lv_istore (lv' := [(6, .int (z2 ((((X 6 (3 * n + b)) + (X 6 (3 * n + 0))) + 0) + (X 6 (3 * n + 2))))), (7, .int (z2 (2))), (5, .int (z2 (0))), (4, .int (z2 (((12 * ((n : Nat) : Int)) + (X 5 (3 * n + b))) - 1))), (3, .int (z2 ((3 * ((n : Nat) : Int)) + ((b : Nat) : Int)))), (0, .ref bm), (1, .int (z2 (((n : Nat) : Int)))), (2, .int (z2 (((b : Nat) : Int))))]) hx hb dX5_press_201 hl (by decide) rfl (fun ls hl => ?_)
                        refine b_iinc (lv' := [(7, .int (z2 (3))), (6, .int (z2 ((((X 6 (3 * n + b)) + (X 6 (3 * n + 0))) + 0) + (X 6 (3 * n + 2))))), (5, .int (z2 (0))), (4, .int (z2 (((12 * ((n : Nat) : Int)) + (X 5 (3 * n + b))) - 1))), (3, .int (z2 ((3 * ((n : Nat) : Int)) + ((b : Nat) : Int)))), (0, .ref bm), (1, .int (z2 (((n : Nat) : Int)))), (2, .int (z2 (((b : Nat) : Int))))]) hx hb dX5_press_203 hl (k := 1) rfl (by decide) rfl (fun ls hl => ?_)
                        refine lv_goto (tgt := 163) hx hb dX5_press_206 (by decide) ?_
                        refine lv_iload hx hb dX5_press_163 (lv_at hl 0 rfl) ?_
                        refine b_iconst hx hb dX5_press_165 ?_
                        refine b_icmp_ge (tgt := 209) hx hb dX5_press_166 (by decide) ⟨⟨by omega, by omega⟩, ⟨by omega, by omega⟩⟩ (fun _ => ?_) (fun c => absurd c (by omega))
                        refine lv_iload hx hb dX5_press_209 (lv_at hl 1 rfl) ?_
                        refine b_bipush hx hb dX5_press_211 (by decide +kernel) ?_
                        refine b_icmp_le (tgt := 223) hx hb dX5_press_213 (by decide) ⟨⟨by omega, by omega⟩, ⟨by omega, by omega⟩⟩ (fun c_213 => ?_) (fun c_213 => ?_)
                        · skip
                          refine lv_aload_n hx hb dX5_press_223 rfl (lv_at hl 5 rfl) ?_
                          refine g_get (C := RX5) (T := TX5) (N := 23) hx hb hts inX5 hown hG hM.1 rfl 8 (by decide) (by decide +kernel) rfl (v := .ref (bm + 7)) rfl dX5_press_224 ?_
                          refine lv_iload hx hb dX5_press_227 (lv_at hl 3 rfl) ?_
                          refine lv_dup2_11 hx hb dX5_press_229 rfl rfl ?_
                          have b_230 : 0 ≤ X 8 (12 * n + k) ∧ X 8 (12 * n + k) ≤ 1000 := hV.1 8 _ (by decide) rfl
                          refine g_iald (n := 96) hx hb hG (f := fun i => z2 ((up X 22 0 (0)) 8 i)) (show ca D (bm + 7) (iA (ks 0) 96 (fun i => z2 ((up X 22 0 (0)) 8 i))) _ from hM.2.1 8 (sr_of (by decide))) (12 * n + k) ⟨by omega, by omega, by decide⟩ dX5_press_230 ?_
                          refine W.eq (g2 := F0 m 231 ls (.int (z2 (X 8 (12 * n + k))) :: [.int (z2 (((12 * ((n : Nat) : Int)) + (X 5 (3 * n + b))) - 1)), .ref (bm + 7)])) rfl ?_
                          refine lv_iload hx hb dX5_press_231 (lv_at hl 2 rfl) ?_
                          refine b_if_eq (tgt := 240) hx hb dX5_press_233 (by decide) ⟨by omega, by omega⟩ (fun _ => ?_) (fun c => absurd c (by omega))
                          refine b_iconst hx hb dX5_press_240 ?_
                          refine b_isub hx hb dX5_press_241 ?_
                          refine g_iast (n := 96) hx hb hG hS (f := fun i => z2 ((up X 22 0 (0)) 8 i)) (show ca D (bm + 7) (iA (ks 0) 96 (fun i => z2 ((up X 22 0 (0)) 8 i))) _ from hM.2.1 8 (sr_of (by decide))) (Or.inl ⟨by omega, by omega⟩) (12 * n + k) ⟨by omega, by omega, by decide⟩ dX5_press_242 (fun H locs he hz oq hS => ?_)
                          have hM : PM D ks bm (up (up X 22 0 (0)) 8 (12 * n + k) ((X 8 (12 * n + k)) - 1)) H := hM.row (f := 8) (sr_of (by decide)) he oq
                          refine lv_aload_n hx hb dX5_press_243 rfl (lv_at hl 5 rfl) ?_
                          refine lv_iload_n hx hb dX5_press_244 rfl (lv_at hl 4 rfl) ?_
                          refine g_run (vx_runV (As := [.int (z2 ((3 * ((n : Nat) : Int)) + ((b : Nat) : Int)))]) (rest := []) ⟨hx, hb, hml, hown, hts⟩ (m_begins l D ks bx bm hbm (up (up X 22 0 (0)) 8 (12 * n + k) ((X 8 (12 * n + k)) - 1)) _ hM (vs_up (vs_uf hV (by decide)) (by decide) (fun _ _ => by show 0 ≤ _ ∧ _ ≤ (1000 : Int); omega)) (i := 3 * n + b) ((3 * ((n : Nat) : Int)) + ((b : Nat) : Int)) ⟨by omega, by omega⟩ (by show 0 < X 5 (3 * n + b); omega)) (cwV 1 hts gX5_press_X5_begins rfl rfl rfl (by decide +kernel) ⟨Nat.le_of_ble_eq_true rfl, Nat.le_of_ble_eq_true rfl⟩) (g_preV (r := (RX5, TX5, 23)) hG hS (rm_ge hbm) hM.1 rfl) rfl rfl hl.1 rfl (lv_room (Nat.le_of_ble_eq_true rfl)) dX5_press_245 ⟨Nat.le_of_ble_eq_true rfl, Nat.le_of_ble_eq_true rfl⟩) hS (fun _ h => h) (fun _ _ _ _ _ h => h.elim) (fun v H1 locs hp hz9 hk9 hS => ?_)
                          obtain ⟨rfl, hM⟩ := hp
                          refine W.eq (g2 := F0 m 248 ls []) rfl ?_
                          refine b_iconst hx hb dX5_press_248 ?_
                          have e9 : pmS X (up X 22 0 0) n (3 * n + b) k = (beS (up (up X 22 0 (0)) 8 (12 * n + k) ((X 8 (12 * n + k)) - 1)) (3 * n + b)) := by
                            unfold pmS plM
                            (repeat' split) <;> first | rfl | omega
                          have e8 : (1 : Int) = pmV X n (3 * n + b) k := by
                            unfold pmV plM
                            (repeat' split) <;> omega
                          exact g_iret hx hb hr hlocks hS ⟨Nat.le_of_ble_eq_true rfl, Nat.le_of_ble_eq_true rfl⟩ (⟨1, (beS (up (up X 22 0 (0)) 8 (12 * n + k) ((X 8 (12 * n + k)) - 1)) (3 * n + b)), Or.inl (⟨n, b, k, by omega, e8, e9.symm⟩), rfl, hM⟩) dX5_press_249
                        · skip
                          refine lv_aload_n hx hb dX5_press_216 rfl (lv_at hl 5 rfl) ?_
                          refine lv_iload_n hx hb dX5_press_217 rfl (lv_at hl 6 rfl) ?_
                          refine g_run (vx_runV (As := [.int (z2 (((n : Nat) : Int)))]) (rest := []) ⟨hx, hb, hml, hown, hts⟩ (m_breaks l D ks bx bm hbm (up X 22 0 (0)) _ hM (vs_uf (hV) (by decide)) (n := n) (((n : Nat) : Int)) ⟨by omega, by omega⟩) (cwV 1 hts gX5_press_X5_breaks rfl rfl rfl (by decide +kernel) ⟨Nat.le_of_ble_eq_true rfl, Nat.le_of_ble_eq_true rfl⟩) (g_preV (r := (RX5, TX5, 23)) hG hS (rm_ge hbm) hM.1 rfl) rfl rfl hl.1 rfl (lv_room (Nat.le_of_ble_eq_true rfl)) dX5_press_218 ⟨Nat.le_of_ble_eq_true rfl, Nat.le_of_ble_eq_true rfl⟩) hS (fun _ h => h) (fun _ _ _ _ _ h => h.elim) (fun v H1 locs hp hz9 hk9 hS => ?_)
                          obtain ⟨rfl, hM⟩ := hp
                          have hV : VS (brM (up X 22 0 (0)) n) := vs_br (vs_uf (hV) (by decide)) n
                          refine W.eq (g2 := F0 m 221 ls []) rfl ?_
                          refine b_iconst hx hb dX5_press_221 ?_
                          have e9 : pmS X (up X 22 0 0) n (3 * n + b) k = (brM (up X 22 0 (0)) n) := by
                            unfold pmS plM
                            (repeat' split) <;> first | rfl | omega
                          have e8 : (3 : Int) = pmV X n (3 * n + b) k := by
                            unfold pmV plM
                            (repeat' split) <;> omega
                          exact g_iret hx hb hr hlocks hS ⟨Nat.le_of_ble_eq_true rfl, Nat.le_of_ble_eq_true rfl⟩ (⟨3, (brM (up X 22 0 (0)) n), Or.inl (⟨n, b, k, by omega, e8, e9.symm⟩), rfl, hM⟩) dX5_press_222
                    · skip
                      refine lv_aload_n hx hb dX5_press_185 rfl (lv_at hl 5 rfl) ?_
                      refine g_get (C := RX5) (T := TX5) (N := 23) hx hb hts inX5 hown hG hM.1 rfl 6 (by decide) (by decide +kernel) rfl (v := .ref (bm + 5)) rfl dX5_press_186 ?_
                      refine b_iconst hx hb dX5_press_189 ?_
                      refine lv_iload_n hx hb dX5_press_190 rfl (lv_at hl 6 rfl) ?_
                      refine b_imul hx hb dX5_press_191 ?_
                      refine lv_iload hx hb dX5_press_192 (lv_at hl 0 rfl) ?_
                      refine b_iadd hx hb dX5_press_194 ?_
                      have b_195 : 1 ≤ X 6 (3 * n + 1) ∧ X 6 (3 * n + 1) ≤ 9 := hV.1 6 _ (by decide) rfl
                      refine g_iald (n := 24) hx hb hG (f := fun i => z2 ((up X 22 0 (0)) 6 i)) (show ca D (bm + 5) (iA (ks 0) 24 (fun i => z2 ((up X 22 0 (0)) 6 i))) _ from hM.2.1 6 (sr_of (by decide))) (3 * n + 1) ⟨by omega, by omega, by decide⟩ dX5_press_195 ?_
                      refine W.eq (g2 := F0 m 196 ls (.int (z2 (X 6 (3 * n + 1))) :: [.int (z2 ((X 6 (3 * n + b)) + (X 6 (3 * n + 0))))])) rfl ?_
                      refine lv_goto (tgt := 200) hx hb dX5_press_196 (by decide) ?_
                      refine b_iadd hx hb dX5_press_200 ?_
                      refine lv_istore (lv' := [(6, .int (z2 (((X 6 (3 * n + b)) + (X 6 (3 * n + 0))) + (X 6 (3 * n + 1))))), (7, .int (z2 (1))), (5, .int (z2 (0))), (4, .int (z2 (((12 * ((n : Nat) : Int)) + (X 5 (3 * n + b))) - 1))), (3, .int (z2 ((3 * ((n : Nat) : Int)) + ((b : Nat) : Int)))), (0, .ref bm), (1, .int (z2 (((n : Nat) : Int)))), (2, .int (z2 (((b : Nat) : Int))))]) hx hb dX5_press_201 hl (by decide) rfl (fun ls hl => ?_)
                      refine b_iinc (lv' := [(7, .int (z2 (2))), (6, .int (z2 (((X 6 (3 * n + b)) + (X 6 (3 * n + 0))) + (X 6 (3 * n + 1))))), (5, .int (z2 (0))), (4, .int (z2 (((12 * ((n : Nat) : Int)) + (X 5 (3 * n + b))) - 1))), (3, .int (z2 ((3 * ((n : Nat) : Int)) + ((b : Nat) : Int)))), (0, .ref bm), (1, .int (z2 (((n : Nat) : Int)))), (2, .int (z2 (((b : Nat) : Int))))]) hx hb dX5_press_203 hl (k := 1) rfl (by decide) rfl (fun ls hl => ?_)
                      refine lv_goto (tgt := 163) hx hb dX5_press_206 (by decide) ?_
                      refine lv_iload hx hb dX5_press_163 (lv_at hl 0 rfl) ?_
                      refine b_iconst hx hb dX5_press_165 ?_
                      refine b_icmp_ge (tgt := 209) hx hb dX5_press_166 (by decide) ⟨⟨by omega, by omega⟩, ⟨by omega, by omega⟩⟩ (fun c => absurd c (by omega)) (fun _ => ?_)
                      refine lv_iload hx hb dX5_press_169 (lv_at hl 1 rfl) ?_
                      refine lv_aload_n hx hb dX5_press_171 rfl (lv_at hl 5 rfl) ?_
                      refine g_get (C := RX5) (T := TX5) (N := 23) hx hb hts inX5 hown hG hM.1 rfl 7 (by decide) (by decide +kernel) rfl (v := .ref (bm + 6)) rfl dX5_press_172 ?_
                      refine b_iconst hx hb dX5_press_175 ?_
                      refine lv_iload_n hx hb dX5_press_176 rfl (lv_at hl 6 rfl) ?_
                      refine b_imul hx hb dX5_press_177 ?_
                      refine lv_iload hx hb dX5_press_178 (lv_at hl 0 rfl) ?_
                      refine b_iadd hx hb dX5_press_180 ?_
                      have b_181 : 0 ≤ X 7 (3 * n + 2) ∧ X 7 (3 * n + 2) ≤ 1000024 := hV.1 7 _ (by decide) rfl
                      refine g_iald (n := 24) hx hb hG (f := fun i => z2 ((up X 22 0 (0)) 7 i)) (show ca D (bm + 6) (iA (ks 0) 24 (fun i => z2 ((up X 22 0 (0)) 7 i))) _ from hM.2.1 7 (sr_of (by decide))) (3 * n + 2) ⟨by omega, by omega, by decide⟩ dX5_press_181 ?_
                      refine W.eq (g2 := F0 m 182 ls (.int (z2 (X 7 (3 * n + 2))) :: [.int (z2 (((X 6 (3 * n + b)) + (X 6 (3 * n + 0))) + (X 6 (3 * n + 1))))])) rfl ?_
                      refine b_if_le (tgt := 199) hx hb dX5_press_182 (by decide) ⟨by omega, by omega⟩ (fun c_182 => ?_) (fun c_182 => ?_)
                      · skip
                        refine b_iconst hx hb dX5_press_199 ?_
                        refine b_iadd hx hb dX5_press_200 ?_
                        refine lv_istore (lv' := [(6, .int (z2 ((((X 6 (3 * n + b)) + (X 6 (3 * n + 0))) + (X 6 (3 * n + 1))) + 0))), (7, .int (z2 (2))), (5, .int (z2 (0))), (4, .int (z2 (((12 * ((n : Nat) : Int)) + (X 5 (3 * n + b))) - 1))), (3, .int (z2 ((3 * ((n : Nat) : Int)) + ((b : Nat) : Int)))), (0, .ref bm), (1, .int (z2 (((n : Nat) : Int)))), (2, .int (z2 (((b : Nat) : Int))))]) hx hb dX5_press_201 hl (by decide) rfl (fun ls hl => ?_)
                        refine b_iinc (lv' := [(7, .int (z2 (3))), (6, .int (z2 ((((X 6 (3 * n + b)) + (X 6 (3 * n + 0))) + (X 6 (3 * n + 1))) + 0))), (5, .int (z2 (0))), (4, .int (z2 (((12 * ((n : Nat) : Int)) + (X 5 (3 * n + b))) - 1))), (3, .int (z2 ((3 * ((n : Nat) : Int)) + ((b : Nat) : Int)))), (0, .ref bm), (1, .int (z2 (((n : Nat) : Int)))), (2, .int (z2 (((b : Nat) : Int))))]) hx hb dX5_press_203 hl (k := 1) rfl (by decide) rfl (fun ls hl => ?_)
                        refine lv_goto (tgt := 163) hx hb dX5_press_206 (by decide) ?_
                        refine lv_iload hx hb dX5_press_163 (lv_at hl 0 rfl) ?_
                        refine b_iconst hx hb dX5_press_165 ?_
                        refine b_icmp_ge (tgt := 209) hx hb dX5_press_166 (by decide) ⟨⟨by omega, by omega⟩, ⟨by omega, by omega⟩⟩ (fun _ => ?_) (fun c => absurd c (by omega))
                        refine lv_iload hx hb dX5_press_209 (lv_at hl 1 rfl) ?_
                        refine b_bipush hx hb dX5_press_211 (by decide +kernel) ?_
                        refine b_icmp_le (tgt := 223) hx hb dX5_press_213 (by decide) ⟨⟨by omega, by omega⟩, ⟨by omega, by omega⟩⟩ (fun c_213 => ?_) (fun c_213 => ?_)
                        · skip
                          refine lv_aload_n hx hb dX5_press_223 rfl (lv_at hl 5 rfl) ?_
                          refine g_get (C := RX5) (T := TX5) (N := 23) hx hb hts inX5 hown hG hM.1 rfl 8 (by decide) (by decide +kernel) rfl (v := .ref (bm + 7)) rfl dX5_press_224 ?_
                          refine lv_iload hx hb dX5_press_227 (lv_at hl 3 rfl) ?_
                          refine lv_dup2_11 hx hb dX5_press_229 rfl rfl ?_
                          have b_230 : 0 ≤ X 8 (12 * n + k) ∧ X 8 (12 * n + k) ≤ 1000 := hV.1 8 _ (by decide) rfl
                          refine g_iald (n := 96) hx hb hG (f := fun i => z2 ((up X 22 0 (0)) 8 i)) (show ca D (bm + 7) (iA (ks 0) 96 (fun i => z2 ((up X 22 0 (0)) 8 i))) _ from hM.2.1 8 (sr_of (by decide))) (12 * n + k) ⟨by omega, by omega, by decide⟩ dX5_press_230 ?_
                          refine W.eq (g2 := F0 m 231 ls (.int (z2 (X 8 (12 * n + k))) :: [.int (z2 (((12 * ((n : Nat) : Int)) + (X 5 (3 * n + b))) - 1)), .ref (bm + 7)])) rfl ?_
                          refine lv_iload hx hb dX5_press_231 (lv_at hl 2 rfl) ?_
                          refine b_if_eq (tgt := 240) hx hb dX5_press_233 (by decide) ⟨by omega, by omega⟩ (fun _ => ?_) (fun c => absurd c (by omega))
                          refine b_iconst hx hb dX5_press_240 ?_
                          refine b_isub hx hb dX5_press_241 ?_
                          refine g_iast (n := 96) hx hb hG hS (f := fun i => z2 ((up X 22 0 (0)) 8 i)) (show ca D (bm + 7) (iA (ks 0) 96 (fun i => z2 ((up X 22 0 (0)) 8 i))) _ from hM.2.1 8 (sr_of (by decide))) (Or.inl ⟨by omega, by omega⟩) (12 * n + k) ⟨by omega, by omega, by decide⟩ dX5_press_242 (fun H locs he hz oq hS => ?_)
                          have hM : PM D ks bm (up (up X 22 0 (0)) 8 (12 * n + k) ((X 8 (12 * n + k)) - 1)) H := hM.row (f := 8) (sr_of (by decide)) he oq
                          refine lv_aload_n hx hb dX5_press_243 rfl (lv_at hl 5 rfl) ?_
                          refine lv_iload_n hx hb dX5_press_244 rfl (lv_at hl 4 rfl) ?_
                          refine g_run (vx_runV (As := [.int (z2 ((3 * ((n : Nat) : Int)) + ((b : Nat) : Int)))]) (rest := []) ⟨hx, hb, hml, hown, hts⟩ (m_begins l D ks bx bm hbm (up (up X 22 0 (0)) 8 (12 * n + k) ((X 8 (12 * n + k)) - 1)) _ hM (vs_up (vs_uf hV (by decide)) (by decide) (fun _ _ => by show 0 ≤ _ ∧ _ ≤ (1000 : Int); omega)) (i := 3 * n + b) ((3 * ((n : Nat) : Int)) + ((b : Nat) : Int)) ⟨by omega, by omega⟩ (by show 0 < X 5 (3 * n + b); omega)) (cwV 1 hts gX5_press_X5_begins rfl rfl rfl (by decide +kernel) ⟨Nat.le_of_ble_eq_true rfl, Nat.le_of_ble_eq_true rfl⟩) (g_preV (r := (RX5, TX5, 23)) hG hS (rm_ge hbm) hM.1 rfl) rfl rfl hl.1 rfl (lv_room (Nat.le_of_ble_eq_true rfl)) dX5_press_245 ⟨Nat.le_of_ble_eq_true rfl, Nat.le_of_ble_eq_true rfl⟩) hS (fun _ h => h) (fun _ _ _ _ _ h => h.elim) (fun v H1 locs hp hz9 hk9 hS => ?_)
                          obtain ⟨rfl, hM⟩ := hp
                          refine W.eq (g2 := F0 m 248 ls []) rfl ?_
                          refine b_iconst hx hb dX5_press_248 ?_
                          have e9 : pmS X (up X 22 0 0) n (3 * n + b) k = (beS (up (up X 22 0 (0)) 8 (12 * n + k) ((X 8 (12 * n + k)) - 1)) (3 * n + b)) := by
                            unfold pmS plM
                            (repeat' split) <;> first | rfl | omega
                          have e8 : (1 : Int) = pmV X n (3 * n + b) k := by
                            unfold pmV plM
                            (repeat' split) <;> omega
                          exact g_iret hx hb hr hlocks hS ⟨Nat.le_of_ble_eq_true rfl, Nat.le_of_ble_eq_true rfl⟩ (⟨1, (beS (up (up X 22 0 (0)) 8 (12 * n + k) ((X 8 (12 * n + k)) - 1)) (3 * n + b)), Or.inl (⟨n, b, k, by omega, e8, e9.symm⟩), rfl, hM⟩) dX5_press_249
                        · skip
                          refine lv_aload_n hx hb dX5_press_216 rfl (lv_at hl 5 rfl) ?_
                          refine lv_iload_n hx hb dX5_press_217 rfl (lv_at hl 6 rfl) ?_
                          refine g_run (vx_runV (As := [.int (z2 (((n : Nat) : Int)))]) (rest := []) ⟨hx, hb, hml, hown, hts⟩ (m_breaks l D ks bx bm hbm (up X 22 0 (0)) _ hM (vs_uf (hV) (by decide)) (n := n) (((n : Nat) : Int)) ⟨by omega, by omega⟩) (cwV 1 hts gX5_press_X5_breaks rfl rfl rfl (by decide +kernel) ⟨Nat.le_of_ble_eq_true rfl, Nat.le_of_ble_eq_true rfl⟩) (g_preV (r := (RX5, TX5, 23)) hG hS (rm_ge hbm) hM.1 rfl) rfl rfl hl.1 rfl (lv_room (Nat.le_of_ble_eq_true rfl)) dX5_press_218 ⟨Nat.le_of_ble_eq_true rfl, Nat.le_of_ble_eq_true rfl⟩) hS (fun _ h => h) (fun _ _ _ _ _ h => h.elim) (fun v H1 locs hp hz9 hk9 hS => ?_)
                          obtain ⟨rfl, hM⟩ := hp
                          have hV : VS (brM (up X 22 0 (0)) n) := vs_br (vs_uf (hV) (by decide)) n
                          refine W.eq (g2 := F0 m 221 ls []) rfl ?_
                          refine b_iconst hx hb dX5_press_221 ?_
                          have e9 : pmS X (up X 22 0 0) n (3 * n + b) k = (brM (up X 22 0 (0)) n) := by
                            unfold pmS plM
                            (repeat' split) <;> first | rfl | omega
                          have e8 : (3 : Int) = pmV X n (3 * n + b) k := by
                            unfold pmV plM
                            (repeat' split) <;> omega
                          exact g_iret hx hb hr hlocks hS ⟨Nat.le_of_ble_eq_true rfl, Nat.le_of_ble_eq_true rfl⟩ (⟨3, (brM (up X 22 0 (0)) n), Or.inl (⟨n, b, k, by omega, e8, e9.symm⟩), rfl, hM⟩) dX5_press_222
                      · skip
                        refine lv_aload_n hx hb dX5_press_185 rfl (lv_at hl 5 rfl) ?_
                        refine g_get (C := RX5) (T := TX5) (N := 23) hx hb hts inX5 hown hG hM.1 rfl 6 (by decide) (by decide +kernel) rfl (v := .ref (bm + 5)) rfl dX5_press_186 ?_
                        refine b_iconst hx hb dX5_press_189 ?_
                        refine lv_iload_n hx hb dX5_press_190 rfl (lv_at hl 6 rfl) ?_
                        refine b_imul hx hb dX5_press_191 ?_
                        refine lv_iload hx hb dX5_press_192 (lv_at hl 0 rfl) ?_
                        refine b_iadd hx hb dX5_press_194 ?_
                        have b_195 : 1 ≤ X 6 (3 * n + 2) ∧ X 6 (3 * n + 2) ≤ 9 := hV.1 6 _ (by decide) rfl
                        refine g_iald (n := 24) hx hb hG (f := fun i => z2 ((up X 22 0 (0)) 6 i)) (show ca D (bm + 5) (iA (ks 0) 24 (fun i => z2 ((up X 22 0 (0)) 6 i))) _ from hM.2.1 6 (sr_of (by decide))) (3 * n + 2) ⟨by omega, by omega, by decide⟩ dX5_press_195 ?_
                        refine W.eq (g2 := F0 m 196 ls (.int (z2 (X 6 (3 * n + 2))) :: [.int (z2 (((X 6 (3 * n + b)) + (X 6 (3 * n + 0))) + (X 6 (3 * n + 1))))])) rfl ?_
                        refine lv_goto (tgt := 200) hx hb dX5_press_196 (by decide) ?_
                        refine b_iadd hx hb dX5_press_200 ?_
                        refine lv_istore (lv' := [(6, .int (z2 ((((X 6 (3 * n + b)) + (X 6 (3 * n + 0))) + (X 6 (3 * n + 1))) + (X 6 (3 * n + 2))))), (7, .int (z2 (2))), (5, .int (z2 (0))), (4, .int (z2 (((12 * ((n : Nat) : Int)) + (X 5 (3 * n + b))) - 1))), (3, .int (z2 ((3 * ((n : Nat) : Int)) + ((b : Nat) : Int)))), (0, .ref bm), (1, .int (z2 (((n : Nat) : Int)))), (2, .int (z2 (((b : Nat) : Int))))]) hx hb dX5_press_201 hl (by decide) rfl (fun ls hl => ?_)
                        refine b_iinc (lv' := [(7, .int (z2 (3))), (6, .int (z2 ((((X 6 (3 * n + b)) + (X 6 (3 * n + 0))) + (X 6 (3 * n + 1))) + (X 6 (3 * n + 2))))), (5, .int (z2 (0))), (4, .int (z2 (((12 * ((n : Nat) : Int)) + (X 5 (3 * n + b))) - 1))), (3, .int (z2 ((3 * ((n : Nat) : Int)) + ((b : Nat) : Int)))), (0, .ref bm), (1, .int (z2 (((n : Nat) : Int)))), (2, .int (z2 (((b : Nat) : Int))))]) hx hb dX5_press_203 hl (k := 1) rfl (by decide) rfl (fun ls hl => ?_)
                        refine lv_goto (tgt := 163) hx hb dX5_press_206 (by decide) ?_
                        refine lv_iload hx hb dX5_press_163 (lv_at hl 0 rfl) ?_
                        refine b_iconst hx hb dX5_press_165 ?_
                        refine b_icmp_ge (tgt := 209) hx hb dX5_press_166 (by decide) ⟨⟨by omega, by omega⟩, ⟨by omega, by omega⟩⟩ (fun _ => ?_) (fun c => absurd c (by omega))
                        refine lv_iload hx hb dX5_press_209 (lv_at hl 1 rfl) ?_
                        refine b_bipush hx hb dX5_press_211 (by decide +kernel) ?_
                        refine b_icmp_le (tgt := 223) hx hb dX5_press_213 (by decide) ⟨⟨by omega, by omega⟩, ⟨by omega, by omega⟩⟩ (fun c_213 => ?_) (fun c_213 => ?_)
                        · skip
                          refine lv_aload_n hx hb dX5_press_223 rfl (lv_at hl 5 rfl) ?_
                          refine g_get (C := RX5) (T := TX5) (N := 23) hx hb hts inX5 hown hG hM.1 rfl 8 (by decide) (by decide +kernel) rfl (v := .ref (bm + 7)) rfl dX5_press_224 ?_
                          refine lv_iload hx hb dX5_press_227 (lv_at hl 3 rfl) ?_
                          refine lv_dup2_11 hx hb dX5_press_229 rfl rfl ?_
                          have b_230 : 0 ≤ X 8 (12 * n + k) ∧ X 8 (12 * n + k) ≤ 1000 := hV.1 8 _ (by decide) rfl
                          refine g_iald (n := 96) hx hb hG (f := fun i => z2 ((up X 22 0 (0)) 8 i)) (show ca D (bm + 7) (iA (ks 0) 96 (fun i => z2 ((up X 22 0 (0)) 8 i))) _ from hM.2.1 8 (sr_of (by decide))) (12 * n + k) ⟨by omega, by omega, by decide⟩ dX5_press_230 ?_
                          refine W.eq (g2 := F0 m 231 ls (.int (z2 (X 8 (12 * n + k))) :: [.int (z2 (((12 * ((n : Nat) : Int)) + (X 5 (3 * n + b))) - 1)), .ref (bm + 7)])) rfl ?_
                          refine lv_iload hx hb dX5_press_231 (lv_at hl 2 rfl) ?_
                          refine b_if_eq (tgt := 240) hx hb dX5_press_233 (by decide) ⟨by omega, by omega⟩ (fun _ => ?_) (fun c => absurd c (by omega))
                          refine b_iconst hx hb dX5_press_240 ?_
                          refine b_isub hx hb dX5_press_241 ?_
                          refine g_iast (n := 96) hx hb hG hS (f := fun i => z2 ((up X 22 0 (0)) 8 i)) (show ca D (bm + 7) (iA (ks 0) 96 (fun i => z2 ((up X 22 0 (0)) 8 i))) _ from hM.2.1 8 (sr_of (by decide))) (Or.inl ⟨by omega, by omega⟩) (12 * n + k) ⟨by omega, by omega, by decide⟩ dX5_press_242 (fun H locs he hz oq hS => ?_)
                          have hM : PM D ks bm (up (up X 22 0 (0)) 8 (12 * n + k) ((X 8 (12 * n + k)) - 1)) H := hM.row (f := 8) (sr_of (by decide)) he oq
                          refine lv_aload_n hx hb dX5_press_243 rfl (lv_at hl 5 rfl) ?_
                          refine lv_iload_n hx hb dX5_press_244 rfl (lv_at hl 4 rfl) ?_
                          refine g_run (vx_runV (As := [.int (z2 ((3 * ((n : Nat) : Int)) + ((b : Nat) : Int)))]) (rest := []) ⟨hx, hb, hml, hown, hts⟩ (m_begins l D ks bx bm hbm (up (up X 22 0 (0)) 8 (12 * n + k) ((X 8 (12 * n + k)) - 1)) _ hM (vs_up (vs_uf hV (by decide)) (by decide) (fun _ _ => by show 0 ≤ _ ∧ _ ≤ (1000 : Int); omega)) (i := 3 * n + b) ((3 * ((n : Nat) : Int)) + ((b : Nat) : Int)) ⟨by omega, by omega⟩ (by show 0 < X 5 (3 * n + b); omega)) (cwV 1 hts gX5_press_X5_begins rfl rfl rfl (by decide +kernel) ⟨Nat.le_of_ble_eq_true rfl, Nat.le_of_ble_eq_true rfl⟩) (g_preV (r := (RX5, TX5, 23)) hG hS (rm_ge hbm) hM.1 rfl) rfl rfl hl.1 rfl (lv_room (Nat.le_of_ble_eq_true rfl)) dX5_press_245 ⟨Nat.le_of_ble_eq_true rfl, Nat.le_of_ble_eq_true rfl⟩) hS (fun _ h => h) (fun _ _ _ _ _ h => h.elim) (fun v H1 locs hp hz9 hk9 hS => ?_)
                          obtain ⟨rfl, hM⟩ := hp
                          refine W.eq (g2 := F0 m 248 ls []) rfl ?_
                          refine b_iconst hx hb dX5_press_248 ?_
                          have e9 : pmS X (up X 22 0 0) n (3 * n + b) k = (beS (up (up X 22 0 (0)) 8 (12 * n + k) ((X 8 (12 * n + k)) - 1)) (3 * n + b)) := by
                            unfold pmS plM
                            (repeat' split) <;> first | rfl | omega
                          have e8 : (1 : Int) = pmV X n (3 * n + b) k := by
                            unfold pmV plM
                            (repeat' split) <;> omega
                          exact g_iret hx hb hr hlocks hS ⟨Nat.le_of_ble_eq_true rfl, Nat.le_of_ble_eq_true rfl⟩ (⟨1, (beS (up (up X 22 0 (0)) 8 (12 * n + k) ((X 8 (12 * n + k)) - 1)) (3 * n + b)), Or.inl (⟨n, b, k, by omega, e8, e9.symm⟩), rfl, hM⟩) dX5_press_249
                        · skip
                          refine lv_aload_n hx hb dX5_press_216 rfl (lv_at hl 5 rfl) ?_
                          refine lv_iload_n hx hb dX5_press_217 rfl (lv_at hl 6 rfl) ?_
                          refine g_run (vx_runV (As := [.int (z2 (((n : Nat) : Int)))]) (rest := []) ⟨hx, hb, hml, hown, hts⟩ (m_breaks l D ks bx bm hbm (up X 22 0 (0)) _ hM (vs_uf (hV) (by decide)) (n := n) (((n : Nat) : Int)) ⟨by omega, by omega⟩) (cwV 1 hts gX5_press_X5_breaks rfl rfl rfl (by decide +kernel) ⟨Nat.le_of_ble_eq_true rfl, Nat.le_of_ble_eq_true rfl⟩) (g_preV (r := (RX5, TX5, 23)) hG hS (rm_ge hbm) hM.1 rfl) rfl rfl hl.1 rfl (lv_room (Nat.le_of_ble_eq_true rfl)) dX5_press_218 ⟨Nat.le_of_ble_eq_true rfl, Nat.le_of_ble_eq_true rfl⟩) hS (fun _ h => h) (fun _ _ _ _ _ h => h.elim) (fun v H1 locs hp hz9 hk9 hS => ?_)
                          obtain ⟨rfl, hM⟩ := hp
                          have hV : VS (brM (up X 22 0 (0)) n) := vs_br (vs_uf (hV) (by decide)) n
                          refine W.eq (g2 := F0 m 221 ls []) rfl ?_
                          refine b_iconst hx hb dX5_press_221 ?_
                          have e9 : pmS X (up X 22 0 0) n (3 * n + b) k = (brM (up X 22 0 (0)) n) := by
                            unfold pmS plM
                            (repeat' split) <;> first | rfl | omega
                          have e8 : (3 : Int) = pmV X n (3 * n + b) k := by
                            unfold pmV plM
                            (repeat' split) <;> omega
                          exact g_iret hx hb hr hlocks hS ⟨Nat.le_of_ble_eq_true rfl, Nat.le_of_ble_eq_true rfl⟩ (⟨3, (brM (up X 22 0 (0)) n), Or.inl (⟨n, b, k, by omega, e8, e9.symm⟩), rfl, hM⟩) dX5_press_222
                · skip
                  refine b_iconst hx hb dX5_press_150 ?_
                  have e9 : pmS X (up X 22 0 0) n (3 * n + b) k = up X 22 0 (0) := by
                    unfold pmS plM
                    (repeat' split) <;> first | rfl | omega
                  have e8 : (0 : Int) = pmV X n (3 * n + b) k := by
                    unfold pmV plM
                    (repeat' split) <;> omega
                  exact g_iret hx hb hr hlocks hS ⟨Nat.le_of_ble_eq_true rfl, Nat.le_of_ble_eq_true rfl⟩ (⟨0, up X 22 0 (0), Or.inl (⟨n, b, k, by omega, e8, e9.symm⟩), rfl, hM⟩) dX5_press_151
              · skip
                refine b_iconst hx hb dX5_press_128 ?_
                refine lv_goto (tgt := 133) hx hb dX5_press_129 (by decide) ?_
                refine lv_istore (lv' := [(5, .int (z2 (1))), (4, .int (z2 (((12 * ((n : Nat) : Int)) + (X 5 (3 * n + b))) - 1))), (3, .int (z2 ((3 * ((n : Nat) : Int)) + ((b : Nat) : Int)))), (0, .ref bm), (1, .int (z2 (((n : Nat) : Int)))), (2, .int (z2 (((b : Nat) : Int))))]) hx hb dX5_press_133 hl (by decide) rfl (fun ls hl => ?_)
                refine lv_iload hx hb dX5_press_135 (lv_at hl 0 rfl) ?_
                refine b_if_ne (tgt := 152) hx hb dX5_press_137 (by decide) ⟨by omega, by omega⟩ (fun _ => ?_) (fun c => absurd c (by omega))
                refine lv_aload_n hx hb dX5_press_152 rfl (lv_at hl 3 rfl) ?_
                refine g_get (C := RX5) (T := TX5) (N := 23) hx hb hts inX5 hown hG hM.1 rfl 6 (by decide) (by decide +kernel) rfl (v := .ref (bm + 5)) rfl dX5_press_153 ?_
                refine lv_iload_n hx hb dX5_press_156 rfl (lv_at hl 2 rfl) ?_
                have b_157 : 1 ≤ X 6 (3 * n + b) ∧ X 6 (3 * n + b) ≤ 9 := hV.1 6 _ (by decide) rfl
                refine g_iald (n := 24) hx hb hG (f := fun i => z2 ((up X 22 0 (0)) 6 i)) (show ca D (bm + 5) (iA (ks 0) 24 (fun i => z2 ((up X 22 0 (0)) 6 i))) _ from hM.2.1 6 (sr_of (by decide))) (3 * n + b) ⟨by omega, by omega, by decide⟩ dX5_press_157 ?_
                refine W.eq (g2 := F0 m 158 ls (.int (z2 (X 6 (3 * n + b))) :: [])) rfl ?_
                refine lv_istore (lv' := [(6, .int (z2 (X 6 (3 * n + b)))), (5, .int (z2 (1))), (4, .int (z2 (((12 * ((n : Nat) : Int)) + (X 5 (3 * n + b))) - 1))), (3, .int (z2 ((3 * ((n : Nat) : Int)) + ((b : Nat) : Int)))), (0, .ref bm), (1, .int (z2 (((n : Nat) : Int)))), (2, .int (z2 (((b : Nat) : Int))))]) hx hb dX5_press_158 hl (by decide) rfl (fun ls hl => ?_)
                refine b_iconst hx hb dX5_press_160 ?_
                refine lv_istore (lv' := [(7, .int (z2 (0))), (6, .int (z2 (X 6 (3 * n + b)))), (5, .int (z2 (1))), (4, .int (z2 (((12 * ((n : Nat) : Int)) + (X 5 (3 * n + b))) - 1))), (3, .int (z2 ((3 * ((n : Nat) : Int)) + ((b : Nat) : Int)))), (0, .ref bm), (1, .int (z2 (((n : Nat) : Int)))), (2, .int (z2 (((b : Nat) : Int))))]) hx hb dX5_press_161 hl (by decide) rfl (fun ls hl => ?_)
                refine lv_iload hx hb dX5_press_163 (lv_at hl 0 rfl) ?_
                refine b_iconst hx hb dX5_press_165 ?_
                refine b_icmp_ge (tgt := 209) hx hb dX5_press_166 (by decide) ⟨⟨by omega, by omega⟩, ⟨by omega, by omega⟩⟩ (fun c => absurd c (by omega)) (fun _ => ?_)
                refine lv_iload hx hb dX5_press_169 (lv_at hl 1 rfl) ?_
                refine lv_aload_n hx hb dX5_press_171 rfl (lv_at hl 5 rfl) ?_
                refine g_get (C := RX5) (T := TX5) (N := 23) hx hb hts inX5 hown hG hM.1 rfl 7 (by decide) (by decide +kernel) rfl (v := .ref (bm + 6)) rfl dX5_press_172 ?_
                refine b_iconst hx hb dX5_press_175 ?_
                refine lv_iload_n hx hb dX5_press_176 rfl (lv_at hl 6 rfl) ?_
                refine b_imul hx hb dX5_press_177 ?_
                refine lv_iload hx hb dX5_press_178 (lv_at hl 0 rfl) ?_
                refine b_iadd hx hb dX5_press_180 ?_
                have b_181 : 0 ≤ X 7 (3 * n + 0) ∧ X 7 (3 * n + 0) ≤ 1000024 := hV.1 7 _ (by decide) rfl
                refine g_iald (n := 24) hx hb hG (f := fun i => z2 ((up X 22 0 (0)) 7 i)) (show ca D (bm + 6) (iA (ks 0) 24 (fun i => z2 ((up X 22 0 (0)) 7 i))) _ from hM.2.1 7 (sr_of (by decide))) (3 * n + 0) ⟨by omega, by omega, by decide⟩ dX5_press_181 ?_
                refine W.eq (g2 := F0 m 182 ls (.int (z2 (X 7 (3 * n + 0))) :: [.int (z2 (X 6 (3 * n + b)))])) rfl ?_
                refine b_if_le (tgt := 199) hx hb dX5_press_182 (by decide) ⟨by omega, by omega⟩ (fun c_182 => ?_) (fun c_182 => ?_)
                · skip
                  refine b_iconst hx hb dX5_press_199 ?_
                  refine b_iadd hx hb dX5_press_200 ?_
                  refine lv_istore (lv' := [(6, .int (z2 ((X 6 (3 * n + b)) + 0))), (7, .int (z2 (0))), (5, .int (z2 (1))), (4, .int (z2 (((12 * ((n : Nat) : Int)) + (X 5 (3 * n + b))) - 1))), (3, .int (z2 ((3 * ((n : Nat) : Int)) + ((b : Nat) : Int)))), (0, .ref bm), (1, .int (z2 (((n : Nat) : Int)))), (2, .int (z2 (((b : Nat) : Int))))]) hx hb dX5_press_201 hl (by decide) rfl (fun ls hl => ?_)
                  refine b_iinc (lv' := [(7, .int (z2 (1))), (6, .int (z2 ((X 6 (3 * n + b)) + 0))), (5, .int (z2 (1))), (4, .int (z2 (((12 * ((n : Nat) : Int)) + (X 5 (3 * n + b))) - 1))), (3, .int (z2 ((3 * ((n : Nat) : Int)) + ((b : Nat) : Int)))), (0, .ref bm), (1, .int (z2 (((n : Nat) : Int)))), (2, .int (z2 (((b : Nat) : Int))))]) hx hb dX5_press_203 hl (k := 1) rfl (by decide) rfl (fun ls hl => ?_)
                  refine lv_goto (tgt := 163) hx hb dX5_press_206 (by decide) ?_
                  refine lv_iload hx hb dX5_press_163 (lv_at hl 0 rfl) ?_
                  refine b_iconst hx hb dX5_press_165 ?_
                  refine b_icmp_ge (tgt := 209) hx hb dX5_press_166 (by decide) ⟨⟨by omega, by omega⟩, ⟨by omega, by omega⟩⟩ (fun c => absurd c (by omega)) (fun _ => ?_)
                  refine lv_iload hx hb dX5_press_169 (lv_at hl 1 rfl) ?_
                  refine lv_aload_n hx hb dX5_press_171 rfl (lv_at hl 5 rfl) ?_
                  refine g_get (C := RX5) (T := TX5) (N := 23) hx hb hts inX5 hown hG hM.1 rfl 7 (by decide) (by decide +kernel) rfl (v := .ref (bm + 6)) rfl dX5_press_172 ?_
                  refine b_iconst hx hb dX5_press_175 ?_
                  refine lv_iload_n hx hb dX5_press_176 rfl (lv_at hl 6 rfl) ?_
                  refine b_imul hx hb dX5_press_177 ?_
                  refine lv_iload hx hb dX5_press_178 (lv_at hl 0 rfl) ?_
                  refine b_iadd hx hb dX5_press_180 ?_
                  have b_181 : 0 ≤ X 7 (3 * n + 1) ∧ X 7 (3 * n + 1) ≤ 1000024 := hV.1 7 _ (by decide) rfl
                  refine g_iald (n := 24) hx hb hG (f := fun i => z2 ((up X 22 0 (0)) 7 i)) (show ca D (bm + 6) (iA (ks 0) 24 (fun i => z2 ((up X 22 0 (0)) 7 i))) _ from hM.2.1 7 (sr_of (by decide))) (3 * n + 1) ⟨by omega, by omega, by decide⟩ dX5_press_181 ?_
                  refine W.eq (g2 := F0 m 182 ls (.int (z2 (X 7 (3 * n + 1))) :: [.int (z2 ((X 6 (3 * n + b)) + 0))])) rfl ?_
                  refine b_if_le (tgt := 199) hx hb dX5_press_182 (by decide) ⟨by omega, by omega⟩ (fun c_182 => ?_) (fun c_182 => ?_)
                  · skip
                    refine b_iconst hx hb dX5_press_199 ?_
                    refine b_iadd hx hb dX5_press_200 ?_
                    refine lv_istore (lv' := [(6, .int (z2 (((X 6 (3 * n + b)) + 0) + 0))), (7, .int (z2 (1))), (5, .int (z2 (1))), (4, .int (z2 (((12 * ((n : Nat) : Int)) + (X 5 (3 * n + b))) - 1))), (3, .int (z2 ((3 * ((n : Nat) : Int)) + ((b : Nat) : Int)))), (0, .ref bm), (1, .int (z2 (((n : Nat) : Int)))), (2, .int (z2 (((b : Nat) : Int))))]) hx hb dX5_press_201 hl (by decide) rfl (fun ls hl => ?_)
                    refine b_iinc (lv' := [(7, .int (z2 (2))), (6, .int (z2 (((X 6 (3 * n + b)) + 0) + 0))), (5, .int (z2 (1))), (4, .int (z2 (((12 * ((n : Nat) : Int)) + (X 5 (3 * n + b))) - 1))), (3, .int (z2 ((3 * ((n : Nat) : Int)) + ((b : Nat) : Int)))), (0, .ref bm), (1, .int (z2 (((n : Nat) : Int)))), (2, .int (z2 (((b : Nat) : Int))))]) hx hb dX5_press_203 hl (k := 1) rfl (by decide) rfl (fun ls hl => ?_)
                    refine lv_goto (tgt := 163) hx hb dX5_press_206 (by decide) ?_
                    refine lv_iload hx hb dX5_press_163 (lv_at hl 0 rfl) ?_
                    refine b_iconst hx hb dX5_press_165 ?_
                    refine b_icmp_ge (tgt := 209) hx hb dX5_press_166 (by decide) ⟨⟨by omega, by omega⟩, ⟨by omega, by omega⟩⟩ (fun c => absurd c (by omega)) (fun _ => ?_)
                    refine lv_iload hx hb dX5_press_169 (lv_at hl 1 rfl) ?_
                    refine lv_aload_n hx hb dX5_press_171 rfl (lv_at hl 5 rfl) ?_
                    refine g_get (C := RX5) (T := TX5) (N := 23) hx hb hts inX5 hown hG hM.1 rfl 7 (by decide) (by decide +kernel) rfl (v := .ref (bm + 6)) rfl dX5_press_172 ?_
                    refine b_iconst hx hb dX5_press_175 ?_
                    refine lv_iload_n hx hb dX5_press_176 rfl (lv_at hl 6 rfl) ?_
                    refine b_imul hx hb dX5_press_177 ?_
                    refine lv_iload hx hb dX5_press_178 (lv_at hl 0 rfl) ?_
                    refine b_iadd hx hb dX5_press_180 ?_
                    have b_181 : 0 ≤ X 7 (3 * n + 2) ∧ X 7 (3 * n + 2) ≤ 1000024 := hV.1 7 _ (by decide) rfl
                    refine g_iald (n := 24) hx hb hG (f := fun i => z2 ((up X 22 0 (0)) 7 i)) (show ca D (bm + 6) (iA (ks 0) 24 (fun i => z2 ((up X 22 0 (0)) 7 i))) _ from hM.2.1 7 (sr_of (by decide))) (3 * n + 2) ⟨by omega, by omega, by decide⟩ dX5_press_181 ?_
                    refine W.eq (g2 := F0 m 182 ls (.int (z2 (X 7 (3 * n + 2))) :: [.int (z2 (((X 6 (3 * n + b)) + 0) + 0))])) rfl ?_
                    refine b_if_le (tgt := 199) hx hb dX5_press_182 (by decide) ⟨by omega, by omega⟩ (fun c_182 => ?_) (fun c_182 => ?_)
                    · skip
                      refine b_iconst hx hb dX5_press_199 ?_
                      refine b_iadd hx hb dX5_press_200 ?_
                      refine lv_istore (lv' := [(6, .int (z2 ((((X 6 (3 * n + b)) + 0) + 0) + 0))), (7, .int (z2 (2))), (5, .int (z2 (1))), (4, .int (z2 (((12 * ((n : Nat) : Int)) + (X 5 (3 * n + b))) - 1))), (3, .int (z2 ((3 * ((n : Nat) : Int)) + ((b : Nat) : Int)))), (0, .ref bm), (1, .int (z2 (((n : Nat) : Int)))), (2, .int (z2 (((b : Nat) : Int))))]) hx hb dX5_press_201 hl (by decide) rfl (fun ls hl => ?_)
                      refine b_iinc (lv' := [(7, .int (z2 (3))), (6, .int (z2 ((((X 6 (3 * n + b)) + 0) + 0) + 0))), (5, .int (z2 (1))), (4, .int (z2 (((12 * ((n : Nat) : Int)) + (X 5 (3 * n + b))) - 1))), (3, .int (z2 ((3 * ((n : Nat) : Int)) + ((b : Nat) : Int)))), (0, .ref bm), (1, .int (z2 (((n : Nat) : Int)))), (2, .int (z2 (((b : Nat) : Int))))]) hx hb dX5_press_203 hl (k := 1) rfl (by decide) rfl (fun ls hl => ?_)
                      refine lv_goto (tgt := 163) hx hb dX5_press_206 (by decide) ?_
                      refine lv_iload hx hb dX5_press_163 (lv_at hl 0 rfl) ?_
                      refine b_iconst hx hb dX5_press_165 ?_
                      refine b_icmp_ge (tgt := 209) hx hb dX5_press_166 (by decide) ⟨⟨by omega, by omega⟩, ⟨by omega, by omega⟩⟩ (fun _ => ?_) (fun c => absurd c (by omega))
                      refine lv_iload hx hb dX5_press_209 (lv_at hl 1 rfl) ?_
                      refine b_bipush hx hb dX5_press_211 (by decide +kernel) ?_
                      refine b_icmp_le (tgt := 223) hx hb dX5_press_213 (by decide) ⟨⟨by omega, by omega⟩, ⟨by omega, by omega⟩⟩ (fun c_213 => ?_) (fun c_213 => ?_)
                      · skip
                        refine lv_aload_n hx hb dX5_press_223 rfl (lv_at hl 5 rfl) ?_
                        refine g_get (C := RX5) (T := TX5) (N := 23) hx hb hts inX5 hown hG hM.1 rfl 8 (by decide) (by decide +kernel) rfl (v := .ref (bm + 7)) rfl dX5_press_224 ?_
                        refine lv_iload hx hb dX5_press_227 (lv_at hl 3 rfl) ?_
                        refine lv_dup2_11 hx hb dX5_press_229 rfl rfl ?_
                        have b_230 : 0 ≤ X 8 (12 * n + k) ∧ X 8 (12 * n + k) ≤ 1000 := hV.1 8 _ (by decide) rfl
                        refine g_iald (n := 96) hx hb hG (f := fun i => z2 ((up X 22 0 (0)) 8 i)) (show ca D (bm + 7) (iA (ks 0) 96 (fun i => z2 ((up X 22 0 (0)) 8 i))) _ from hM.2.1 8 (sr_of (by decide))) (12 * n + k) ⟨by omega, by omega, by decide⟩ dX5_press_230 ?_
                        refine W.eq (g2 := F0 m 231 ls (.int (z2 (X 8 (12 * n + k))) :: [.int (z2 (((12 * ((n : Nat) : Int)) + (X 5 (3 * n + b))) - 1)), .ref (bm + 7)])) rfl ?_
                        refine lv_iload hx hb dX5_press_231 (lv_at hl 2 rfl) ?_
                        refine b_if_eq (tgt := 240) hx hb dX5_press_233 (by decide) ⟨by omega, by omega⟩ (fun c => absurd c (by omega)) (fun _ => ?_)
                        refine b_iconst hx hb dX5_press_236 ?_
                        refine lv_goto (tgt := 241) hx hb dX5_press_237 (by decide) ?_
                        refine b_isub hx hb dX5_press_241 ?_
                        refine g_iast (n := 96) hx hb hG hS (f := fun i => z2 ((up X 22 0 (0)) 8 i)) (show ca D (bm + 7) (iA (ks 0) 96 (fun i => z2 ((up X 22 0 (0)) 8 i))) _ from hM.2.1 8 (sr_of (by decide))) (Or.inl ⟨by omega, by omega⟩) (12 * n + k) ⟨by omega, by omega, by decide⟩ dX5_press_242 (fun H locs he hz oq hS => ?_)
                        have hM : PM D ks bm (up (up X 22 0 (0)) 8 (12 * n + k) ((X 8 (12 * n + k)) - 0)) H := hM.row (f := 8) (sr_of (by decide)) he oq
                        refine lv_aload_n hx hb dX5_press_243 rfl (lv_at hl 5 rfl) ?_
                        refine lv_iload_n hx hb dX5_press_244 rfl (lv_at hl 4 rfl) ?_
                        refine g_run (vx_runV (As := [.int (z2 ((3 * ((n : Nat) : Int)) + ((b : Nat) : Int)))]) (rest := []) ⟨hx, hb, hml, hown, hts⟩ (m_begins l D ks bx bm hbm (up (up X 22 0 (0)) 8 (12 * n + k) ((X 8 (12 * n + k)) - 0)) _ hM (vs_up (vs_uf hV (by decide)) (by decide) (fun _ _ => by show 0 ≤ _ ∧ _ ≤ (1000 : Int); omega)) (i := 3 * n + b) ((3 * ((n : Nat) : Int)) + ((b : Nat) : Int)) ⟨by omega, by omega⟩ (by show 0 < X 5 (3 * n + b); omega)) (cwV 1 hts gX5_press_X5_begins rfl rfl rfl (by decide +kernel) ⟨Nat.le_of_ble_eq_true rfl, Nat.le_of_ble_eq_true rfl⟩) (g_preV (r := (RX5, TX5, 23)) hG hS (rm_ge hbm) hM.1 rfl) rfl rfl hl.1 rfl (lv_room (Nat.le_of_ble_eq_true rfl)) dX5_press_245 ⟨Nat.le_of_ble_eq_true rfl, Nat.le_of_ble_eq_true rfl⟩) hS (fun _ h => h) (fun _ _ _ _ _ h => h.elim) (fun v H1 locs hp hz9 hk9 hS => ?_)
                        obtain ⟨rfl, hM⟩ := hp
                        refine W.eq (g2 := F0 m 248 ls []) rfl ?_
                        refine b_iconst hx hb dX5_press_248 ?_
                        have e9 : pmS X (up X 22 0 0) n (3 * n + b) k = (beS (up (up X 22 0 (0)) 8 (12 * n + k) ((X 8 (12 * n + k)) - 0)) (3 * n + b)) := by
                          unfold pmS plM
                          (repeat' split) <;> first | rfl | omega
                        have e8 : (1 : Int) = pmV X n (3 * n + b) k := by
                          unfold pmV plM
                          (repeat' split) <;> omega
                        exact g_iret hx hb hr hlocks hS ⟨Nat.le_of_ble_eq_true rfl, Nat.le_of_ble_eq_true rfl⟩ (⟨1, (beS (up (up X 22 0 (0)) 8 (12 * n + k) ((X 8 (12 * n + k)) - 0)) (3 * n + b)), Or.inl (⟨n, b, k, by omega, e8, e9.symm⟩), rfl, hM⟩) dX5_press_249
                      · skip
                        refine lv_aload_n hx hb dX5_press_216 rfl (lv_at hl 5 rfl) ?_
                        refine lv_iload_n hx hb dX5_press_217 rfl (lv_at hl 6 rfl) ?_
                        refine g_run (vx_runV (As := [.int (z2 (((n : Nat) : Int)))]) (rest := []) ⟨hx, hb, hml, hown, hts⟩ (m_breaks l D ks bx bm hbm (up X 22 0 (0)) _ hM (vs_uf (hV) (by decide)) (n := n) (((n : Nat) : Int)) ⟨by omega, by omega⟩) (cwV 1 hts gX5_press_X5_breaks rfl rfl rfl (by decide +kernel) ⟨Nat.le_of_ble_eq_true rfl, Nat.le_of_ble_eq_true rfl⟩) (g_preV (r := (RX5, TX5, 23)) hG hS (rm_ge hbm) hM.1 rfl) rfl rfl hl.1 rfl (lv_room (Nat.le_of_ble_eq_true rfl)) dX5_press_218 ⟨Nat.le_of_ble_eq_true rfl, Nat.le_of_ble_eq_true rfl⟩) hS (fun _ h => h) (fun _ _ _ _ _ h => h.elim) (fun v H1 locs hp hz9 hk9 hS => ?_)
                        obtain ⟨rfl, hM⟩ := hp
                        have hV : VS (brM (up X 22 0 (0)) n) := vs_br (vs_uf (hV) (by decide)) n
                        refine W.eq (g2 := F0 m 221 ls []) rfl ?_
                        refine b_iconst hx hb dX5_press_221 ?_
                        have e9 : pmS X (up X 22 0 0) n (3 * n + b) k = (brM (up X 22 0 (0)) n) := by
                          unfold pmS plM
                          (repeat' split) <;> first | rfl | omega
                        have e8 : (3 : Int) = pmV X n (3 * n + b) k := by
                          unfold pmV plM
                          (repeat' split) <;> omega
                        exact g_iret hx hb hr hlocks hS ⟨Nat.le_of_ble_eq_true rfl, Nat.le_of_ble_eq_true rfl⟩ (⟨3, (brM (up X 22 0 (0)) n), Or.inl (⟨n, b, k, by omega, e8, e9.symm⟩), rfl, hM⟩) dX5_press_222
                    · skip
                      refine lv_aload_n hx hb dX5_press_185 rfl (lv_at hl 5 rfl) ?_
                      refine g_get (C := RX5) (T := TX5) (N := 23) hx hb hts inX5 hown hG hM.1 rfl 6 (by decide) (by decide +kernel) rfl (v := .ref (bm + 5)) rfl dX5_press_186 ?_
                      refine b_iconst hx hb dX5_press_189 ?_
                      refine lv_iload_n hx hb dX5_press_190 rfl (lv_at hl 6 rfl) ?_
                      refine b_imul hx hb dX5_press_191 ?_
                      refine lv_iload hx hb dX5_press_192 (lv_at hl 0 rfl) ?_
                      refine b_iadd hx hb dX5_press_194 ?_
                      have b_195 : 1 ≤ X 6 (3 * n + 2) ∧ X 6 (3 * n + 2) ≤ 9 := hV.1 6 _ (by decide) rfl
                      refine g_iald (n := 24) hx hb hG (f := fun i => z2 ((up X 22 0 (0)) 6 i)) (show ca D (bm + 5) (iA (ks 0) 24 (fun i => z2 ((up X 22 0 (0)) 6 i))) _ from hM.2.1 6 (sr_of (by decide))) (3 * n + 2) ⟨by omega, by omega, by decide⟩ dX5_press_195 ?_
                      refine W.eq (g2 := F0 m 196 ls (.int (z2 (X 6 (3 * n + 2))) :: [.int (z2 (((X 6 (3 * n + b)) + 0) + 0))])) rfl ?_
                      refine lv_goto (tgt := 200) hx hb dX5_press_196 (by decide) ?_
                      refine b_iadd hx hb dX5_press_200 ?_
                      refine lv_istore (lv' := [(6, .int (z2 ((((X 6 (3 * n + b)) + 0) + 0) + (X 6 (3 * n + 2))))), (7, .int (z2 (2))), (5, .int (z2 (1))), (4, .int (z2 (((12 * ((n : Nat) : Int)) + (X 5 (3 * n + b))) - 1))), (3, .int (z2 ((3 * ((n : Nat) : Int)) + ((b : Nat) : Int)))), (0, .ref bm), (1, .int (z2 (((n : Nat) : Int)))), (2, .int (z2 (((b : Nat) : Int))))]) hx hb dX5_press_201 hl (by decide) rfl (fun ls hl => ?_)
                      refine b_iinc (lv' := [(7, .int (z2 (3))), (6, .int (z2 ((((X 6 (3 * n + b)) + 0) + 0) + (X 6 (3 * n + 2))))), (5, .int (z2 (1))), (4, .int (z2 (((12 * ((n : Nat) : Int)) + (X 5 (3 * n + b))) - 1))), (3, .int (z2 ((3 * ((n : Nat) : Int)) + ((b : Nat) : Int)))), (0, .ref bm), (1, .int (z2 (((n : Nat) : Int)))), (2, .int (z2 (((b : Nat) : Int))))]) hx hb dX5_press_203 hl (k := 1) rfl (by decide) rfl (fun ls hl => ?_)
                      refine lv_goto (tgt := 163) hx hb dX5_press_206 (by decide) ?_
                      refine lv_iload hx hb dX5_press_163 (lv_at hl 0 rfl) ?_
                      refine b_iconst hx hb dX5_press_165 ?_
                      refine b_icmp_ge (tgt := 209) hx hb dX5_press_166 (by decide) ⟨⟨by omega, by omega⟩, ⟨by omega, by omega⟩⟩ (fun _ => ?_) (fun c => absurd c (by omega))
                      refine lv_iload hx hb dX5_press_209 (lv_at hl 1 rfl) ?_
                      refine b_bipush hx hb dX5_press_211 (by decide +kernel) ?_
                      refine b_icmp_le (tgt := 223) hx hb dX5_press_213 (by decide) ⟨⟨by omega, by omega⟩, ⟨by omega, by omega⟩⟩ (fun c_213 => ?_) (fun c_213 => ?_)
                      · skip
                        refine lv_aload_n hx hb dX5_press_223 rfl (lv_at hl 5 rfl) ?_
                        refine g_get (C := RX5) (T := TX5) (N := 23) hx hb hts inX5 hown hG hM.1 rfl 8 (by decide) (by decide +kernel) rfl (v := .ref (bm + 7)) rfl dX5_press_224 ?_
                        refine lv_iload hx hb dX5_press_227 (lv_at hl 3 rfl) ?_
                        refine lv_dup2_11 hx hb dX5_press_229 rfl rfl ?_
                        have b_230 : 0 ≤ X 8 (12 * n + k) ∧ X 8 (12 * n + k) ≤ 1000 := hV.1 8 _ (by decide) rfl
                        refine g_iald (n := 96) hx hb hG (f := fun i => z2 ((up X 22 0 (0)) 8 i)) (show ca D (bm + 7) (iA (ks 0) 96 (fun i => z2 ((up X 22 0 (0)) 8 i))) _ from hM.2.1 8 (sr_of (by decide))) (12 * n + k) ⟨by omega, by omega, by decide⟩ dX5_press_230 ?_
                        refine W.eq (g2 := F0 m 231 ls (.int (z2 (X 8 (12 * n + k))) :: [.int (z2 (((12 * ((n : Nat) : Int)) + (X 5 (3 * n + b))) - 1)), .ref (bm + 7)])) rfl ?_
                        refine lv_iload hx hb dX5_press_231 (lv_at hl 2 rfl) ?_
                        refine b_if_eq (tgt := 240) hx hb dX5_press_233 (by decide) ⟨by omega, by omega⟩ (fun c => absurd c (by omega)) (fun _ => ?_)
                        refine b_iconst hx hb dX5_press_236 ?_
                        refine lv_goto (tgt := 241) hx hb dX5_press_237 (by decide) ?_
                        refine b_isub hx hb dX5_press_241 ?_
                        refine g_iast (n := 96) hx hb hG hS (f := fun i => z2 ((up X 22 0 (0)) 8 i)) (show ca D (bm + 7) (iA (ks 0) 96 (fun i => z2 ((up X 22 0 (0)) 8 i))) _ from hM.2.1 8 (sr_of (by decide))) (Or.inl ⟨by omega, by omega⟩) (12 * n + k) ⟨by omega, by omega, by decide⟩ dX5_press_242 (fun H locs he hz oq hS => ?_)
                        have hM : PM D ks bm (up (up X 22 0 (0)) 8 (12 * n + k) ((X 8 (12 * n + k)) - 0)) H := hM.row (f := 8) (sr_of (by decide)) he oq
                        refine lv_aload_n hx hb dX5_press_243 rfl (lv_at hl 5 rfl) ?_
                        refine lv_iload_n hx hb dX5_press_244 rfl (lv_at hl 4 rfl) ?_
                        refine g_run (vx_runV (As := [.int (z2 ((3 * ((n : Nat) : Int)) + ((b : Nat) : Int)))]) (rest := []) ⟨hx, hb, hml, hown, hts⟩ (m_begins l D ks bx bm hbm (up (up X 22 0 (0)) 8 (12 * n + k) ((X 8 (12 * n + k)) - 0)) _ hM (vs_up (vs_uf hV (by decide)) (by decide) (fun _ _ => by show 0 ≤ _ ∧ _ ≤ (1000 : Int); omega)) (i := 3 * n + b) ((3 * ((n : Nat) : Int)) + ((b : Nat) : Int)) ⟨by omega, by omega⟩ (by show 0 < X 5 (3 * n + b); omega)) (cwV 1 hts gX5_press_X5_begins rfl rfl rfl (by decide +kernel) ⟨Nat.le_of_ble_eq_true rfl, Nat.le_of_ble_eq_true rfl⟩) (g_preV (r := (RX5, TX5, 23)) hG hS (rm_ge hbm) hM.1 rfl) rfl rfl hl.1 rfl (lv_room (Nat.le_of_ble_eq_true rfl)) dX5_press_245 ⟨Nat.le_of_ble_eq_true rfl, Nat.le_of_ble_eq_true rfl⟩) hS (fun _ h => h) (fun _ _ _ _ _ h => h.elim) (fun v H1 locs hp hz9 hk9 hS => ?_)
                        obtain ⟨rfl, hM⟩ := hp
                        refine W.eq (g2 := F0 m 248 ls []) rfl ?_
                        refine b_iconst hx hb dX5_press_248 ?_
                        have e9 : pmS X (up X 22 0 0) n (3 * n + b) k = (beS (up (up X 22 0 (0)) 8 (12 * n + k) ((X 8 (12 * n + k)) - 0)) (3 * n + b)) := by
                          unfold pmS plM
                          (repeat' split) <;> first | rfl | omega
                        have e8 : (1 : Int) = pmV X n (3 * n + b) k := by
                          unfold pmV plM
                          (repeat' split) <;> omega
                        exact g_iret hx hb hr hlocks hS ⟨Nat.le_of_ble_eq_true rfl, Nat.le_of_ble_eq_true rfl⟩ (⟨1, (beS (up (up X 22 0 (0)) 8 (12 * n + k) ((X 8 (12 * n + k)) - 0)) (3 * n + b)), Or.inl (⟨n, b, k, by omega, e8, e9.symm⟩), rfl, hM⟩) dX5_press_249
                      · skip
                        refine lv_aload_n hx hb dX5_press_216 rfl (lv_at hl 5 rfl) ?_
                        refine lv_iload_n hx hb dX5_press_217 rfl (lv_at hl 6 rfl) ?_
                        refine g_run (vx_runV (As := [.int (z2 (((n : Nat) : Int)))]) (rest := []) ⟨hx, hb, hml, hown, hts⟩ (m_breaks l D ks bx bm hbm (up X 22 0 (0)) _ hM (vs_uf (hV) (by decide)) (n := n) (((n : Nat) : Int)) ⟨by omega, by omega⟩) (cwV 1 hts gX5_press_X5_breaks rfl rfl rfl (by decide +kernel) ⟨Nat.le_of_ble_eq_true rfl, Nat.le_of_ble_eq_true rfl⟩) (g_preV (r := (RX5, TX5, 23)) hG hS (rm_ge hbm) hM.1 rfl) rfl rfl hl.1 rfl (lv_room (Nat.le_of_ble_eq_true rfl)) dX5_press_218 ⟨Nat.le_of_ble_eq_true rfl, Nat.le_of_ble_eq_true rfl⟩) hS (fun _ h => h) (fun _ _ _ _ _ h => h.elim) (fun v H1 locs hp hz9 hk9 hS => ?_)
                        obtain ⟨rfl, hM⟩ := hp
                        have hV : VS (brM (up X 22 0 (0)) n) := vs_br (vs_uf (hV) (by decide)) n
                        refine W.eq (g2 := F0 m 221 ls []) rfl ?_
                        refine b_iconst hx hb dX5_press_221 ?_
                        have e9 : pmS X (up X 22 0 0) n (3 * n + b) k = (brM (up X 22 0 (0)) n) := by
                          unfold pmS plM
                          (repeat' split) <;> first | rfl | omega
                        have e8 : (3 : Int) = pmV X n (3 * n + b) k := by
                          unfold pmV plM
                          (repeat' split) <;> omega
                        exact g_iret hx hb hr hlocks hS ⟨Nat.le_of_ble_eq_true rfl, Nat.le_of_ble_eq_true rfl⟩ (⟨3, (brM (up X 22 0 (0)) n), Or.inl (⟨n, b, k, by omega, e8, e9.symm⟩), rfl, hM⟩) dX5_press_222
                  · skip
                    refine lv_aload_n hx hb dX5_press_185 rfl (lv_at hl 5 rfl) ?_
                    refine g_get (C := RX5) (T := TX5) (N := 23) hx hb hts inX5 hown hG hM.1 rfl 6 (by decide) (by decide +kernel) rfl (v := .ref (bm + 5)) rfl dX5_press_186 ?_
                    refine b_iconst hx hb dX5_press_189 ?_
                    refine lv_iload_n hx hb dX5_press_190 rfl (lv_at hl 6 rfl) ?_
                    refine b_imul hx hb dX5_press_191 ?_
                    refine lv_iload hx hb dX5_press_192 (lv_at hl 0 rfl) ?_
                    refine b_iadd hx hb dX5_press_194 ?_
                    have b_195 : 1 ≤ X 6 (3 * n + 1) ∧ X 6 (3 * n + 1) ≤ 9 := hV.1 6 _ (by decide) rfl
                    refine g_iald (n := 24) hx hb hG (f := fun i => z2 ((up X 22 0 (0)) 6 i)) (show ca D (bm + 5) (iA (ks 0) 24 (fun i => z2 ((up X 22 0 (0)) 6 i))) _ from hM.2.1 6 (sr_of (by decide))) (3 * n + 1) ⟨by omega, by omega, by decide⟩ dX5_press_195 ?_
                    refine W.eq (g2 := F0 m 196 ls (.int (z2 (X 6 (3 * n + 1))) :: [.int (z2 ((X 6 (3 * n + b)) + 0))])) rfl ?_
                    refine lv_goto (tgt := 200) hx hb dX5_press_196 (by decide) ?_
                    refine b_iadd hx hb dX5_press_200 ?_
                    refine lv_istore (lv' := [(6, .int (z2 (((X 6 (3 * n + b)) + 0) + (X 6 (3 * n + 1))))), (7, .int (z2 (1))), (5, .int (z2 (1))), (4, .int (z2 (((12 * ((n : Nat) : Int)) + (X 5 (3 * n + b))) - 1))), (3, .int (z2 ((3 * ((n : Nat) : Int)) + ((b : Nat) : Int)))), (0, .ref bm), (1, .int (z2 (((n : Nat) : Int)))), (2, .int (z2 (((b : Nat) : Int))))]) hx hb dX5_press_201 hl (by decide) rfl (fun ls hl => ?_)
                    refine b_iinc (lv' := [(7, .int (z2 (2))), (6, .int (z2 (((X 6 (3 * n + b)) + 0) + (X 6 (3 * n + 1))))), (5, .int (z2 (1))), (4, .int (z2 (((12 * ((n : Nat) : Int)) + (X 5 (3 * n + b))) - 1))), (3, .int (z2 ((3 * ((n : Nat) : Int)) + ((b : Nat) : Int)))), (0, .ref bm), (1, .int (z2 (((n : Nat) : Int)))), (2, .int (z2 (((b : Nat) : Int))))]) hx hb dX5_press_203 hl (k := 1) rfl (by decide) rfl (fun ls hl => ?_)
                    refine lv_goto (tgt := 163) hx hb dX5_press_206 (by decide) ?_
                    refine lv_iload hx hb dX5_press_163 (lv_at hl 0 rfl) ?_
                    refine b_iconst hx hb dX5_press_165 ?_
                    refine b_icmp_ge (tgt := 209) hx hb dX5_press_166 (by decide) ⟨⟨by omega, by omega⟩, ⟨by omega, by omega⟩⟩ (fun c => absurd c (by omega)) (fun _ => ?_)
                    refine lv_iload hx hb dX5_press_169 (lv_at hl 1 rfl) ?_
                    refine lv_aload_n hx hb dX5_press_171 rfl (lv_at hl 5 rfl) ?_
                    refine g_get (C := RX5) (T := TX5) (N := 23) hx hb hts inX5 hown hG hM.1 rfl 7 (by decide) (by decide +kernel) rfl (v := .ref (bm + 6)) rfl dX5_press_172 ?_
                    refine b_iconst hx hb dX5_press_175 ?_
                    refine lv_iload_n hx hb dX5_press_176 rfl (lv_at hl 6 rfl) ?_
                    refine b_imul hx hb dX5_press_177 ?_
                    refine lv_iload hx hb dX5_press_178 (lv_at hl 0 rfl) ?_
                    refine b_iadd hx hb dX5_press_180 ?_
                    have b_181 : 0 ≤ X 7 (3 * n + 2) ∧ X 7 (3 * n + 2) ≤ 1000024 := hV.1 7 _ (by decide) rfl
                    refine g_iald (n := 24) hx hb hG (f := fun i => z2 ((up X 22 0 (0)) 7 i)) (show ca D (bm + 6) (iA (ks 0) 24 (fun i => z2 ((up X 22 0 (0)) 7 i))) _ from hM.2.1 7 (sr_of (by decide))) (3 * n + 2) ⟨by omega, by omega, by decide⟩ dX5_press_181 ?_
                    refine W.eq (g2 := F0 m 182 ls (.int (z2 (X 7 (3 * n + 2))) :: [.int (z2 (((X 6 (3 * n + b)) + 0) + (X 6 (3 * n + 1))))])) rfl ?_
                    refine b_if_le (tgt := 199) hx hb dX5_press_182 (by decide) ⟨by omega, by omega⟩ (fun c_182 => ?_) (fun c_182 => ?_)
                    · skip
                      refine b_iconst hx hb dX5_press_199 ?_
                      refine b_iadd hx hb dX5_press_200 ?_
                      refine lv_istore (lv' := [(6, .int (z2 ((((X 6 (3 * n + b)) + 0) + (X 6 (3 * n + 1))) + 0))), (7, .int (z2 (2))), (5, .int (z2 (1))), (4, .int (z2 (((12 * ((n : Nat) : Int)) + (X 5 (3 * n + b))) - 1))), (3, .int (z2 ((3 * ((n : Nat) : Int)) + ((b : Nat) : Int)))), (0, .ref bm), (1, .int (z2 (((n : Nat) : Int)))), (2, .int (z2 (((b : Nat) : Int))))]) hx hb dX5_press_201 hl (by decide) rfl (fun ls hl => ?_)
                      refine b_iinc (lv' := [(7, .int (z2 (3))), (6, .int (z2 ((((X 6 (3 * n + b)) + 0) + (X 6 (3 * n + 1))) + 0))), (5, .int (z2 (1))), (4, .int (z2 (((12 * ((n : Nat) : Int)) + (X 5 (3 * n + b))) - 1))), (3, .int (z2 ((3 * ((n : Nat) : Int)) + ((b : Nat) : Int)))), (0, .ref bm), (1, .int (z2 (((n : Nat) : Int)))), (2, .int (z2 (((b : Nat) : Int))))]) hx hb dX5_press_203 hl (k := 1) rfl (by decide) rfl (fun ls hl => ?_)
                      refine lv_goto (tgt := 163) hx hb dX5_press_206 (by decide) ?_
                      refine lv_iload hx hb dX5_press_163 (lv_at hl 0 rfl) ?_
                      refine b_iconst hx hb dX5_press_165 ?_
                      refine b_icmp_ge (tgt := 209) hx hb dX5_press_166 (by decide) ⟨⟨by omega, by omega⟩, ⟨by omega, by omega⟩⟩ (fun _ => ?_) (fun c => absurd c (by omega))
                      refine lv_iload hx hb dX5_press_209 (lv_at hl 1 rfl) ?_
                      refine b_bipush hx hb dX5_press_211 (by decide +kernel) ?_
                      refine b_icmp_le (tgt := 223) hx hb dX5_press_213 (by decide) ⟨⟨by omega, by omega⟩, ⟨by omega, by omega⟩⟩ (fun c_213 => ?_) (fun c_213 => ?_)
                      · skip
                        refine lv_aload_n hx hb dX5_press_223 rfl (lv_at hl 5 rfl) ?_
                        refine g_get (C := RX5) (T := TX5) (N := 23) hx hb hts inX5 hown hG hM.1 rfl 8 (by decide) (by decide +kernel) rfl (v := .ref (bm + 7)) rfl dX5_press_224 ?_
                        refine lv_iload hx hb dX5_press_227 (lv_at hl 3 rfl) ?_
                        refine lv_dup2_11 hx hb dX5_press_229 rfl rfl ?_
                        have b_230 : 0 ≤ X 8 (12 * n + k) ∧ X 8 (12 * n + k) ≤ 1000 := hV.1 8 _ (by decide) rfl
                        refine g_iald (n := 96) hx hb hG (f := fun i => z2 ((up X 22 0 (0)) 8 i)) (show ca D (bm + 7) (iA (ks 0) 96 (fun i => z2 ((up X 22 0 (0)) 8 i))) _ from hM.2.1 8 (sr_of (by decide))) (12 * n + k) ⟨by omega, by omega, by decide⟩ dX5_press_230 ?_
                        refine W.eq (g2 := F0 m 231 ls (.int (z2 (X 8 (12 * n + k))) :: [.int (z2 (((12 * ((n : Nat) : Int)) + (X 5 (3 * n + b))) - 1)), .ref (bm + 7)])) rfl ?_
                        refine lv_iload hx hb dX5_press_231 (lv_at hl 2 rfl) ?_
                        refine b_if_eq (tgt := 240) hx hb dX5_press_233 (by decide) ⟨by omega, by omega⟩ (fun c => absurd c (by omega)) (fun _ => ?_)
                        refine b_iconst hx hb dX5_press_236 ?_
                        refine lv_goto (tgt := 241) hx hb dX5_press_237 (by decide) ?_
                        refine b_isub hx hb dX5_press_241 ?_
                        refine g_iast (n := 96) hx hb hG hS (f := fun i => z2 ((up X 22 0 (0)) 8 i)) (show ca D (bm + 7) (iA (ks 0) 96 (fun i => z2 ((up X 22 0 (0)) 8 i))) _ from hM.2.1 8 (sr_of (by decide))) (Or.inl ⟨by omega, by omega⟩) (12 * n + k) ⟨by omega, by omega, by decide⟩ dX5_press_242 (fun H locs he hz oq hS => ?_)
                        have hM : PM D ks bm (up (up X 22 0 (0)) 8 (12 * n + k) ((X 8 (12 * n + k)) - 0)) H := hM.row (f := 8) (sr_of (by decide)) he oq
                        refine lv_aload_n hx hb dX5_press_243 rfl (lv_at hl 5 rfl) ?_
                        refine lv_iload_n hx hb dX5_press_244 rfl (lv_at hl 4 rfl) ?_
                        refine g_run (vx_runV (As := [.int (z2 ((3 * ((n : Nat) : Int)) + ((b : Nat) : Int)))]) (rest := []) ⟨hx, hb, hml, hown, hts⟩ (m_begins l D ks bx bm hbm (up (up X 22 0 (0)) 8 (12 * n + k) ((X 8 (12 * n + k)) - 0)) _ hM (vs_up (vs_uf hV (by decide)) (by decide) (fun _ _ => by show 0 ≤ _ ∧ _ ≤ (1000 : Int); omega)) (i := 3 * n + b) ((3 * ((n : Nat) : Int)) + ((b : Nat) : Int)) ⟨by omega, by omega⟩ (by show 0 < X 5 (3 * n + b); omega)) (cwV 1 hts gX5_press_X5_begins rfl rfl rfl (by decide +kernel) ⟨Nat.le_of_ble_eq_true rfl, Nat.le_of_ble_eq_true rfl⟩) (g_preV (r := (RX5, TX5, 23)) hG hS (rm_ge hbm) hM.1 rfl) rfl rfl hl.1 rfl (lv_room (Nat.le_of_ble_eq_true rfl)) dX5_press_245 ⟨Nat.le_of_ble_eq_true rfl, Nat.le_of_ble_eq_true rfl⟩) hS (fun _ h => h) (fun _ _ _ _ _ h => h.elim) (fun v H1 locs hp hz9 hk9 hS => ?_)
                        obtain ⟨rfl, hM⟩ := hp
                        refine W.eq (g2 := F0 m 248 ls []) rfl ?_
                        refine b_iconst hx hb dX5_press_248 ?_
                        have e9 : pmS X (up X 22 0 0) n (3 * n + b) k = (beS (up (up X 22 0 (0)) 8 (12 * n + k) ((X 8 (12 * n + k)) - 0)) (3 * n + b)) := by
                          unfold pmS plM
                          (repeat' split) <;> first | rfl | omega
                        have e8 : (1 : Int) = pmV X n (3 * n + b) k := by
                          unfold pmV plM
                          (repeat' split) <;> omega
                        exact g_iret hx hb hr hlocks hS ⟨Nat.le_of_ble_eq_true rfl, Nat.le_of_ble_eq_true rfl⟩ (⟨1, (beS (up (up X 22 0 (0)) 8 (12 * n + k) ((X 8 (12 * n + k)) - 0)) (3 * n + b)), Or.inl (⟨n, b, k, by omega, e8, e9.symm⟩), rfl, hM⟩) dX5_press_249
                      · skip
                        refine lv_aload_n hx hb dX5_press_216 rfl (lv_at hl 5 rfl) ?_
                        refine lv_iload_n hx hb dX5_press_217 rfl (lv_at hl 6 rfl) ?_
                        refine g_run (vx_runV (As := [.int (z2 (((n : Nat) : Int)))]) (rest := []) ⟨hx, hb, hml, hown, hts⟩ (m_breaks l D ks bx bm hbm (up X 22 0 (0)) _ hM (vs_uf (hV) (by decide)) (n := n) (((n : Nat) : Int)) ⟨by omega, by omega⟩) (cwV 1 hts gX5_press_X5_breaks rfl rfl rfl (by decide +kernel) ⟨Nat.le_of_ble_eq_true rfl, Nat.le_of_ble_eq_true rfl⟩) (g_preV (r := (RX5, TX5, 23)) hG hS (rm_ge hbm) hM.1 rfl) rfl rfl hl.1 rfl (lv_room (Nat.le_of_ble_eq_true rfl)) dX5_press_218 ⟨Nat.le_of_ble_eq_true rfl, Nat.le_of_ble_eq_true rfl⟩) hS (fun _ h => h) (fun _ _ _ _ _ h => h.elim) (fun v H1 locs hp hz9 hk9 hS => ?_)
                        obtain ⟨rfl, hM⟩ := hp
                        have hV : VS (brM (up X 22 0 (0)) n) := vs_br (vs_uf (hV) (by decide)) n
                        refine W.eq (g2 := F0 m 221 ls []) rfl ?_
                        refine b_iconst hx hb dX5_press_221 ?_
                        have e9 : pmS X (up X 22 0 0) n (3 * n + b) k = (brM (up X 22 0 (0)) n) := by
                          unfold pmS plM
                          (repeat' split) <;> first | rfl | omega
                        have e8 : (3 : Int) = pmV X n (3 * n + b) k := by
                          unfold pmV plM
                          (repeat' split) <;> omega
                        exact g_iret hx hb hr hlocks hS ⟨Nat.le_of_ble_eq_true rfl, Nat.le_of_ble_eq_true rfl⟩ (⟨3, (brM (up X 22 0 (0)) n), Or.inl (⟨n, b, k, by omega, e8, e9.symm⟩), rfl, hM⟩) dX5_press_222
                    · skip
                      refine lv_aload_n hx hb dX5_press_185 rfl (lv_at hl 5 rfl) ?_
                      refine g_get (C := RX5) (T := TX5) (N := 23) hx hb hts inX5 hown hG hM.1 rfl 6 (by decide) (by decide +kernel) rfl (v := .ref (bm + 5)) rfl dX5_press_186 ?_
                      refine b_iconst hx hb dX5_press_189 ?_
                      refine lv_iload_n hx hb dX5_press_190 rfl (lv_at hl 6 rfl) ?_
                      refine b_imul hx hb dX5_press_191 ?_
                      refine lv_iload hx hb dX5_press_192 (lv_at hl 0 rfl) ?_
                      refine b_iadd hx hb dX5_press_194 ?_
                      have b_195 : 1 ≤ X 6 (3 * n + 2) ∧ X 6 (3 * n + 2) ≤ 9 := hV.1 6 _ (by decide) rfl
                      refine g_iald (n := 24) hx hb hG (f := fun i => z2 ((up X 22 0 (0)) 6 i)) (show ca D (bm + 5) (iA (ks 0) 24 (fun i => z2 ((up X 22 0 (0)) 6 i))) _ from hM.2.1 6 (sr_of (by decide))) (3 * n + 2) ⟨by omega, by omega, by decide⟩ dX5_press_195 ?_
                      refine W.eq (g2 := F0 m 196 ls (.int (z2 (X 6 (3 * n + 2))) :: [.int (z2 (((X 6 (3 * n + b)) + 0) + (X 6 (3 * n + 1))))])) rfl ?_
                      refine lv_goto (tgt := 200) hx hb dX5_press_196 (by decide) ?_
                      refine b_iadd hx hb dX5_press_200 ?_
                      refine lv_istore (lv' := [(6, .int (z2 ((((X 6 (3 * n + b)) + 0) + (X 6 (3 * n + 1))) + (X 6 (3 * n + 2))))), (7, .int (z2 (2))), (5, .int (z2 (1))), (4, .int (z2 (((12 * ((n : Nat) : Int)) + (X 5 (3 * n + b))) - 1))), (3, .int (z2 ((3 * ((n : Nat) : Int)) + ((b : Nat) : Int)))), (0, .ref bm), (1, .int (z2 (((n : Nat) : Int)))), (2, .int (z2 (((b : Nat) : Int))))]) hx hb dX5_press_201 hl (by decide) rfl (fun ls hl => ?_)
                      refine b_iinc (lv' := [(7, .int (z2 (3))), (6, .int (z2 ((((X 6 (3 * n + b)) + 0) + (X 6 (3 * n + 1))) + (X 6 (3 * n + 2))))), (5, .int (z2 (1))), (4, .int (z2 (((12 * ((n : Nat) : Int)) + (X 5 (3 * n + b))) - 1))), (3, .int (z2 ((3 * ((n : Nat) : Int)) + ((b : Nat) : Int)))), (0, .ref bm), (1, .int (z2 (((n : Nat) : Int)))), (2, .int (z2 (((b : Nat) : Int))))]) hx hb dX5_press_203 hl (k := 1) rfl (by decide) rfl (fun ls hl => ?_)
                      refine lv_goto (tgt := 163) hx hb dX5_press_206 (by decide) ?_
                      refine lv_iload hx hb dX5_press_163 (lv_at hl 0 rfl) ?_
                      refine b_iconst hx hb dX5_press_165 ?_
                      refine b_icmp_ge (tgt := 209) hx hb dX5_press_166 (by decide) ⟨⟨by omega, by omega⟩, ⟨by omega, by omega⟩⟩ (fun _ => ?_) (fun c => absurd c (by omega))
                      refine lv_iload hx hb dX5_press_209 (lv_at hl 1 rfl) ?_
                      refine b_bipush hx hb dX5_press_211 (by decide +kernel) ?_
                      refine b_icmp_le (tgt := 223) hx hb dX5_press_213 (by decide) ⟨⟨by omega, by omega⟩, ⟨by omega, by omega⟩⟩ (fun c_213 => ?_) (fun c_213 => ?_)
                      · skip
                        refine lv_aload_n hx hb dX5_press_223 rfl (lv_at hl 5 rfl) ?_
                        refine g_get (C := RX5) (T := TX5) (N := 23) hx hb hts inX5 hown hG hM.1 rfl 8 (by decide) (by decide +kernel) rfl (v := .ref (bm + 7)) rfl dX5_press_224 ?_
                        refine lv_iload hx hb dX5_press_227 (lv_at hl 3 rfl) ?_
                        refine lv_dup2_11 hx hb dX5_press_229 rfl rfl ?_
                        have b_230 : 0 ≤ X 8 (12 * n + k) ∧ X 8 (12 * n + k) ≤ 1000 := hV.1 8 _ (by decide) rfl
                        refine g_iald (n := 96) hx hb hG (f := fun i => z2 ((up X 22 0 (0)) 8 i)) (show ca D (bm + 7) (iA (ks 0) 96 (fun i => z2 ((up X 22 0 (0)) 8 i))) _ from hM.2.1 8 (sr_of (by decide))) (12 * n + k) ⟨by omega, by omega, by decide⟩ dX5_press_230 ?_
                        refine W.eq (g2 := F0 m 231 ls (.int (z2 (X 8 (12 * n + k))) :: [.int (z2 (((12 * ((n : Nat) : Int)) + (X 5 (3 * n + b))) - 1)), .ref (bm + 7)])) rfl ?_
                        refine lv_iload hx hb dX5_press_231 (lv_at hl 2 rfl) ?_
                        refine b_if_eq (tgt := 240) hx hb dX5_press_233 (by decide) ⟨by omega, by omega⟩ (fun c => absurd c (by omega)) (fun _ => ?_)
                        refine b_iconst hx hb dX5_press_236 ?_
                        refine lv_goto (tgt := 241) hx hb dX5_press_237 (by decide) ?_
                        refine b_isub hx hb dX5_press_241 ?_
                        refine g_iast (n := 96) hx hb hG hS (f := fun i => z2 ((up X 22 0 (0)) 8 i)) (show ca D (bm + 7) (iA (ks 0) 96 (fun i => z2 ((up X 22 0 (0)) 8 i))) _ from hM.2.1 8 (sr_of (by decide))) (Or.inl ⟨by omega, by omega⟩) (12 * n + k) ⟨by omega, by omega, by decide⟩ dX5_press_242 (fun H locs he hz oq hS => ?_)
                        have hM : PM D ks bm (up (up X 22 0 (0)) 8 (12 * n + k) ((X 8 (12 * n + k)) - 0)) H := hM.row (f := 8) (sr_of (by decide)) he oq
                        refine lv_aload_n hx hb dX5_press_243 rfl (lv_at hl 5 rfl) ?_
                        refine lv_iload_n hx hb dX5_press_244 rfl (lv_at hl 4 rfl) ?_
                        refine g_run (vx_runV (As := [.int (z2 ((3 * ((n : Nat) : Int)) + ((b : Nat) : Int)))]) (rest := []) ⟨hx, hb, hml, hown, hts⟩ (m_begins l D ks bx bm hbm (up (up X 22 0 (0)) 8 (12 * n + k) ((X 8 (12 * n + k)) - 0)) _ hM (vs_up (vs_uf hV (by decide)) (by decide) (fun _ _ => by show 0 ≤ _ ∧ _ ≤ (1000 : Int); omega)) (i := 3 * n + b) ((3 * ((n : Nat) : Int)) + ((b : Nat) : Int)) ⟨by omega, by omega⟩ (by show 0 < X 5 (3 * n + b); omega)) (cwV 1 hts gX5_press_X5_begins rfl rfl rfl (by decide +kernel) ⟨Nat.le_of_ble_eq_true rfl, Nat.le_of_ble_eq_true rfl⟩) (g_preV (r := (RX5, TX5, 23)) hG hS (rm_ge hbm) hM.1 rfl) rfl rfl hl.1 rfl (lv_room (Nat.le_of_ble_eq_true rfl)) dX5_press_245 ⟨Nat.le_of_ble_eq_true rfl, Nat.le_of_ble_eq_true rfl⟩) hS (fun _ h => h) (fun _ _ _ _ _ h => h.elim) (fun v H1 locs hp hz9 hk9 hS => ?_)
                        obtain ⟨rfl, hM⟩ := hp
                        refine W.eq (g2 := F0 m 248 ls []) rfl ?_
                        refine b_iconst hx hb dX5_press_248 ?_
                        have e9 : pmS X (up X 22 0 0) n (3 * n + b) k = (beS (up (up X 22 0 (0)) 8 (12 * n + k) ((X 8 (12 * n + k)) - 0)) (3 * n + b)) := by
                          unfold pmS plM
                          (repeat' split) <;> first | rfl | omega
                        have e8 : (1 : Int) = pmV X n (3 * n + b) k := by
                          unfold pmV plM
                          (repeat' split) <;> omega
                        exact g_iret hx hb hr hlocks hS ⟨Nat.le_of_ble_eq_true rfl, Nat.le_of_ble_eq_true rfl⟩ (⟨1, (beS (up (up X 22 0 (0)) 8 (12 * n + k) ((X 8 (12 * n + k)) - 0)) (3 * n + b)), Or.inl (⟨n, b, k, by omega, e8, e9.symm⟩), rfl, hM⟩) dX5_press_249
                      · skip
                        refine lv_aload_n hx hb dX5_press_216 rfl (lv_at hl 5 rfl) ?_
                        refine lv_iload_n hx hb dX5_press_217 rfl (lv_at hl 6 rfl) ?_
                        refine g_run (vx_runV (As := [.int (z2 (((n : Nat) : Int)))]) (rest := []) ⟨hx, hb, hml, hown, hts⟩ (m_breaks l D ks bx bm hbm (up X 22 0 (0)) _ hM (vs_uf (hV) (by decide)) (n := n) (((n : Nat) : Int)) ⟨by omega, by omega⟩) (cwV 1 hts gX5_press_X5_breaks rfl rfl rfl (by decide +kernel) ⟨Nat.le_of_ble_eq_true rfl, Nat.le_of_ble_eq_true rfl⟩) (g_preV (r := (RX5, TX5, 23)) hG hS (rm_ge hbm) hM.1 rfl) rfl rfl hl.1 rfl (lv_room (Nat.le_of_ble_eq_true rfl)) dX5_press_218 ⟨Nat.le_of_ble_eq_true rfl, Nat.le_of_ble_eq_true rfl⟩) hS (fun _ h => h) (fun _ _ _ _ _ h => h.elim) (fun v H1 locs hp hz9 hk9 hS => ?_)
                        obtain ⟨rfl, hM⟩ := hp
                        have hV : VS (brM (up X 22 0 (0)) n) := vs_br (vs_uf (hV) (by decide)) n
                        refine W.eq (g2 := F0 m 221 ls []) rfl ?_
                        refine b_iconst hx hb dX5_press_221 ?_
                        have e9 : pmS X (up X 22 0 0) n (3 * n + b) k = (brM (up X 22 0 (0)) n) := by
                          unfold pmS plM
                          (repeat' split) <;> first | rfl | omega
                        have e8 : (3 : Int) = pmV X n (3 * n + b) k := by
                          unfold pmV plM
                          (repeat' split) <;> omega
                        exact g_iret hx hb hr hlocks hS ⟨Nat.le_of_ble_eq_true rfl, Nat.le_of_ble_eq_true rfl⟩ (⟨3, (brM (up X 22 0 (0)) n), Or.inl (⟨n, b, k, by omega, e8, e9.symm⟩), rfl, hM⟩) dX5_press_222
                · skip
                  refine lv_aload_n hx hb dX5_press_185 rfl (lv_at hl 5 rfl) ?_
                  refine g_get (C := RX5) (T := TX5) (N := 23) hx hb hts inX5 hown hG hM.1 rfl 6 (by decide) (by decide +kernel) rfl (v := .ref (bm + 5)) rfl dX5_press_186 ?_
                  refine b_iconst hx hb dX5_press_189 ?_
                  refine lv_iload_n hx hb dX5_press_190 rfl (lv_at hl 6 rfl) ?_
                  refine b_imul hx hb dX5_press_191 ?_
                  refine lv_iload hx hb dX5_press_192 (lv_at hl 0 rfl) ?_
                  refine b_iadd hx hb dX5_press_194 ?_
                  have b_195 : 1 ≤ X 6 (3 * n + 0) ∧ X 6 (3 * n + 0) ≤ 9 := hV.1 6 _ (by decide) rfl
                  refine g_iald (n := 24) hx hb hG (f := fun i => z2 ((up X 22 0 (0)) 6 i)) (show ca D (bm + 5) (iA (ks 0) 24 (fun i => z2 ((up X 22 0 (0)) 6 i))) _ from hM.2.1 6 (sr_of (by decide))) (3 * n + 0) ⟨by omega, by omega, by decide⟩ dX5_press_195 ?_
                  refine W.eq (g2 := F0 m 196 ls (.int (z2 (X 6 (3 * n + 0))) :: [.int (z2 (X 6 (3 * n + b)))])) rfl ?_
                  refine lv_goto (tgt := 200) hx hb dX5_press_196 (by decide) ?_
                  refine b_iadd hx hb dX5_press_200 ?_
                  refine lv_istore (lv' := [(6, .int (z2 ((X 6 (3 * n + b)) + (X 6 (3 * n + 0))))), (7, .int (z2 (0))), (5, .int (z2 (1))), (4, .int (z2 (((12 * ((n : Nat) : Int)) + (X 5 (3 * n + b))) - 1))), (3, .int (z2 ((3 * ((n : Nat) : Int)) + ((b : Nat) : Int)))), (0, .ref bm), (1, .int (z2 (((n : Nat) : Int)))), (2, .int (z2 (((b : Nat) : Int))))]) hx hb dX5_press_201 hl (by decide) rfl (fun ls hl => ?_)
                  refine b_iinc (lv' := [(7, .int (z2 (1))), (6, .int (z2 ((X 6 (3 * n + b)) + (X 6 (3 * n + 0))))), (5, .int (z2 (1))), (4, .int (z2 (((12 * ((n : Nat) : Int)) + (X 5 (3 * n + b))) - 1))), (3, .int (z2 ((3 * ((n : Nat) : Int)) + ((b : Nat) : Int)))), (0, .ref bm), (1, .int (z2 (((n : Nat) : Int)))), (2, .int (z2 (((b : Nat) : Int))))]) hx hb dX5_press_203 hl (k := 1) rfl (by decide) rfl (fun ls hl => ?_)
                  refine lv_goto (tgt := 163) hx hb dX5_press_206 (by decide) ?_
                  refine lv_iload hx hb dX5_press_163 (lv_at hl 0 rfl) ?_
                  refine b_iconst hx hb dX5_press_165 ?_
                  refine b_icmp_ge (tgt := 209) hx hb dX5_press_166 (by decide) ⟨⟨by omega, by omega⟩, ⟨by omega, by omega⟩⟩ (fun c => absurd c (by omega)) (fun _ => ?_)
                  refine lv_iload hx hb dX5_press_169 (lv_at hl 1 rfl) ?_
                  refine lv_aload_n hx hb dX5_press_171 rfl (lv_at hl 5 rfl) ?_
                  refine g_get (C := RX5) (T := TX5) (N := 23) hx hb hts inX5 hown hG hM.1 rfl 7 (by decide) (by decide +kernel) rfl (v := .ref (bm + 6)) rfl dX5_press_172 ?_
                  refine b_iconst hx hb dX5_press_175 ?_
                  refine lv_iload_n hx hb dX5_press_176 rfl (lv_at hl 6 rfl) ?_
                  refine b_imul hx hb dX5_press_177 ?_
                  refine lv_iload hx hb dX5_press_178 (lv_at hl 0 rfl) ?_
                  refine b_iadd hx hb dX5_press_180 ?_
                  have b_181 : 0 ≤ X 7 (3 * n + 1) ∧ X 7 (3 * n + 1) ≤ 1000024 := hV.1 7 _ (by decide) rfl
                  refine g_iald (n := 24) hx hb hG (f := fun i => z2 ((up X 22 0 (0)) 7 i)) (show ca D (bm + 6) (iA (ks 0) 24 (fun i => z2 ((up X 22 0 (0)) 7 i))) _ from hM.2.1 7 (sr_of (by decide))) (3 * n + 1) ⟨by omega, by omega, by decide⟩ dX5_press_181 ?_
                  refine W.eq (g2 := F0 m 182 ls (.int (z2 (X 7 (3 * n + 1))) :: [.int (z2 ((X 6 (3 * n + b)) + (X 6 (3 * n + 0))))])) rfl ?_
                  refine b_if_le (tgt := 199) hx hb dX5_press_182 (by decide) ⟨by omega, by omega⟩ (fun c_182 => ?_) (fun c_182 => ?_)
                  · skip
                    refine b_iconst hx hb dX5_press_199 ?_
                    refine b_iadd hx hb dX5_press_200 ?_
                    refine lv_istore (lv' := [(6, .int (z2 (((X 6 (3 * n + b)) + (X 6 (3 * n + 0))) + 0))), (7, .int (z2 (1))), (5, .int (z2 (1))), (4, .int (z2 (((12 * ((n : Nat) : Int)) + (X 5 (3 * n + b))) - 1))), (3, .int (z2 ((3 * ((n : Nat) : Int)) + ((b : Nat) : Int)))), (0, .ref bm), (1, .int (z2 (((n : Nat) : Int)))), (2, .int (z2 (((b : Nat) : Int))))]) hx hb dX5_press_201 hl (by decide) rfl (fun ls hl => ?_)
                    refine b_iinc (lv' := [(7, .int (z2 (2))), (6, .int (z2 (((X 6 (3 * n + b)) + (X 6 (3 * n + 0))) + 0))), (5, .int (z2 (1))), (4, .int (z2 (((12 * ((n : Nat) : Int)) + (X 5 (3 * n + b))) - 1))), (3, .int (z2 ((3 * ((n : Nat) : Int)) + ((b : Nat) : Int)))), (0, .ref bm), (1, .int (z2 (((n : Nat) : Int)))), (2, .int (z2 (((b : Nat) : Int))))]) hx hb dX5_press_203 hl (k := 1) rfl (by decide) rfl (fun ls hl => ?_)
                    refine lv_goto (tgt := 163) hx hb dX5_press_206 (by decide) ?_
                    refine lv_iload hx hb dX5_press_163 (lv_at hl 0 rfl) ?_
                    refine b_iconst hx hb dX5_press_165 ?_
                    refine b_icmp_ge (tgt := 209) hx hb dX5_press_166 (by decide) ⟨⟨by omega, by omega⟩, ⟨by omega, by omega⟩⟩ (fun c => absurd c (by omega)) (fun _ => ?_)
                    refine lv_iload hx hb dX5_press_169 (lv_at hl 1 rfl) ?_
                    refine lv_aload_n hx hb dX5_press_171 rfl (lv_at hl 5 rfl) ?_
                    refine g_get (C := RX5) (T := TX5) (N := 23) hx hb hts inX5 hown hG hM.1 rfl 7 (by decide) (by decide +kernel) rfl (v := .ref (bm + 6)) rfl dX5_press_172 ?_
                    refine b_iconst hx hb dX5_press_175 ?_
                    refine lv_iload_n hx hb dX5_press_176 rfl (lv_at hl 6 rfl) ?_
                    refine b_imul hx hb dX5_press_177 ?_
                    refine lv_iload hx hb dX5_press_178 (lv_at hl 0 rfl) ?_
                    refine b_iadd hx hb dX5_press_180 ?_
                    have b_181 : 0 ≤ X 7 (3 * n + 2) ∧ X 7 (3 * n + 2) ≤ 1000024 := hV.1 7 _ (by decide) rfl
                    refine g_iald (n := 24) hx hb hG (f := fun i => z2 ((up X 22 0 (0)) 7 i)) (show ca D (bm + 6) (iA (ks 0) 24 (fun i => z2 ((up X 22 0 (0)) 7 i))) _ from hM.2.1 7 (sr_of (by decide))) (3 * n + 2) ⟨by omega, by omega, by decide⟩ dX5_press_181 ?_
                    refine W.eq (g2 := F0 m 182 ls (.int (z2 (X 7 (3 * n + 2))) :: [.int (z2 (((X 6 (3 * n + b)) + (X 6 (3 * n + 0))) + 0))])) rfl ?_
                    refine b_if_le (tgt := 199) hx hb dX5_press_182 (by decide) ⟨by omega, by omega⟩ (fun c_182 => ?_) (fun c_182 => ?_)
                    · skip
                      refine b_iconst hx hb dX5_press_199 ?_
                      refine b_iadd hx hb dX5_press_200 ?_
                      refine lv_istore (lv' := [(6, .int (z2 ((((X 6 (3 * n + b)) + (X 6 (3 * n + 0))) + 0) + 0))), (7, .int (z2 (2))), (5, .int (z2 (1))), (4, .int (z2 (((12 * ((n : Nat) : Int)) + (X 5 (3 * n + b))) - 1))), (3, .int (z2 ((3 * ((n : Nat) : Int)) + ((b : Nat) : Int)))), (0, .ref bm), (1, .int (z2 (((n : Nat) : Int)))), (2, .int (z2 (((b : Nat) : Int))))]) hx hb dX5_press_201 hl (by decide) rfl (fun ls hl => ?_)
                      refine b_iinc (lv' := [(7, .int (z2 (3))), (6, .int (z2 ((((X 6 (3 * n + b)) + (X 6 (3 * n + 0))) + 0) + 0))), (5, .int (z2 (1))), (4, .int (z2 (((12 * ((n : Nat) : Int)) + (X 5 (3 * n + b))) - 1))), (3, .int (z2 ((3 * ((n : Nat) : Int)) + ((b : Nat) : Int)))), (0, .ref bm), (1, .int (z2 (((n : Nat) : Int)))), (2, .int (z2 (((b : Nat) : Int))))]) hx hb dX5_press_203 hl (k := 1) rfl (by decide) rfl (fun ls hl => ?_)
                      refine lv_goto (tgt := 163) hx hb dX5_press_206 (by decide) ?_
                      refine lv_iload hx hb dX5_press_163 (lv_at hl 0 rfl) ?_
                      refine b_iconst hx hb dX5_press_165 ?_
                      refine b_icmp_ge (tgt := 209) hx hb dX5_press_166 (by decide) ⟨⟨by omega, by omega⟩, ⟨by omega, by omega⟩⟩ (fun _ => ?_) (fun c => absurd c (by omega))
                      refine lv_iload hx hb dX5_press_209 (lv_at hl 1 rfl) ?_
                      refine b_bipush hx hb dX5_press_211 (by decide +kernel) ?_
                      refine b_icmp_le (tgt := 223) hx hb dX5_press_213 (by decide) ⟨⟨by omega, by omega⟩, ⟨by omega, by omega⟩⟩ (fun c_213 => ?_) (fun c_213 => ?_)
                      · skip
                        refine lv_aload_n hx hb dX5_press_223 rfl (lv_at hl 5 rfl) ?_
                        refine g_get (C := RX5) (T := TX5) (N := 23) hx hb hts inX5 hown hG hM.1 rfl 8 (by decide) (by decide +kernel) rfl (v := .ref (bm + 7)) rfl dX5_press_224 ?_
                        refine lv_iload hx hb dX5_press_227 (lv_at hl 3 rfl) ?_
                        refine lv_dup2_11 hx hb dX5_press_229 rfl rfl ?_
                        have b_230 : 0 ≤ X 8 (12 * n + k) ∧ X 8 (12 * n + k) ≤ 1000 := hV.1 8 _ (by decide) rfl
                        refine g_iald (n := 96) hx hb hG (f := fun i => z2 ((up X 22 0 (0)) 8 i)) (show ca D (bm + 7) (iA (ks 0) 96 (fun i => z2 ((up X 22 0 (0)) 8 i))) _ from hM.2.1 8 (sr_of (by decide))) (12 * n + k) ⟨by omega, by omega, by decide⟩ dX5_press_230 ?_
                        refine W.eq (g2 := F0 m 231 ls (.int (z2 (X 8 (12 * n + k))) :: [.int (z2 (((12 * ((n : Nat) : Int)) + (X 5 (3 * n + b))) - 1)), .ref (bm + 7)])) rfl ?_
                        refine lv_iload hx hb dX5_press_231 (lv_at hl 2 rfl) ?_
                        refine b_if_eq (tgt := 240) hx hb dX5_press_233 (by decide) ⟨by omega, by omega⟩ (fun c => absurd c (by omega)) (fun _ => ?_)
                        refine b_iconst hx hb dX5_press_236 ?_
                        refine lv_goto (tgt := 241) hx hb dX5_press_237 (by decide) ?_
                        refine b_isub hx hb dX5_press_241 ?_
                        refine g_iast (n := 96) hx hb hG hS (f := fun i => z2 ((up X 22 0 (0)) 8 i)) (show ca D (bm + 7) (iA (ks 0) 96 (fun i => z2 ((up X 22 0 (0)) 8 i))) _ from hM.2.1 8 (sr_of (by decide))) (Or.inl ⟨by omega, by omega⟩) (12 * n + k) ⟨by omega, by omega, by decide⟩ dX5_press_242 (fun H locs he hz oq hS => ?_)
                        have hM : PM D ks bm (up (up X 22 0 (0)) 8 (12 * n + k) ((X 8 (12 * n + k)) - 0)) H := hM.row (f := 8) (sr_of (by decide)) he oq
                        refine lv_aload_n hx hb dX5_press_243 rfl (lv_at hl 5 rfl) ?_
                        refine lv_iload_n hx hb dX5_press_244 rfl (lv_at hl 4 rfl) ?_
                        refine g_run (vx_runV (As := [.int (z2 ((3 * ((n : Nat) : Int)) + ((b : Nat) : Int)))]) (rest := []) ⟨hx, hb, hml, hown, hts⟩ (m_begins l D ks bx bm hbm (up (up X 22 0 (0)) 8 (12 * n + k) ((X 8 (12 * n + k)) - 0)) _ hM (vs_up (vs_uf hV (by decide)) (by decide) (fun _ _ => by show 0 ≤ _ ∧ _ ≤ (1000 : Int); omega)) (i := 3 * n + b) ((3 * ((n : Nat) : Int)) + ((b : Nat) : Int)) ⟨by omega, by omega⟩ (by show 0 < X 5 (3 * n + b); omega)) (cwV 1 hts gX5_press_X5_begins rfl rfl rfl (by decide +kernel) ⟨Nat.le_of_ble_eq_true rfl, Nat.le_of_ble_eq_true rfl⟩) (g_preV (r := (RX5, TX5, 23)) hG hS (rm_ge hbm) hM.1 rfl) rfl rfl hl.1 rfl (lv_room (Nat.le_of_ble_eq_true rfl)) dX5_press_245 ⟨Nat.le_of_ble_eq_true rfl, Nat.le_of_ble_eq_true rfl⟩) hS (fun _ h => h) (fun _ _ _ _ _ h => h.elim) (fun v H1 locs hp hz9 hk9 hS => ?_)
                        obtain ⟨rfl, hM⟩ := hp
                        refine W.eq (g2 := F0 m 248 ls []) rfl ?_
                        refine b_iconst hx hb dX5_press_248 ?_
                        have e9 : pmS X (up X 22 0 0) n (3 * n + b) k = (beS (up (up X 22 0 (0)) 8 (12 * n + k) ((X 8 (12 * n + k)) - 0)) (3 * n + b)) := by
                          unfold pmS plM
                          (repeat' split) <;> first | rfl | omega
                        have e8 : (1 : Int) = pmV X n (3 * n + b) k := by
                          unfold pmV plM
                          (repeat' split) <;> omega
                        exact g_iret hx hb hr hlocks hS ⟨Nat.le_of_ble_eq_true rfl, Nat.le_of_ble_eq_true rfl⟩ (⟨1, (beS (up (up X 22 0 (0)) 8 (12 * n + k) ((X 8 (12 * n + k)) - 0)) (3 * n + b)), Or.inl (⟨n, b, k, by omega, e8, e9.symm⟩), rfl, hM⟩) dX5_press_249
                      · skip
                        refine lv_aload_n hx hb dX5_press_216 rfl (lv_at hl 5 rfl) ?_
                        refine lv_iload_n hx hb dX5_press_217 rfl (lv_at hl 6 rfl) ?_
                        refine g_run (vx_runV (As := [.int (z2 (((n : Nat) : Int)))]) (rest := []) ⟨hx, hb, hml, hown, hts⟩ (m_breaks l D ks bx bm hbm (up X 22 0 (0)) _ hM (vs_uf (hV) (by decide)) (n := n) (((n : Nat) : Int)) ⟨by omega, by omega⟩) (cwV 1 hts gX5_press_X5_breaks rfl rfl rfl (by decide +kernel) ⟨Nat.le_of_ble_eq_true rfl, Nat.le_of_ble_eq_true rfl⟩) (g_preV (r := (RX5, TX5, 23)) hG hS (rm_ge hbm) hM.1 rfl) rfl rfl hl.1 rfl (lv_room (Nat.le_of_ble_eq_true rfl)) dX5_press_218 ⟨Nat.le_of_ble_eq_true rfl, Nat.le_of_ble_eq_true rfl⟩) hS (fun _ h => h) (fun _ _ _ _ _ h => h.elim) (fun v H1 locs hp hz9 hk9 hS => ?_)
                        obtain ⟨rfl, hM⟩ := hp
                        have hV : VS (brM (up X 22 0 (0)) n) := vs_br (vs_uf (hV) (by decide)) n
                        refine W.eq (g2 := F0 m 221 ls []) rfl ?_
                        refine b_iconst hx hb dX5_press_221 ?_
                        have e9 : pmS X (up X 22 0 0) n (3 * n + b) k = (brM (up X 22 0 (0)) n) := by
                          unfold pmS plM
                          (repeat' split) <;> first | rfl | omega
                        have e8 : (3 : Int) = pmV X n (3 * n + b) k := by
                          unfold pmV plM
                          (repeat' split) <;> omega
                        exact g_iret hx hb hr hlocks hS ⟨Nat.le_of_ble_eq_true rfl, Nat.le_of_ble_eq_true rfl⟩ (⟨3, (brM (up X 22 0 (0)) n), Or.inl (⟨n, b, k, by omega, e8, e9.symm⟩), rfl, hM⟩) dX5_press_222
                    · skip
                      refine lv_aload_n hx hb dX5_press_185 rfl (lv_at hl 5 rfl) ?_
                      refine g_get (C := RX5) (T := TX5) (N := 23) hx hb hts inX5 hown hG hM.1 rfl 6 (by decide) (by decide +kernel) rfl (v := .ref (bm + 5)) rfl dX5_press_186 ?_
                      refine b_iconst hx hb dX5_press_189 ?_
                      refine lv_iload_n hx hb dX5_press_190 rfl (lv_at hl 6 rfl) ?_
                      refine b_imul hx hb dX5_press_191 ?_
                      refine lv_iload hx hb dX5_press_192 (lv_at hl 0 rfl) ?_
                      refine b_iadd hx hb dX5_press_194 ?_
                      have b_195 : 1 ≤ X 6 (3 * n + 2) ∧ X 6 (3 * n + 2) ≤ 9 := hV.1 6 _ (by decide) rfl
                      refine g_iald (n := 24) hx hb hG (f := fun i => z2 ((up X 22 0 (0)) 6 i)) (show ca D (bm + 5) (iA (ks 0) 24 (fun i => z2 ((up X 22 0 (0)) 6 i))) _ from hM.2.1 6 (sr_of (by decide))) (3 * n + 2) ⟨by omega, by omega, by decide⟩ dX5_press_195 ?_
                      refine W.eq (g2 := F0 m 196 ls (.int (z2 (X 6 (3 * n + 2))) :: [.int (z2 (((X 6 (3 * n + b)) + (X 6 (3 * n + 0))) + 0))])) rfl ?_
                      refine lv_goto (tgt := 200) hx hb dX5_press_196 (by decide) ?_
                      refine b_iadd hx hb dX5_press_200 ?_
                      refine lv_istore (lv' := [(6, .int (z2 ((((X 6 (3 * n + b)) + (X 6 (3 * n + 0))) + 0) + (X 6 (3 * n + 2))))), (7, .int (z2 (2))), (5, .int (z2 (1))), (4, .int (z2 (((12 * ((n : Nat) : Int)) + (X 5 (3 * n + b))) - 1))), (3, .int (z2 ((3 * ((n : Nat) : Int)) + ((b : Nat) : Int)))), (0, .ref bm), (1, .int (z2 (((n : Nat) : Int)))), (2, .int (z2 (((b : Nat) : Int))))]) hx hb dX5_press_201 hl (by decide) rfl (fun ls hl => ?_)
                      refine b_iinc (lv' := [(7, .int (z2 (3))), (6, .int (z2 ((((X 6 (3 * n + b)) + (X 6 (3 * n + 0))) + 0) + (X 6 (3 * n + 2))))), (5, .int (z2 (1))), (4, .int (z2 (((12 * ((n : Nat) : Int)) + (X 5 (3 * n + b))) - 1))), (3, .int (z2 ((3 * ((n : Nat) : Int)) + ((b : Nat) : Int)))), (0, .ref bm), (1, .int (z2 (((n : Nat) : Int)))), (2, .int (z2 (((b : Nat) : Int))))]) hx hb dX5_press_203 hl (k := 1) rfl (by decide) rfl (fun ls hl => ?_)
                      refine lv_goto (tgt := 163) hx hb dX5_press_206 (by decide) ?_
                      refine lv_iload hx hb dX5_press_163 (lv_at hl 0 rfl) ?_
                      refine b_iconst hx hb dX5_press_165 ?_
                      refine b_icmp_ge (tgt := 209) hx hb dX5_press_166 (by decide) ⟨⟨by omega, by omega⟩, ⟨by omega, by omega⟩⟩ (fun _ => ?_) (fun c => absurd c (by omega))
                      refine lv_iload hx hb dX5_press_209 (lv_at hl 1 rfl) ?_
                      refine b_bipush hx hb dX5_press_211 (by decide +kernel) ?_
                      refine b_icmp_le (tgt := 223) hx hb dX5_press_213 (by decide) ⟨⟨by omega, by omega⟩, ⟨by omega, by omega⟩⟩ (fun c_213 => ?_) (fun c_213 => ?_)
                      · skip
                        refine lv_aload_n hx hb dX5_press_223 rfl (lv_at hl 5 rfl) ?_
                        refine g_get (C := RX5) (T := TX5) (N := 23) hx hb hts inX5 hown hG hM.1 rfl 8 (by decide) (by decide +kernel) rfl (v := .ref (bm + 7)) rfl dX5_press_224 ?_
                        refine lv_iload hx hb dX5_press_227 (lv_at hl 3 rfl) ?_
                        refine lv_dup2_11 hx hb dX5_press_229 rfl rfl ?_
                        have b_230 : 0 ≤ X 8 (12 * n + k) ∧ X 8 (12 * n + k) ≤ 1000 := hV.1 8 _ (by decide) rfl
                        refine g_iald (n := 96) hx hb hG (f := fun i => z2 ((up X 22 0 (0)) 8 i)) (show ca D (bm + 7) (iA (ks 0) 96 (fun i => z2 ((up X 22 0 (0)) 8 i))) _ from hM.2.1 8 (sr_of (by decide))) (12 * n + k) ⟨by omega, by omega, by decide⟩ dX5_press_230 ?_
                        refine W.eq (g2 := F0 m 231 ls (.int (z2 (X 8 (12 * n + k))) :: [.int (z2 (((12 * ((n : Nat) : Int)) + (X 5 (3 * n + b))) - 1)), .ref (bm + 7)])) rfl ?_
                        refine lv_iload hx hb dX5_press_231 (lv_at hl 2 rfl) ?_
                        refine b_if_eq (tgt := 240) hx hb dX5_press_233 (by decide) ⟨by omega, by omega⟩ (fun c => absurd c (by omega)) (fun _ => ?_)
                        refine b_iconst hx hb dX5_press_236 ?_
                        refine lv_goto (tgt := 241) hx hb dX5_press_237 (by decide) ?_
                        refine b_isub hx hb dX5_press_241 ?_
                        refine g_iast (n := 96) hx hb hG hS (f := fun i => z2 ((up X 22 0 (0)) 8 i)) (show ca D (bm + 7) (iA (ks 0) 96 (fun i => z2 ((up X 22 0 (0)) 8 i))) _ from hM.2.1 8 (sr_of (by decide))) (Or.inl ⟨by omega, by omega⟩) (12 * n + k) ⟨by omega, by omega, by decide⟩ dX5_press_242 (fun H locs he hz oq hS => ?_)
                        have hM : PM D ks bm (up (up X 22 0 (0)) 8 (12 * n + k) ((X 8 (12 * n + k)) - 0)) H := hM.row (f := 8) (sr_of (by decide)) he oq
                        refine lv_aload_n hx hb dX5_press_243 rfl (lv_at hl 5 rfl) ?_
                        refine lv_iload_n hx hb dX5_press_244 rfl (lv_at hl 4 rfl) ?_
                        refine g_run (vx_runV (As := [.int (z2 ((3 * ((n : Nat) : Int)) + ((b : Nat) : Int)))]) (rest := []) ⟨hx, hb, hml, hown, hts⟩ (m_begins l D ks bx bm hbm (up (up X 22 0 (0)) 8 (12 * n + k) ((X 8 (12 * n + k)) - 0)) _ hM (vs_up (vs_uf hV (by decide)) (by decide) (fun _ _ => by show 0 ≤ _ ∧ _ ≤ (1000 : Int); omega)) (i := 3 * n + b) ((3 * ((n : Nat) : Int)) + ((b : Nat) : Int)) ⟨by omega, by omega⟩ (by show 0 < X 5 (3 * n + b); omega)) (cwV 1 hts gX5_press_X5_begins rfl rfl rfl (by decide +kernel) ⟨Nat.le_of_ble_eq_true rfl, Nat.le_of_ble_eq_true rfl⟩) (g_preV (r := (RX5, TX5, 23)) hG hS (rm_ge hbm) hM.1 rfl) rfl rfl hl.1 rfl (lv_room (Nat.le_of_ble_eq_true rfl)) dX5_press_245 ⟨Nat.le_of_ble_eq_true rfl, Nat.le_of_ble_eq_true rfl⟩) hS (fun _ h => h) (fun _ _ _ _ _ h => h.elim) (fun v H1 locs hp hz9 hk9 hS => ?_)
                        obtain ⟨rfl, hM⟩ := hp
                        refine W.eq (g2 := F0 m 248 ls []) rfl ?_
                        refine b_iconst hx hb dX5_press_248 ?_
                        have e9 : pmS X (up X 22 0 0) n (3 * n + b) k = (beS (up (up X 22 0 (0)) 8 (12 * n + k) ((X 8 (12 * n + k)) - 0)) (3 * n + b)) := by
                          unfold pmS plM
                          (repeat' split) <;> first | rfl | omega
                        have e8 : (1 : Int) = pmV X n (3 * n + b) k := by
                          unfold pmV plM
                          (repeat' split) <;> omega
                        exact g_iret hx hb hr hlocks hS ⟨Nat.le_of_ble_eq_true rfl, Nat.le_of_ble_eq_true rfl⟩ (⟨1, (beS (up (up X 22 0 (0)) 8 (12 * n + k) ((X 8 (12 * n + k)) - 0)) (3 * n + b)), Or.inl (⟨n, b, k, by omega, e8, e9.symm⟩), rfl, hM⟩) dX5_press_249
                      · skip
                        refine lv_aload_n hx hb dX5_press_216 rfl (lv_at hl 5 rfl) ?_
                        refine lv_iload_n hx hb dX5_press_217 rfl (lv_at hl 6 rfl) ?_
                        refine g_run (vx_runV (As := [.int (z2 (((n : Nat) : Int)))]) (rest := []) ⟨hx, hb, hml, hown, hts⟩ (m_breaks l D ks bx bm hbm (up X 22 0 (0)) _ hM (vs_uf (hV) (by decide)) (n := n) (((n : Nat) : Int)) ⟨by omega, by omega⟩) (cwV 1 hts gX5_press_X5_breaks rfl rfl rfl (by decide +kernel) ⟨Nat.le_of_ble_eq_true rfl, Nat.le_of_ble_eq_true rfl⟩) (g_preV (r := (RX5, TX5, 23)) hG hS (rm_ge hbm) hM.1 rfl) rfl rfl hl.1 rfl (lv_room (Nat.le_of_ble_eq_true rfl)) dX5_press_218 ⟨Nat.le_of_ble_eq_true rfl, Nat.le_of_ble_eq_true rfl⟩) hS (fun _ h => h) (fun _ _ _ _ _ h => h.elim) (fun v H1 locs hp hz9 hk9 hS => ?_)
                        obtain ⟨rfl, hM⟩ := hp
                        have hV : VS (brM (up X 22 0 (0)) n) := vs_br (vs_uf (hV) (by decide)) n
                        refine W.eq (g2 := F0 m 221 ls []) rfl ?_
                        refine b_iconst hx hb dX5_press_221 ?_
                        have e9 : pmS X (up X 22 0 0) n (3 * n + b) k = (brM (up X 22 0 (0)) n) := by
                          unfold pmS plM
                          (repeat' split) <;> first | rfl | omega
                        have e8 : (3 : Int) = pmV X n (3 * n + b) k := by
                          unfold pmV plM
                          (repeat' split) <;> omega
                        exact g_iret hx hb hr hlocks hS ⟨Nat.le_of_ble_eq_true rfl, Nat.le_of_ble_eq_true rfl⟩ (⟨3, (brM (up X 22 0 (0)) n), Or.inl (⟨n, b, k, by omega, e8, e9.symm⟩), rfl, hM⟩) dX5_press_222
                  · skip
                    refine lv_aload_n hx hb dX5_press_185 rfl (lv_at hl 5 rfl) ?_
                    refine g_get (C := RX5) (T := TX5) (N := 23) hx hb hts inX5 hown hG hM.1 rfl 6 (by decide) (by decide +kernel) rfl (v := .ref (bm + 5)) rfl dX5_press_186 ?_
                    refine b_iconst hx hb dX5_press_189 ?_
                    refine lv_iload_n hx hb dX5_press_190 rfl (lv_at hl 6 rfl) ?_
                    refine b_imul hx hb dX5_press_191 ?_
                    refine lv_iload hx hb dX5_press_192 (lv_at hl 0 rfl) ?_
                    refine b_iadd hx hb dX5_press_194 ?_
                    have b_195 : 1 ≤ X 6 (3 * n + 1) ∧ X 6 (3 * n + 1) ≤ 9 := hV.1 6 _ (by decide) rfl
                    refine g_iald (n := 24) hx hb hG (f := fun i => z2 ((up X 22 0 (0)) 6 i)) (show ca D (bm + 5) (iA (ks 0) 24 (fun i => z2 ((up X 22 0 (0)) 6 i))) _ from hM.2.1 6 (sr_of (by decide))) (3 * n + 1) ⟨by omega, by omega, by decide⟩ dX5_press_195 ?_
                    refine W.eq (g2 := F0 m 196 ls (.int (z2 (X 6 (3 * n + 1))) :: [.int (z2 ((X 6 (3 * n + b)) + (X 6 (3 * n + 0))))])) rfl ?_
                    refine lv_goto (tgt := 200) hx hb dX5_press_196 (by decide) ?_
                    refine b_iadd hx hb dX5_press_200 ?_
                    refine lv_istore (lv' := [(6, .int (z2 (((X 6 (3 * n + b)) + (X 6 (3 * n + 0))) + (X 6 (3 * n + 1))))), (7, .int (z2 (1))), (5, .int (z2 (1))), (4, .int (z2 (((12 * ((n : Nat) : Int)) + (X 5 (3 * n + b))) - 1))), (3, .int (z2 ((3 * ((n : Nat) : Int)) + ((b : Nat) : Int)))), (0, .ref bm), (1, .int (z2 (((n : Nat) : Int)))), (2, .int (z2 (((b : Nat) : Int))))]) hx hb dX5_press_201 hl (by decide) rfl (fun ls hl => ?_)
                    refine b_iinc (lv' := [(7, .int (z2 (2))), (6, .int (z2 (((X 6 (3 * n + b)) + (X 6 (3 * n + 0))) + (X 6 (3 * n + 1))))), (5, .int (z2 (1))), (4, .int (z2 (((12 * ((n : Nat) : Int)) + (X 5 (3 * n + b))) - 1))), (3, .int (z2 ((3 * ((n : Nat) : Int)) + ((b : Nat) : Int)))), (0, .ref bm), (1, .int (z2 (((n : Nat) : Int)))), (2, .int (z2 (((b : Nat) : Int))))]) hx hb dX5_press_203 hl (k := 1) rfl (by decide) rfl (fun ls hl => ?_)
                    refine lv_goto (tgt := 163) hx hb dX5_press_206 (by decide) ?_
                    refine lv_iload hx hb dX5_press_163 (lv_at hl 0 rfl) ?_
                    refine b_iconst hx hb dX5_press_165 ?_
                    refine b_icmp_ge (tgt := 209) hx hb dX5_press_166 (by decide) ⟨⟨by omega, by omega⟩, ⟨by omega, by omega⟩⟩ (fun c => absurd c (by omega)) (fun _ => ?_)
                    refine lv_iload hx hb dX5_press_169 (lv_at hl 1 rfl) ?_
                    refine lv_aload_n hx hb dX5_press_171 rfl (lv_at hl 5 rfl) ?_
                    refine g_get (C := RX5) (T := TX5) (N := 23) hx hb hts inX5 hown hG hM.1 rfl 7 (by decide) (by decide +kernel) rfl (v := .ref (bm + 6)) rfl dX5_press_172 ?_
                    refine b_iconst hx hb dX5_press_175 ?_
                    refine lv_iload_n hx hb dX5_press_176 rfl (lv_at hl 6 rfl) ?_
                    refine b_imul hx hb dX5_press_177 ?_
                    refine lv_iload hx hb dX5_press_178 (lv_at hl 0 rfl) ?_
                    refine b_iadd hx hb dX5_press_180 ?_
                    have b_181 : 0 ≤ X 7 (3 * n + 2) ∧ X 7 (3 * n + 2) ≤ 1000024 := hV.1 7 _ (by decide) rfl
                    refine g_iald (n := 24) hx hb hG (f := fun i => z2 ((up X 22 0 (0)) 7 i)) (show ca D (bm + 6) (iA (ks 0) 24 (fun i => z2 ((up X 22 0 (0)) 7 i))) _ from hM.2.1 7 (sr_of (by decide))) (3 * n + 2) ⟨by omega, by omega, by decide⟩ dX5_press_181 ?_
                    refine W.eq (g2 := F0 m 182 ls (.int (z2 (X 7 (3 * n + 2))) :: [.int (z2 (((X 6 (3 * n + b)) + (X 6 (3 * n + 0))) + (X 6 (3 * n + 1))))])) rfl ?_
                    refine b_if_le (tgt := 199) hx hb dX5_press_182 (by decide) ⟨by omega, by omega⟩ (fun c_182 => ?_) (fun c_182 => ?_)
                    · skip
                      refine b_iconst hx hb dX5_press_199 ?_
                      refine b_iadd hx hb dX5_press_200 ?_
                      refine lv_istore (lv' := [(6, .int (z2 ((((X 6 (3 * n + b)) + (X 6 (3 * n + 0))) + (X 6 (3 * n + 1))) + 0))), (7, .int (z2 (2))), (5, .int (z2 (1))), (4, .int (z2 (((12 * ((n : Nat) : Int)) + (X 5 (3 * n + b))) - 1))), (3, .int (z2 ((3 * ((n : Nat) : Int)) + ((b : Nat) : Int)))), (0, .ref bm), (1, .int (z2 (((n : Nat) : Int)))), (2, .int (z2 (((b : Nat) : Int))))]) hx hb dX5_press_201 hl (by decide) rfl (fun ls hl => ?_)
                      refine b_iinc (lv' := [(7, .int (z2 (3))), (6, .int (z2 ((((X 6 (3 * n + b)) + (X 6 (3 * n + 0))) + (X 6 (3 * n + 1))) + 0))), (5, .int (z2 (1))), (4, .int (z2 (((12 * ((n : Nat) : Int)) + (X 5 (3 * n + b))) - 1))), (3, .int (z2 ((3 * ((n : Nat) : Int)) + ((b : Nat) : Int)))), (0, .ref bm), (1, .int (z2 (((n : Nat) : Int)))), (2, .int (z2 (((b : Nat) : Int))))]) hx hb dX5_press_203 hl (k := 1) rfl (by decide) rfl (fun ls hl => ?_)
                      refine lv_goto (tgt := 163) hx hb dX5_press_206 (by decide) ?_
                      refine lv_iload hx hb dX5_press_163 (lv_at hl 0 rfl) ?_
                      refine b_iconst hx hb dX5_press_165 ?_
                      refine b_icmp_ge (tgt := 209) hx hb dX5_press_166 (by decide) ⟨⟨by omega, by omega⟩, ⟨by omega, by omega⟩⟩ (fun _ => ?_) (fun c => absurd c (by omega))
                      refine lv_iload hx hb dX5_press_209 (lv_at hl 1 rfl) ?_
                      refine b_bipush hx hb dX5_press_211 (by decide +kernel) ?_
                      refine b_icmp_le (tgt := 223) hx hb dX5_press_213 (by decide) ⟨⟨by omega, by omega⟩, ⟨by omega, by omega⟩⟩ (fun c_213 => ?_) (fun c_213 => ?_)
                      · skip
                        refine lv_aload_n hx hb dX5_press_223 rfl (lv_at hl 5 rfl) ?_
                        refine g_get (C := RX5) (T := TX5) (N := 23) hx hb hts inX5 hown hG hM.1 rfl 8 (by decide) (by decide +kernel) rfl (v := .ref (bm + 7)) rfl dX5_press_224 ?_
                        refine lv_iload hx hb dX5_press_227 (lv_at hl 3 rfl) ?_
                        refine lv_dup2_11 hx hb dX5_press_229 rfl rfl ?_
                        have b_230 : 0 ≤ X 8 (12 * n + k) ∧ X 8 (12 * n + k) ≤ 1000 := hV.1 8 _ (by decide) rfl
                        refine g_iald (n := 96) hx hb hG (f := fun i => z2 ((up X 22 0 (0)) 8 i)) (show ca D (bm + 7) (iA (ks 0) 96 (fun i => z2 ((up X 22 0 (0)) 8 i))) _ from hM.2.1 8 (sr_of (by decide))) (12 * n + k) ⟨by omega, by omega, by decide⟩ dX5_press_230 ?_
                        refine W.eq (g2 := F0 m 231 ls (.int (z2 (X 8 (12 * n + k))) :: [.int (z2 (((12 * ((n : Nat) : Int)) + (X 5 (3 * n + b))) - 1)), .ref (bm + 7)])) rfl ?_
                        refine lv_iload hx hb dX5_press_231 (lv_at hl 2 rfl) ?_
                        refine b_if_eq (tgt := 240) hx hb dX5_press_233 (by decide) ⟨by omega, by omega⟩ (fun c => absurd c (by omega)) (fun _ => ?_)
                        refine b_iconst hx hb dX5_press_236 ?_
                        refine lv_goto (tgt := 241) hx hb dX5_press_237 (by decide) ?_
                        refine b_isub hx hb dX5_press_241 ?_
                        refine g_iast (n := 96) hx hb hG hS (f := fun i => z2 ((up X 22 0 (0)) 8 i)) (show ca D (bm + 7) (iA (ks 0) 96 (fun i => z2 ((up X 22 0 (0)) 8 i))) _ from hM.2.1 8 (sr_of (by decide))) (Or.inl ⟨by omega, by omega⟩) (12 * n + k) ⟨by omega, by omega, by decide⟩ dX5_press_242 (fun H locs he hz oq hS => ?_)
                        have hM : PM D ks bm (up (up X 22 0 (0)) 8 (12 * n + k) ((X 8 (12 * n + k)) - 0)) H := hM.row (f := 8) (sr_of (by decide)) he oq
                        refine lv_aload_n hx hb dX5_press_243 rfl (lv_at hl 5 rfl) ?_
                        refine lv_iload_n hx hb dX5_press_244 rfl (lv_at hl 4 rfl) ?_
                        refine g_run (vx_runV (As := [.int (z2 ((3 * ((n : Nat) : Int)) + ((b : Nat) : Int)))]) (rest := []) ⟨hx, hb, hml, hown, hts⟩ (m_begins l D ks bx bm hbm (up (up X 22 0 (0)) 8 (12 * n + k) ((X 8 (12 * n + k)) - 0)) _ hM (vs_up (vs_uf hV (by decide)) (by decide) (fun _ _ => by show 0 ≤ _ ∧ _ ≤ (1000 : Int); omega)) (i := 3 * n + b) ((3 * ((n : Nat) : Int)) + ((b : Nat) : Int)) ⟨by omega, by omega⟩ (by show 0 < X 5 (3 * n + b); omega)) (cwV 1 hts gX5_press_X5_begins rfl rfl rfl (by decide +kernel) ⟨Nat.le_of_ble_eq_true rfl, Nat.le_of_ble_eq_true rfl⟩) (g_preV (r := (RX5, TX5, 23)) hG hS (rm_ge hbm) hM.1 rfl) rfl rfl hl.1 rfl (lv_room (Nat.le_of_ble_eq_true rfl)) dX5_press_245 ⟨Nat.le_of_ble_eq_true rfl, Nat.le_of_ble_eq_true rfl⟩) hS (fun _ h => h) (fun _ _ _ _ _ h => h.elim) (fun v H1 locs hp hz9 hk9 hS => ?_)
                        obtain ⟨rfl, hM⟩ := hp
                        refine W.eq (g2 := F0 m 248 ls []) rfl ?_
                        refine b_iconst hx hb dX5_press_248 ?_
                        have e9 : pmS X (up X 22 0 0) n (3 * n + b) k = (beS (up (up X 22 0 (0)) 8 (12 * n + k) ((X 8 (12 * n + k)) - 0)) (3 * n + b)) := by
                          unfold pmS plM
                          (repeat' split) <;> first | rfl | omega
                        have e8 : (1 : Int) = pmV X n (3 * n + b) k := by
                          unfold pmV plM
                          (repeat' split) <;> omega
                        exact g_iret hx hb hr hlocks hS ⟨Nat.le_of_ble_eq_true rfl, Nat.le_of_ble_eq_true rfl⟩ (⟨1, (beS (up (up X 22 0 (0)) 8 (12 * n + k) ((X 8 (12 * n + k)) - 0)) (3 * n + b)), Or.inl (⟨n, b, k, by omega, e8, e9.symm⟩), rfl, hM⟩) dX5_press_249
                      · skip
                        refine lv_aload_n hx hb dX5_press_216 rfl (lv_at hl 5 rfl) ?_
                        refine lv_iload_n hx hb dX5_press_217 rfl (lv_at hl 6 rfl) ?_
                        refine g_run (vx_runV (As := [.int (z2 (((n : Nat) : Int)))]) (rest := []) ⟨hx, hb, hml, hown, hts⟩ (m_breaks l D ks bx bm hbm (up X 22 0 (0)) _ hM (vs_uf (hV) (by decide)) (n := n) (((n : Nat) : Int)) ⟨by omega, by omega⟩) (cwV 1 hts gX5_press_X5_breaks rfl rfl rfl (by decide +kernel) ⟨Nat.le_of_ble_eq_true rfl, Nat.le_of_ble_eq_true rfl⟩) (g_preV (r := (RX5, TX5, 23)) hG hS (rm_ge hbm) hM.1 rfl) rfl rfl hl.1 rfl (lv_room (Nat.le_of_ble_eq_true rfl)) dX5_press_218 ⟨Nat.le_of_ble_eq_true rfl, Nat.le_of_ble_eq_true rfl⟩) hS (fun _ h => h) (fun _ _ _ _ _ h => h.elim) (fun v H1 locs hp hz9 hk9 hS => ?_)
                        obtain ⟨rfl, hM⟩ := hp
                        have hV : VS (brM (up X 22 0 (0)) n) := vs_br (vs_uf (hV) (by decide)) n
                        refine W.eq (g2 := F0 m 221 ls []) rfl ?_
                        refine b_iconst hx hb dX5_press_221 ?_
                        have e9 : pmS X (up X 22 0 0) n (3 * n + b) k = (brM (up X 22 0 (0)) n) := by
                          unfold pmS plM
                          (repeat' split) <;> first | rfl | omega
                        have e8 : (3 : Int) = pmV X n (3 * n + b) k := by
                          unfold pmV plM
                          (repeat' split) <;> omega
                        exact g_iret hx hb hr hlocks hS ⟨Nat.le_of_ble_eq_true rfl, Nat.le_of_ble_eq_true rfl⟩ (⟨3, (brM (up X 22 0 (0)) n), Or.inl (⟨n, b, k, by omega, e8, e9.symm⟩), rfl, hM⟩) dX5_press_222
                    · skip
                      refine lv_aload_n hx hb dX5_press_185 rfl (lv_at hl 5 rfl) ?_
                      refine g_get (C := RX5) (T := TX5) (N := 23) hx hb hts inX5 hown hG hM.1 rfl 6 (by decide) (by decide +kernel) rfl (v := .ref (bm + 5)) rfl dX5_press_186 ?_
                      refine b_iconst hx hb dX5_press_189 ?_
                      refine lv_iload_n hx hb dX5_press_190 rfl (lv_at hl 6 rfl) ?_
                      refine b_imul hx hb dX5_press_191 ?_
                      refine lv_iload hx hb dX5_press_192 (lv_at hl 0 rfl) ?_
                      refine b_iadd hx hb dX5_press_194 ?_
                      have b_195 : 1 ≤ X 6 (3 * n + 2) ∧ X 6 (3 * n + 2) ≤ 9 := hV.1 6 _ (by decide) rfl
                      refine g_iald (n := 24) hx hb hG (f := fun i => z2 ((up X 22 0 (0)) 6 i)) (show ca D (bm + 5) (iA (ks 0) 24 (fun i => z2 ((up X 22 0 (0)) 6 i))) _ from hM.2.1 6 (sr_of (by decide))) (3 * n + 2) ⟨by omega, by omega, by decide⟩ dX5_press_195 ?_
                      refine W.eq (g2 := F0 m 196 ls (.int (z2 (X 6 (3 * n + 2))) :: [.int (z2 (((X 6 (3 * n + b)) + (X 6 (3 * n + 0))) + (X 6 (3 * n + 1))))])) rfl ?_
                      refine lv_goto (tgt := 200) hx hb dX5_press_196 (by decide) ?_
                      refine b_iadd hx hb dX5_press_200 ?_
                      refine lv_istore (lv' := [(6, .int (z2 ((((X 6 (3 * n + b)) + (X 6 (3 * n + 0))) + (X 6 (3 * n + 1))) + (X 6 (3 * n + 2))))), (7, .int (z2 (2))), (5, .int (z2 (1))), (4, .int (z2 (((12 * ((n : Nat) : Int)) + (X 5 (3 * n + b))) - 1))), (3, .int (z2 ((3 * ((n : Nat) : Int)) + ((b : Nat) : Int)))), (0, .ref bm), (1, .int (z2 (((n : Nat) : Int)))), (2, .int (z2 (((b : Nat) : Int))))]) hx hb dX5_press_201 hl (by decide) rfl (fun ls hl => ?_)
                      refine b_iinc (lv' := [(7, .int (z2 (3))), (6, .int (z2 ((((X 6 (3 * n + b)) + (X 6 (3 * n + 0))) + (X 6 (3 * n + 1))) + (X 6 (3 * n + 2))))), (5, .int (z2 (1))), (4, .int (z2 (((12 * ((n : Nat) : Int)) + (X 5 (3 * n + b))) - 1))), (3, .int (z2 ((3 * ((n : Nat) : Int)) + ((b : Nat) : Int)))), (0, .ref bm), (1, .int (z2 (((n : Nat) : Int)))), (2, .int (z2 (((b : Nat) : Int))))]) hx hb dX5_press_203 hl (k := 1) rfl (by decide) rfl (fun ls hl => ?_)
                      refine lv_goto (tgt := 163) hx hb dX5_press_206 (by decide) ?_
                      refine lv_iload hx hb dX5_press_163 (lv_at hl 0 rfl) ?_
                      refine b_iconst hx hb dX5_press_165 ?_
                      refine b_icmp_ge (tgt := 209) hx hb dX5_press_166 (by decide) ⟨⟨by omega, by omega⟩, ⟨by omega, by omega⟩⟩ (fun _ => ?_) (fun c => absurd c (by omega))
                      refine lv_iload hx hb dX5_press_209 (lv_at hl 1 rfl) ?_
                      refine b_bipush hx hb dX5_press_211 (by decide +kernel) ?_
                      refine b_icmp_le (tgt := 223) hx hb dX5_press_213 (by decide) ⟨⟨by omega, by omega⟩, ⟨by omega, by omega⟩⟩ (fun c_213 => ?_) (fun c_213 => ?_)
                      · skip
                        refine lv_aload_n hx hb dX5_press_223 rfl (lv_at hl 5 rfl) ?_
                        refine g_get (C := RX5) (T := TX5) (N := 23) hx hb hts inX5 hown hG hM.1 rfl 8 (by decide) (by decide +kernel) rfl (v := .ref (bm + 7)) rfl dX5_press_224 ?_
                        refine lv_iload hx hb dX5_press_227 (lv_at hl 3 rfl) ?_
                        refine lv_dup2_11 hx hb dX5_press_229 rfl rfl ?_
                        have b_230 : 0 ≤ X 8 (12 * n + k) ∧ X 8 (12 * n + k) ≤ 1000 := hV.1 8 _ (by decide) rfl
                        refine g_iald (n := 96) hx hb hG (f := fun i => z2 ((up X 22 0 (0)) 8 i)) (show ca D (bm + 7) (iA (ks 0) 96 (fun i => z2 ((up X 22 0 (0)) 8 i))) _ from hM.2.1 8 (sr_of (by decide))) (12 * n + k) ⟨by omega, by omega, by decide⟩ dX5_press_230 ?_
                        refine W.eq (g2 := F0 m 231 ls (.int (z2 (X 8 (12 * n + k))) :: [.int (z2 (((12 * ((n : Nat) : Int)) + (X 5 (3 * n + b))) - 1)), .ref (bm + 7)])) rfl ?_
                        refine lv_iload hx hb dX5_press_231 (lv_at hl 2 rfl) ?_
                        refine b_if_eq (tgt := 240) hx hb dX5_press_233 (by decide) ⟨by omega, by omega⟩ (fun c => absurd c (by omega)) (fun _ => ?_)
                        refine b_iconst hx hb dX5_press_236 ?_
                        refine lv_goto (tgt := 241) hx hb dX5_press_237 (by decide) ?_
                        refine b_isub hx hb dX5_press_241 ?_
                        refine g_iast (n := 96) hx hb hG hS (f := fun i => z2 ((up X 22 0 (0)) 8 i)) (show ca D (bm + 7) (iA (ks 0) 96 (fun i => z2 ((up X 22 0 (0)) 8 i))) _ from hM.2.1 8 (sr_of (by decide))) (Or.inl ⟨by omega, by omega⟩) (12 * n + k) ⟨by omega, by omega, by decide⟩ dX5_press_242 (fun H locs he hz oq hS => ?_)
                        have hM : PM D ks bm (up (up X 22 0 (0)) 8 (12 * n + k) ((X 8 (12 * n + k)) - 0)) H := hM.row (f := 8) (sr_of (by decide)) he oq
                        refine lv_aload_n hx hb dX5_press_243 rfl (lv_at hl 5 rfl) ?_
                        refine lv_iload_n hx hb dX5_press_244 rfl (lv_at hl 4 rfl) ?_
                        refine g_run (vx_runV (As := [.int (z2 ((3 * ((n : Nat) : Int)) + ((b : Nat) : Int)))]) (rest := []) ⟨hx, hb, hml, hown, hts⟩ (m_begins l D ks bx bm hbm (up (up X 22 0 (0)) 8 (12 * n + k) ((X 8 (12 * n + k)) - 0)) _ hM (vs_up (vs_uf hV (by decide)) (by decide) (fun _ _ => by show 0 ≤ _ ∧ _ ≤ (1000 : Int); omega)) (i := 3 * n + b) ((3 * ((n : Nat) : Int)) + ((b : Nat) : Int)) ⟨by omega, by omega⟩ (by show 0 < X 5 (3 * n + b); omega)) (cwV 1 hts gX5_press_X5_begins rfl rfl rfl (by decide +kernel) ⟨Nat.le_of_ble_eq_true rfl, Nat.le_of_ble_eq_true rfl⟩) (g_preV (r := (RX5, TX5, 23)) hG hS (rm_ge hbm) hM.1 rfl) rfl rfl hl.1 rfl (lv_room (Nat.le_of_ble_eq_true rfl)) dX5_press_245 ⟨Nat.le_of_ble_eq_true rfl, Nat.le_of_ble_eq_true rfl⟩) hS (fun _ h => h) (fun _ _ _ _ _ h => h.elim) (fun v H1 locs hp hz9 hk9 hS => ?_)
                        obtain ⟨rfl, hM⟩ := hp
                        refine W.eq (g2 := F0 m 248 ls []) rfl ?_
                        refine b_iconst hx hb dX5_press_248 ?_
                        have e9 : pmS X (up X 22 0 0) n (3 * n + b) k = (beS (up (up X 22 0 (0)) 8 (12 * n + k) ((X 8 (12 * n + k)) - 0)) (3 * n + b)) := by
                          unfold pmS plM
                          (repeat' split) <;> first | rfl | omega
                        have e8 : (1 : Int) = pmV X n (3 * n + b) k := by
                          unfold pmV plM
                          (repeat' split) <;> omega
                        exact g_iret hx hb hr hlocks hS ⟨Nat.le_of_ble_eq_true rfl, Nat.le_of_ble_eq_true rfl⟩ (⟨1, (beS (up (up X 22 0 (0)) 8 (12 * n + k) ((X 8 (12 * n + k)) - 0)) (3 * n + b)), Or.inl (⟨n, b, k, by omega, e8, e9.symm⟩), rfl, hM⟩) dX5_press_249
                      · skip
                        refine lv_aload_n hx hb dX5_press_216 rfl (lv_at hl 5 rfl) ?_
                        refine lv_iload_n hx hb dX5_press_217 rfl (lv_at hl 6 rfl) ?_
                        refine g_run (vx_runV (As := [.int (z2 (((n : Nat) : Int)))]) (rest := []) ⟨hx, hb, hml, hown, hts⟩ (m_breaks l D ks bx bm hbm (up X 22 0 (0)) _ hM (vs_uf (hV) (by decide)) (n := n) (((n : Nat) : Int)) ⟨by omega, by omega⟩) (cwV 1 hts gX5_press_X5_breaks rfl rfl rfl (by decide +kernel) ⟨Nat.le_of_ble_eq_true rfl, Nat.le_of_ble_eq_true rfl⟩) (g_preV (r := (RX5, TX5, 23)) hG hS (rm_ge hbm) hM.1 rfl) rfl rfl hl.1 rfl (lv_room (Nat.le_of_ble_eq_true rfl)) dX5_press_218 ⟨Nat.le_of_ble_eq_true rfl, Nat.le_of_ble_eq_true rfl⟩) hS (fun _ h => h) (fun _ _ _ _ _ h => h.elim) (fun v H1 locs hp hz9 hk9 hS => ?_)
                        obtain ⟨rfl, hM⟩ := hp
                        have hV : VS (brM (up X 22 0 (0)) n) := vs_br (vs_uf (hV) (by decide)) n
                        refine W.eq (g2 := F0 m 221 ls []) rfl ?_
                        refine b_iconst hx hb dX5_press_221 ?_
                        have e9 : pmS X (up X 22 0 0) n (3 * n + b) k = (brM (up X 22 0 (0)) n) := by
                          unfold pmS plM
                          (repeat' split) <;> first | rfl | omega
                        have e8 : (3 : Int) = pmV X n (3 * n + b) k := by
                          unfold pmV plM
                          (repeat' split) <;> omega
                        exact g_iret hx hb hr hlocks hS ⟨Nat.le_of_ble_eq_true rfl, Nat.le_of_ble_eq_true rfl⟩ (⟨3, (brM (up X 22 0 (0)) n), Or.inl (⟨n, b, k, by omega, e8, e9.symm⟩), rfl, hM⟩) dX5_press_222
            · skip
              refine lv_aload_n hx hb dX5_press_84 rfl (lv_at hl 1 rfl) ?_
              refine g_get (C := RX5) (T := TX5) (N := 23) hx hb hts inX5 hown hG hM.1 rfl 15 (by decide) (by decide +kernel) rfl (v := .ref (bm + 14)) rfl dX5_press_85 ?_
              refine lv_iload_n hx hb dX5_press_88 rfl (lv_at hl 2 rfl) ?_
              refine lv_dup2_11 hx hb dX5_press_89 rfl rfl ?_
              refine g_iald (n := 8) hx hb hG (f := fun i => z2 ((up X 22 0 (0)) 15 i)) (show ca D (bm + 14) (iA (ks 0) 8 (fun i => z2 ((up X 22 0 (0)) 15 i))) _ from hM.2.1 15 (sr_of (by decide))) n ⟨by omega, by omega, by decide⟩ dX5_press_90 ?_
              refine W.eq (g2 := F0 m 91 ls (.int (z2 (X 15 n)) :: [.int (z2 (((n : Nat) : Int))), .ref (bm + 14)])) rfl ?_
              refine b_iconst hx hb dX5_press_91 ?_
              refine b_iadd hx hb dX5_press_92 ?_
              refine g_iast (n := 8) hx hb hG hS (f := fun i => z2 ((up X 22 0 (0)) 15 i)) (show ca D (bm + 14) (iA (ks 0) 8 (fun i => z2 ((up X 22 0 (0)) 15 i))) _ from hM.2.1 15 (sr_of (by decide))) (Or.inl ⟨by omega, by omega⟩) n ⟨by omega, by omega, by decide⟩ dX5_press_93 (fun H locs he hz oq hS => ?_)
              have hM : PM D ks bm (up (up X 22 0 (0)) 15 n ((X 15 n) + 1)) H := hM.row (f := 15) (sr_of (by decide)) he oq
              refine b_iconst hx hb dX5_press_94 ?_
              have e9 : pmS X (up X 22 0 0) n (3 * n + b) k = up (up X 22 0 (0)) 15 n ((X 15 n) + 1) := by
                unfold pmS plM
                (repeat' split) <;> first | rfl | omega
              have e8 : (2 : Int) = pmV X n (3 * n + b) k := by
                unfold pmV plM
                (repeat' split) <;> omega
              exact g_iret hx hb hr hlocks hS ⟨Nat.le_of_ble_eq_true rfl, Nat.le_of_ble_eq_true rfl⟩ (⟨2, up (up X 22 0 (0)) 15 n ((X 15 n) + 1), Or.inl (⟨n, b, k, by omega, e8, e9.symm⟩), rfl, hM⟩) dX5_press_95
          · skip
            refine b_iconst hx hb dX5_press_74 ?_
            have e9 : pmS X (up X 22 0 0) n (3 * n + b) k = up X 22 0 (0) := by
              unfold pmS plM
              (repeat' split) <;> first | rfl | omega
            have e8 : (0 : Int) = pmV X n (3 * n + b) k := by
              unfold pmV plM
              (repeat' split) <;> omega
            exact g_iret hx hb hr hlocks hS ⟨Nat.le_of_ble_eq_true rfl, Nat.le_of_ble_eq_true rfl⟩ (⟨0, up X 22 0 (0), Or.inl (⟨n, b, k, by omega, e8, e9.symm⟩), rfl, hM⟩) dX5_press_75
      · skip
        refine lv_aload_n hx hb dX5_press_49 rfl (lv_at hl 1 rfl) ?_
        refine b_iconst hx hb dX5_press_50 ?_
        refine g_run (vx_runV (As := [.int (z2 (2))]) (rest := []) ⟨hx, hb, hml, hown, hts⟩ (m_fails l D ks bx bm hbm (up X 22 0 (0)) _ hM (vs_uf (hV) (by decide)) (2)) (cwV 1 hts gX5_press_X5_fails rfl rfl rfl (by decide +kernel) ⟨Nat.le_of_ble_eq_true rfl, Nat.le_of_ble_eq_true rfl⟩) (g_preV (r := (RX5, TX5, 23)) hG hS (rm_ge hbm) hM.1 rfl) rfl rfl hl.1 rfl (lv_room (Nat.le_of_ble_eq_true rfl)) dX5_press_51 ⟨Nat.le_of_ble_eq_true rfl, Nat.le_of_ble_eq_true rfl⟩) hS (fun _ h => h) (fun _ _ _ _ _ h => h.elim) (fun v H1 locs hp hz9 hk9 hS => ?_)
        obtain ⟨rfl, hM⟩ := hp
        refine W.eq (g2 := F0 m 54 ls [.int (z2 (0))]) rfl ?_
        exact g_iret hx hb hr hlocks hS ⟨Nat.le_of_ble_eq_true rfl, Nat.le_of_ble_eq_true rfl⟩ (⟨0, (up (up X 22 0 (0)) 22 0 (2)), Or.inr (Or.inr (⟨⟨n, b, by omega⟩, rfl⟩)), rfl, hM⟩) dX5_press_54
    · skip
      refine b_iconst hx hb dX5_press_17 ?_
      refine lv_goto (tgt := 22) hx hb dX5_press_18 (by decide) ?_
      refine g_put (C := RX5) (T := TX5) (N := 23) hx hb hts inX5 tyX5 tyX5_ok nmX5 hown hG hS hM.1 (Or.inl ⟨by omega, by omega⟩) rfl 22 (by decide) (by decide +kernel) rfl rfl (v := .int (z2 (1))) rfl rfl (Nat.le_of_ble_eq_true rfl) dX5_press_22 (fun H locs he hz oq hS => ?_)
      have hM : PM D ks bm (up X 22 0 (1)) H := hM.own (k := 22) (by decide) he oq
      refine lv_aload_n hx hb dX5_press_25 rfl (lv_at hl 0 rfl) ?_
      refine g_get (C := RX5) (T := TX5) (N := 23) hx hb hts inX5 hown hG hM.1 rfl 22 (by decide) (by decide +kernel) rfl (v := .int (z2 (1))) (congrArg (fun z => some (Value.int (z2 z))) (by simp [up] : (up X 22 0 (1)) 22 0 = 1)) dX5_press_26 ?_
      refine b_if_le (tgt := 34) hx hb dX5_press_29 (by decide) ⟨by omega, by omega⟩ (fun c => absurd c (by omega)) (fun _ => ?_)
      refine b_iconst hx hb dX5_press_32 ?_
      exact g_iret hx hb hr hlocks hS ⟨Nat.le_of_ble_eq_true rfl, Nat.le_of_ble_eq_true rfl⟩ (⟨0, up X 22 0 (1), Or.inr (Or.inl (⟨by omega, rfl⟩)), rfl, hM⟩) dX5_press_33
