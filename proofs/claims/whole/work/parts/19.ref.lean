/-! the reference, on -/
set_option maxHeartbeats 4000000 in
set_option maxRecDepth 100000 in
theorem m_fault (l : Launch) (D : va_G) (ks : Nat → ClassId) (bx : Nat) (bm : Nat) (hbm : bx ≤ bm) (X : Nat → Nat → Int) (H : Heap) (hM : PM D ks bm X H) (hV : VS X) (u : Int) (hu : -2147483648 ≤ u ∧ u < 2147483648) : KM l yX5_fault wsX5_fault ({ frames := 2, cells := 0, slots := 0, locals := 42 } : Room) D ks bx [.ref bm, .int (z2 u)] H (RM bm) (fun v H1 => ∃ (r : Int) (Y : Nat → Nat → Int), ro_fault X u r Y ∧ v = some (.int (z2 r)) ∧ PM D ks bm Y H1) (fun _ _ => False) := by
  refine KM.of (cc := cX5_fault) (maxL := 4) (ret := (some .int)) (by decide) rfl (Nat.le_of_ble_eq_true rfl) ?_
  intro p e s m below meth c hx hb hml hr hlocks hown hname hts hext hH0 hG ls hl
  subst hH0
  have hown : s.vm.findClass RX5 = some m.cls := hown
  have hS : va_S (AR (RM bm) s.heap.size) s.heap s.heap [] := va_S.rf
  have hl : lv_has ls 4 [(0, .ref bm), (1, .int (z2 (u)))] := hl
  have inX5 : ∀ w ∈ wsX50, w ∈ wsX5_fault := by decide +kernel
  have hV0 := hV
  refine lv_aload_n hx hb dX5_fault_0 rfl (lv_at hl 0 rfl) ?_
  refine lv_iload_n hx hb dX5_fault_1 rfl (lv_at hl 1 rfl) ?_
  refine g_run (vx_runS (As := [.int (z2 (u))]) (rest := [.ref bm]) ⟨hx, hb, hml, hown, hts⟩ (m_isHouse l D ks bx bm hbm _ (u) ⟨by omega, by omega⟩) (cwS 1 hts gX5_fault_X5_isHouse rfl rfl rfl (by decide +kernel) ⟨Nat.le_of_ble_eq_true rfl, Nat.le_of_ble_eq_true rfl⟩) (g_preS hG hS (rm_ge hbm)) rfl rfl hl.1 rfl (lv_room (Nat.le_of_ble_eq_true rfl)) dX5_fault_2 ⟨Nat.le_of_ble_eq_true rfl, Nat.le_of_ble_eq_true rfl⟩) hS (fun _ h => h) (fun _ _ _ _ _ h => h.elim) (fun v H1 locs hp hz9 hk9 hS => ?_)
  obtain ⟨rfl, hH9⟩ := hp
  obtain rfl := hH9.symm
  obtain ⟨iv_2, ev_2, ib_2⟩ : ∃ z : Int, z = (if 0 ≤ u ∧ u ≤ 7 then 1 else 0) ∧ (((0 ≤ u ∧ u ≤ 7) ∧ z = 1) ∨ (¬ (0 ≤ u ∧ u ≤ 7) ∧ z = 0)) := ⟨_, rfl, by split <;> omega⟩
  rw [← ev_2]
  refine W.eq (g2 := F0 m 5 ls [.int (z2 (iv_2)), .ref bm]) rfl ?_
  refine b_if_ne (tgt := 12) hx hb dX5_fault_5 (by decide) ⟨by omega, by omega⟩ (fun c_5 => ?_) (fun c_5 => ?_)
  · skip
    obtain ⟨n, rfl⟩ : ∃ n : Nat, u = n := ⟨(u).toNat, by omega⟩
    refine lv_aload_n hx hb dX5_fault_12 rfl (lv_at hl 0 rfl) ?_
    refine g_get (C := RX5) (T := TX5) (N := 23) hx hb hts inX5 hown hG hM.1 rfl 11 (by decide) (by decide +kernel) rfl (v := .ref (bm + 10)) rfl dX5_fault_13 ?_
    refine lv_iload_n hx hb dX5_fault_16 rfl (lv_at hl 1 rfl) ?_
    have b_17 : 0 ≤ X 11 n ∧ X 11 n ≤ 1 := hV.1 11 _ (by decide) rfl
    refine g_iald (n := 8) hx hb hG (f := fun i => z2 (X 11 i)) (show ca D (bm + 10) (iA (ks 0) 8 (fun i => z2 (X 11 i))) _ from hM.2.1 11 (sr_of (by decide))) n ⟨by omega, by omega, by decide⟩ dX5_fault_17 ?_
    refine W.eq (g2 := F0 m 18 ls (.int (z2 (X 11 n)) :: [.ref bm])) rfl ?_
    refine b_iconst hx hb dX5_fault_18 ?_
    refine b_icmp_eq (tgt := 31) hx hb dX5_fault_19 (by decide) ⟨⟨by omega, by omega⟩, ⟨by omega, by omega⟩⟩ (fun c_19 => ?_) (fun c_19 => ?_)
    · skip
      refine b_iconst hx hb dX5_fault_31 ?_
      refine lv_goto (tgt := 36) hx hb dX5_fault_32 (by decide) ?_
      refine g_put (C := RX5) (T := TX5) (N := 23) hx hb hts inX5 tyX5 tyX5_ok nmX5 hown hG hS hM.1 (Or.inl ⟨by omega, by omega⟩) rfl 22 (by decide) (by decide +kernel) rfl rfl (v := .int (z2 (2))) rfl rfl (Nat.le_of_ble_eq_true rfl) dX5_fault_36 (fun H locs he hz oq hS => ?_)
      have hM : PM D ks bm (up X 22 0 (2)) H := hM.own (k := 22) (by decide) he oq
      refine lv_aload_n hx hb dX5_fault_39 rfl (lv_at hl 0 rfl) ?_
      refine g_get (C := RX5) (T := TX5) (N := 23) hx hb hts inX5 hown hG hM.1 rfl 22 (by decide) (by decide +kernel) rfl (v := .int (z2 (2))) (congrArg (fun z => some (Value.int (z2 z))) (by simp [up] : (up X 22 0 (2)) 22 0 = 2)) dX5_fault_40 ?_
      refine b_if_le (tgt := 48) hx hb dX5_fault_43 (by decide) ⟨by omega, by omega⟩ (fun c => absurd c (by omega)) (fun _ => ?_)
      refine b_iconst hx hb dX5_fault_46 ?_
      exact g_iret hx hb hr hlocks hS ⟨Nat.le_of_ble_eq_true rfl, Nat.le_of_ble_eq_true rfl⟩ (⟨0, up X 22 0 (2), Or.inr (Or.inr (⟨⟨n, by omega⟩, rfl⟩)), rfl, hM⟩) dX5_fault_47
    · skip
      refine lv_aload_n hx hb dX5_fault_22 rfl (lv_at hl 0 rfl) ?_
      have b_23 : 0 ≤ X 20 0 ∧ X 20 0 ≤ 100 := hV.1 20 _ (by decide) rfl
      refine g_get (C := RX5) (T := TX5) (N := 23) hx hb hts inX5 hown hG hM.1 rfl 20 (by decide) (by decide +kernel) rfl (v := .int (z2 (X 20 0))) rfl dX5_fault_23 ?_
      refine b_bipush hx hb dX5_fault_26 (by decide +kernel) ?_
      refine b_icmp_ne (tgt := 35) hx hb dX5_fault_28 (by decide) ⟨⟨by omega, by omega⟩, ⟨by omega, by omega⟩⟩ (fun c_28 => ?_) (fun c_28 => ?_)
      · skip
        refine b_iconst hx hb dX5_fault_35 ?_
        refine g_put (C := RX5) (T := TX5) (N := 23) hx hb hts inX5 tyX5 tyX5_ok nmX5 hown hG hS hM.1 (Or.inl ⟨by omega, by omega⟩) rfl 22 (by decide) (by decide +kernel) rfl rfl (v := .int (z2 (0))) rfl rfl (Nat.le_of_ble_eq_true rfl) dX5_fault_36 (fun H locs he hz oq hS => ?_)
        have hM : PM D ks bm (up X 22 0 (0)) H := hM.own (k := 22) (by decide) he oq
        refine lv_aload_n hx hb dX5_fault_39 rfl (lv_at hl 0 rfl) ?_
        refine g_get (C := RX5) (T := TX5) (N := 23) hx hb hts inX5 hown hG hM.1 rfl 22 (by decide) (by decide +kernel) rfl (v := .int (z2 (0))) (congrArg (fun z => some (Value.int (z2 z))) (by simp [up] : (up X 22 0 (0)) 22 0 = 0)) dX5_fault_40 ?_
        refine b_if_le (tgt := 48) hx hb dX5_fault_43 (by decide) ⟨by omega, by omega⟩ (fun _ => ?_) (fun c => absurd c (by omega))
        refine b_iconst hx hb dX5_fault_48 ?_
        refine lv_istore_n (lv' := [(2, .int (z2 (0))), (0, .ref bm), (1, .int (z2 (((n : Nat) : Int))))]) hx hb dX5_fault_49 rfl hl (by decide) rfl (fun ls hl => ?_)
        refine b_bipush hx hb dX5_fault_50 (by decide +kernel) ?_
        refine lv_iload_n hx hb dX5_fault_52 rfl (lv_at hl 2 rfl) ?_
        refine b_iconst hx hb dX5_fault_53 ?_
        refine b_idiv hx hb ⟨⟨by omega, by omega⟩, by decide, by decide⟩ dX5_fault_54 ?_
        refine b_imul hx hb dX5_fault_55 ?_
        refine lv_istore_n (lv' := [(3, .int (z2 (12 * (((n : Nat) : Int) / 4)))), (2, .int (z2 (0))), (0, .ref bm), (1, .int (z2 (((n : Nat) : Int))))]) hx hb dX5_fault_56 rfl hl (by decide) rfl (fun ls hl => ?_)
        refine lp_ms (σ := Nat) (fun j H locs ls => j ≤ 12 ∧ PM D ks bm (flS (up X 22 0 (0)) n j) H ∧ va_S (AR (RM bm) s.heap.size) s.heap H locs ∧ lv_has ls 4 [(0, .ref bm), (1, .int (z2 (((n : Nat) : Int)))), (2, .int (z2 (flN (up X 22 0 (0)) n j))), (3, .int (z2 (((12 * (n / 4) + j : Nat) : Int))))]) (fun j => 12 - j) (fun j H locs ls hI ih => ?_) 0 ⟨by omega, hM, hS, (by have e0 : ((12 * (n / 4) + 0 : Nat) : Int) = 12 * (((n : Nat) : Int) / 4) := (by omega); rw [e0]; exact lv_sub hl [2, 3, 1, 0] rfl)⟩
        obtain ⟨hkN, hM, hS, hl⟩ := hI
        have hV := vs_fl (vs_uf (f := 22) (i := 0) (v := 0) hV0 (by decide)) n j
        have fb := flN_b (up X 22 0 (0)) n j
        refine lv_iload_n hx hb dX5_fault_57 rfl (lv_at hl 3 rfl) ?_
        refine b_bipush hx hb dX5_fault_58 (by decide +kernel) ?_
        refine lv_iload_n hx hb dX5_fault_60 rfl (lv_at hl 1 rfl) ?_
        refine b_iconst hx hb dX5_fault_61 ?_
        refine b_idiv hx hb ⟨⟨by omega, by omega⟩, by decide, by decide⟩ dX5_fault_62 ?_
        refine b_imul hx hb dX5_fault_63 ?_
        refine b_bipush hx hb dX5_fault_64 (by decide +kernel) ?_
        refine b_iadd hx hb dX5_fault_66 ?_
        refine b_icmp_ge (tgt := 125) hx hb dX5_fault_67 (by decide) ⟨⟨by omega, by omega⟩, ⟨by omega, by omega⟩⟩ (fun c_67 => ?_) (fun c_67 => ?_)
        · skip
          obtain rfl : j = 12 := by omega
          refine lv_aload_n hx hb dX5_fault_125 rfl (lv_at hl 0 rfl) ?_
          refine lv_iload_n hx hb dX5_fault_126 rfl (lv_at hl 1 rfl) ?_
          refine g_run (vx_runV (As := [.int (z2 (((n : Nat) : Int)))]) (rest := []) ⟨hx, hb, hml, hown, hts⟩ (m_breaks l D ks bx bm hbm (flS (up X 22 0 (0)) n 12) _ hM (hV) (n := n) (((n : Nat) : Int)) ⟨by omega, by omega⟩) (cwV 1 hts gX5_fault_X5_breaks rfl rfl rfl (by decide +kernel) ⟨Nat.le_of_ble_eq_true rfl, Nat.le_of_ble_eq_true rfl⟩) (g_preV (r := (RX5, TX5, 23)) hG hS (rm_ge hbm) hM.1 rfl) rfl rfl hl.1 rfl (lv_room (Nat.le_of_ble_eq_true rfl)) dX5_fault_127 ⟨Nat.le_of_ble_eq_true rfl, Nat.le_of_ble_eq_true rfl⟩) hS (fun _ h => h) (fun _ _ _ _ _ h => h.elim) (fun v H1 locs hp hz9 hk9 hS => ?_)
          obtain ⟨rfl, hM⟩ := hp
          have hV : VS (brM (flS (up X 22 0 (0)) n 12) n) := vs_br (hV) n
          refine W.eq (g2 := F0 m 130 ls []) rfl ?_
          have f20 : (brM (flS (up X 22 0 (0)) n 12) n) 20 0 = X 20 0 := fm_20 X n
          refine lv_aload_n hx hb dX5_fault_130 rfl (lv_at hl 0 rfl) ?_
          refine g_get (C := RX5) (T := TX5) (N := 23) hx hb hts inX5 hown hG hM.1 rfl 21 (by decide) (by decide +kernel) rfl (v := .ref (bm + 19)) rfl dX5_fault_131 ?_
          refine lv_aload_n hx hb dX5_fault_134 rfl (lv_at hl 0 rfl) ?_
          have b_135 : 0 ≤ ((brM (flS (up X 22 0 (0)) n 12) n)) 20 0 ∧ ((brM (flS (up X 22 0 (0)) n 12) n)) 20 0 ≤ 100 := hV.1 20 _ (by decide) rfl
          refine g_get (C := RX5) (T := TX5) (N := 23) hx hb hts inX5 hown hG hM.1 rfl 20 (by decide) (by decide +kernel) rfl (v := .int (z2 (((brM (flS (up X 22 0 (0)) n 12) n)) 20 0))) rfl dX5_fault_135 ?_
          refine b_bipush hx hb dX5_fault_138 (by decide +kernel) ?_
          refine lv_aload_n hx hb dX5_fault_140 rfl (lv_at hl 0 rfl) ?_
          have b_141 : 0 ≤ ((brM (flS (up X 22 0 (0)) n 12) n)) 0 0 ∧ ((brM (flS (up X 22 0 (0)) n 12) n)) 0 0 ≤ 1000000 := hV.1 0 _ (by decide) rfl
          refine g_get (C := RX5) (T := TX5) (N := 23) hx hb hts inX5 hown hG hM.1 rfl 0 (by decide) (by decide +kernel) rfl (v := .int (z2 (((brM (flS (up X 22 0 (0)) n 12) n)) 0 0))) rfl dX5_fault_141 ?_
          refine b_imul hx hb dX5_fault_144 ?_
          refine lv_iload_n hx hb dX5_fault_145 rfl (lv_at hl 1 rfl) ?_
          refine b_iadd hx hb dX5_fault_146 ?_
          refine g_iast (n := 100) hx hb hG hS (f := fun i => z2 ((brM (flS (up X 22 0 (0)) n 12) n) 21 i)) (show ca D (bm + 19) (iA (ks 0) 100 (fun i => z2 ((brM (flS (up X 22 0 (0)) n 12) n) 21 i))) _ from hM.2.1 21 (sr_of (by decide))) (Or.inl ⟨by omega, by omega⟩) ((((brM (flS (up X 22 0 (0)) n 12) n)) 20 0).toNat) ⟨by omega, by omega, by decide⟩ dX5_fault_147 (fun H locs he hz oq hS => ?_)
          have hM : PM D ks bm (up ((brM (flS (up X 22 0 (0)) n 12) n)) 21 ((((brM (flS (up X 22 0 (0)) n 12) n)) 20 0).toNat) ((10 * (((brM (flS (up X 22 0 (0)) n 12) n)) 0 0)) + ((n : Nat) : Int))) H := hM.row (f := 21) (sr_of (by decide)) he oq
          refine lv_aload_n hx hb dX5_fault_148 rfl (lv_at hl 0 rfl) ?_
          refine lv_dup hx hb dX5_fault_149 rfl ?_
          have b_150 : 0 ≤ ((brM (flS (up X 22 0 (0)) n 12) n)) 20 0 ∧ ((brM (flS (up X 22 0 (0)) n 12) n)) 20 0 ≤ 100 := hV.1 20 _ (by decide) rfl
          refine g_get (C := RX5) (T := TX5) (N := 23) hx hb hts inX5 hown hG hM.1 rfl 20 (by decide) (by decide +kernel) rfl (v := .int (z2 (((brM (flS (up X 22 0 (0)) n 12) n)) 20 0))) rfl dX5_fault_150 ?_
          refine b_iconst hx hb dX5_fault_153 ?_
          refine b_iadd hx hb dX5_fault_154 ?_
          refine g_put (C := RX5) (T := TX5) (N := 23) hx hb hts inX5 tyX5 tyX5_ok nmX5 hown hG hS hM.1 (Or.inl ⟨by omega, by omega⟩) rfl 20 (by decide) (by decide +kernel) rfl rfl (v := .int (z2 ((((brM (flS (up X 22 0 (0)) n 12) n)) 20 0) + 1))) rfl rfl (Nat.le_of_ble_eq_true rfl) dX5_fault_155 (fun H locs he hz oq hS => ?_)
          have hM : PM D ks bm (up (up ((brM (flS (up X 22 0 (0)) n 12) n)) 21 ((((brM (flS (up X 22 0 (0)) n 12) n)) 20 0).toNat) ((10 * (((brM (flS (up X 22 0 (0)) n 12) n)) 0 0)) + ((n : Nat) : Int))) 20 0 ((((brM (flS (up X 22 0 (0)) n 12) n)) 20 0) + 1)) H := hM.own (k := 20) (by decide) he oq
          refine lv_aload_n hx hb dX5_fault_158 rfl (lv_at hl 0 rfl) ?_
          refine g_get (C := RX5) (T := TX5) (N := 23) hx hb hts inX5 hown hG hM.1 rfl 17 (by decide) (by decide +kernel) rfl (v := .ref (bm + 16)) rfl dX5_fault_159 ?_
          refine lv_iload_n hx hb dX5_fault_162 rfl (lv_at hl 1 rfl) ?_
          refine lv_dup2_11 hx hb dX5_fault_163 rfl rfl ?_
          refine g_iald (n := 8) hx hb hG (f := fun i => z2 ((up (up ((brM (flS (up X 22 0 (0)) n 12) n)) 21 ((((brM (flS (up X 22 0 (0)) n 12) n)) 20 0).toNat) ((10 * (((brM (flS (up X 22 0 (0)) n 12) n)) 0 0)) + ((n : Nat) : Int))) 20 0 ((((brM (flS (up X 22 0 (0)) n 12) n)) 20 0) + 1)) 17 i)) (show ca D (bm + 16) (iA (ks 0) 8 (fun i => z2 ((up (up ((brM (flS (up X 22 0 (0)) n 12) n)) 21 ((((brM (flS (up X 22 0 (0)) n 12) n)) 20 0).toNat) ((10 * (((brM (flS (up X 22 0 (0)) n 12) n)) 0 0)) + ((n : Nat) : Int))) 20 0 ((((brM (flS (up X 22 0 (0)) n 12) n)) 20 0) + 1)) 17 i))) _ from hM.2.1 17 (sr_of (by decide))) n ⟨by omega, by omega, by decide⟩ dX5_fault_164 ?_
          refine W.eq (g2 := F0 m 165 ls (.int (z2 (((brM (flS (up X 22 0 (0)) n 12) n)) 17 n)) :: [.int (z2 (((n : Nat) : Int))), .ref (bm + 16)])) rfl ?_
          refine b_iconst hx hb dX5_fault_165 ?_
          refine b_iadd hx hb dX5_fault_166 ?_
          refine g_iast (n := 8) hx hb hG hS (f := fun i => z2 ((up (up ((brM (flS (up X 22 0 (0)) n 12) n)) 21 ((((brM (flS (up X 22 0 (0)) n 12) n)) 20 0).toNat) ((10 * (((brM (flS (up X 22 0 (0)) n 12) n)) 0 0)) + ((n : Nat) : Int))) 20 0 ((((brM (flS (up X 22 0 (0)) n 12) n)) 20 0) + 1)) 17 i)) (show ca D (bm + 16) (iA (ks 0) 8 (fun i => z2 ((up (up ((brM (flS (up X 22 0 (0)) n 12) n)) 21 ((((brM (flS (up X 22 0 (0)) n 12) n)) 20 0).toNat) ((10 * (((brM (flS (up X 22 0 (0)) n 12) n)) 0 0)) + ((n : Nat) : Int))) 20 0 ((((brM (flS (up X 22 0 (0)) n 12) n)) 20 0) + 1)) 17 i))) _ from hM.2.1 17 (sr_of (by decide))) (Or.inl ⟨by omega, by omega⟩) n ⟨by omega, by omega, by decide⟩ dX5_fault_167 (fun H locs he hz oq hS => ?_)
          have hM : PM D ks bm (up (up (up ((brM (flS (up X 22 0 (0)) n 12) n)) 21 ((((brM (flS (up X 22 0 (0)) n 12) n)) 20 0).toNat) ((10 * (((brM (flS (up X 22 0 (0)) n 12) n)) 0 0)) + ((n : Nat) : Int))) 20 0 ((((brM (flS (up X 22 0 (0)) n 12) n)) 20 0) + 1)) 17 n ((((brM (flS (up X 22 0 (0)) n 12) n)) 17 n) + 1)) H := hM.row (f := 17) (sr_of (by decide)) he oq
          refine lv_iload_n hx hb dX5_fault_168 rfl (lv_at hl 2 rfl) ?_
          exact g_iret hx hb hr hlocks hS ⟨Nat.le_of_ble_eq_true rfl, Nat.le_of_ble_eq_true rfl⟩ (⟨flN (up X 22 0 (0)) n 12, up (up (up ((brM (flS (up X 22 0 (0)) n 12) n)) 21 ((((brM (flS (up X 22 0 (0)) n 12) n)) 20 0).toNat) ((10 * (((brM (flS (up X 22 0 (0)) n 12) n)) 0 0)) + ((n : Nat) : Int))) 20 0 ((((brM (flS (up X 22 0 (0)) n 12) n)) 20 0) + 1)) 17 n ((((brM (flS (up X 22 0 (0)) n 12) n)) 17 n) + 1), Or.inl (⟨n, by omega, rfl, rfl⟩), rfl, hM⟩) dX5_fault_169
        · skip
          refine lv_aload_n hx hb dX5_fault_70 rfl (lv_at hl 0 rfl) ?_
          refine g_get (C := RX5) (T := TX5) (N := 23) hx hb hts inX5 hown hG hM.1 rfl 11 (by decide) (by decide +kernel) rfl (v := .ref (bm + 10)) rfl dX5_fault_71 ?_
          refine lv_iload_n hx hb dX5_fault_74 rfl (lv_at hl 3 rfl) ?_
          refine b_iconst hx hb dX5_fault_75 ?_
          refine b_idiv hx hb ⟨⟨by omega, by omega⟩, by decide, by decide⟩ dX5_fault_76 ?_
          have b_77 : 0 ≤ ((flS (up X 22 0 (0)) n j)) 11 ((12 * (n / 4) + j) / 3) ∧ ((flS (up X 22 0 (0)) n j)) 11 ((12 * (n / 4) + j) / 3) ≤ 1 := hV.1 11 _ (by decide) rfl
          refine g_iald (n := 8) hx hb hG (f := fun i => z2 ((flS (up X 22 0 (0)) n j) 11 i)) (show ca D (bm + 10) (iA (ks 0) 8 (fun i => z2 ((flS (up X 22 0 (0)) n j) 11 i))) _ from hM.2.1 11 (sr_of (by decide))) ((12 * (n / 4) + j) / 3) ⟨by omega, by omega, by decide⟩ dX5_fault_77 ?_
          refine W.eq (g2 := F0 m 78 ls (.int (z2 (((flS (up X 22 0 (0)) n j)) 11 ((12 * (n / 4) + j) / 3))) :: [])) rfl ?_
          refine b_if_ne (tgt := 119) hx hb dX5_fault_78 (by decide) ⟨by omega, by omega⟩ (fun c_78 => ?_) (fun c_78 => ?_)
          · skip
            refine b_iinc (lv' := [(3, .int (z2 (((12 * (n / 4) + j : Nat) : Int) + 1))), (0, .ref bm), (1, .int (z2 (((n : Nat) : Int)))), (2, .int (z2 (flN (up X 22 0 (0)) n j)))]) hx hb dX5_fault_119 hl (k := 3) rfl (by decide) rfl (fun ls hl => ?_)
            refine lv_goto (tgt := 57) hx hb dX5_fault_122 (by decide) ?_
            have e3 : ((12 * (n / 4) + (j + 1) : Nat) : Int) = ((12 * (n / 4) + j : Nat) : Int) + 1 := by omega
            have e2 : flS (up X 22 0 (0)) n (j + 1) = (flS (up X 22 0 (0)) n j) := if_neg (fun q => by omega)
            have e1 : flN (up X 22 0 (0)) n (j + 1) = flN (up X 22 0 (0)) n j := if_neg (fun q => by omega)
            exact ih (j + 1) _ _ _ (by omega) ⟨by omega, (by rw [e2]; exact hM), hS, by rw [e1, e3]; exact lv_sub hl [1, 2, 3, 0] rfl⟩
          · skip
            refine lv_aload_n hx hb dX5_fault_81 rfl (lv_at hl 0 rfl) ?_
            refine g_get (C := RX5) (T := TX5) (N := 23) hx hb hts inX5 hown hG hM.1 rfl 5 (by decide) (by decide +kernel) rfl (v := .ref (bm + 4)) rfl dX5_fault_82 ?_
            refine lv_iload_n hx hb dX5_fault_85 rfl (lv_at hl 3 rfl) ?_
            have b_86 : 0 ≤ ((flS (up X 22 0 (0)) n j)) 5 (12 * (n / 4) + j) ∧ ((flS (up X 22 0 (0)) n j)) 5 (12 * (n / 4) + j) ≤ 12 := hV.1 5 _ (by decide) rfl
            refine g_iald (n := 24) hx hb hG (f := fun i => z2 ((flS (up X 22 0 (0)) n j) 5 i)) (show ca D (bm + 4) (iA (ks 0) 24 (fun i => z2 ((flS (up X 22 0 (0)) n j) 5 i))) _ from hM.2.1 5 (sr_of (by decide))) (12 * (n / 4) + j) ⟨by omega, by omega, by decide⟩ dX5_fault_86 ?_
            refine W.eq (g2 := F0 m 87 ls (.int (z2 (((flS (up X 22 0 (0)) n j)) 5 (12 * (n / 4) + j))) :: [])) rfl ?_
            refine b_if_le (tgt := 119) hx hb dX5_fault_87 (by decide) ⟨by omega, by omega⟩ (fun c_87 => ?_) (fun c_87 => ?_)
            · skip
              refine b_iinc (lv' := [(3, .int (z2 (((12 * (n / 4) + j : Nat) : Int) + 1))), (0, .ref bm), (1, .int (z2 (((n : Nat) : Int)))), (2, .int (z2 (flN (up X 22 0 (0)) n j)))]) hx hb dX5_fault_119 hl (k := 3) rfl (by decide) rfl (fun ls hl => ?_)
              refine lv_goto (tgt := 57) hx hb dX5_fault_122 (by decide) ?_
              have e3 : ((12 * (n / 4) + (j + 1) : Nat) : Int) = ((12 * (n / 4) + j : Nat) : Int) + 1 := by omega
              have e2 : flS (up X 22 0 (0)) n (j + 1) = (flS (up X 22 0 (0)) n j) := if_neg (fun q => by omega)
              have e1 : flN (up X 22 0 (0)) n (j + 1) = flN (up X 22 0 (0)) n j := if_neg (fun q => by omega)
              exact ih (j + 1) _ _ _ (by omega) ⟨by omega, (by rw [e2]; exact hM), hS, by rw [e1, e3]; exact lv_sub hl [1, 2, 3, 0] rfl⟩
            · skip
              refine lv_aload_n hx hb dX5_fault_90 rfl (lv_at hl 0 rfl) ?_
              refine g_get (C := RX5) (T := TX5) (N := 23) hx hb hts inX5 hown hG hM.1 rfl 7 (by decide) (by decide +kernel) rfl (v := .ref (bm + 6)) rfl dX5_fault_91 ?_
              refine lv_iload_n hx hb dX5_fault_94 rfl (lv_at hl 3 rfl) ?_
              have b_95 : 0 ≤ ((flS (up X 22 0 (0)) n j)) 7 (12 * (n / 4) + j) ∧ ((flS (up X 22 0 (0)) n j)) 7 (12 * (n / 4) + j) ≤ 1000024 := hV.1 7 _ (by decide) rfl
              refine g_iald (n := 24) hx hb hG (f := fun i => z2 ((flS (up X 22 0 (0)) n j) 7 i)) (show ca D (bm + 6) (iA (ks 0) 24 (fun i => z2 ((flS (up X 22 0 (0)) n j) 7 i))) _ from hM.2.1 7 (sr_of (by decide))) (12 * (n / 4) + j) ⟨by omega, by omega, by decide⟩ dX5_fault_95 ?_
              refine W.eq (g2 := F0 m 96 ls (.int (z2 (((flS (up X 22 0 (0)) n j)) 7 (12 * (n / 4) + j))) :: [])) rfl ?_
              refine b_if_ne (tgt := 119) hx hb dX5_fault_96 (by decide) ⟨by omega, by omega⟩ (fun c_96 => ?_) (fun c_96 => ?_)
              · skip
                refine b_iinc (lv' := [(3, .int (z2 (((12 * (n / 4) + j : Nat) : Int) + 1))), (0, .ref bm), (1, .int (z2 (((n : Nat) : Int)))), (2, .int (z2 (flN (up X 22 0 (0)) n j)))]) hx hb dX5_fault_119 hl (k := 3) rfl (by decide) rfl (fun ls hl => ?_)
                refine lv_goto (tgt := 57) hx hb dX5_fault_122 (by decide) ?_
                have e3 : ((12 * (n / 4) + (j + 1) : Nat) : Int) = ((12 * (n / 4) + j : Nat) : Int) + 1 := by omega
                have e2 : flS (up X 22 0 (0)) n (j + 1) = (flS (up X 22 0 (0)) n j) := if_neg (fun q => by omega)
                have e1 : flN (up X 22 0 (0)) n (j + 1) = flN (up X 22 0 (0)) n j := if_neg (fun q => by omega)
                exact ih (j + 1) _ _ _ (by omega) ⟨by omega, (by rw [e2]; exact hM), hS, by rw [e1, e3]; exact lv_sub hl [1, 2, 3, 0] rfl⟩
              · skip
                refine lv_aload_n hx hb dX5_fault_99 rfl (lv_at hl 0 rfl) ?_
                refine lv_iload_n hx hb dX5_fault_100 rfl (lv_at hl 3 rfl) ?_
                refine g_run (vx_runV (As := [.int (z2 (((12 * (n / 4) + j : Nat) : Int)))]) (rest := []) ⟨hx, hb, hml, hown, hts⟩ (m_begins l D ks bx bm hbm (flS (up X 22 0 (0)) n j) _ hM (hV) (i := 12 * (n / 4) + j) (((12 * (n / 4) + j : Nat) : Int)) ⟨by omega, by omega⟩ (by omega)) (cwV 1 hts gX5_fault_X5_begins rfl rfl rfl (by decide +kernel) ⟨Nat.le_of_ble_eq_true rfl, Nat.le_of_ble_eq_true rfl⟩) (g_preV (r := (RX5, TX5, 23)) hG hS (rm_ge hbm) hM.1 rfl) rfl rfl hl.1 rfl (lv_room (Nat.le_of_ble_eq_true rfl)) dX5_fault_101 ⟨Nat.le_of_ble_eq_true rfl, Nat.le_of_ble_eq_true rfl⟩) hS (fun _ h => h) (fun _ _ _ _ _ h => h.elim) (fun v H1 locs hp hz9 hk9 hS => ?_)
                obtain ⟨rfl, hM⟩ := hp
                refine W.eq (g2 := F0 m 104 ls []) rfl ?_
                refine lv_iload_n hx hb dX5_fault_104 rfl (lv_at hl 2 rfl) ?_
                refine lv_iload_n hx hb dX5_fault_105 rfl (lv_at hl 3 rfl) ?_
                refine b_iconst hx hb dX5_fault_106 ?_
                refine b_idiv hx hb ⟨⟨by omega, by omega⟩, by decide, by decide⟩ dX5_fault_107 ?_
                refine lv_iload_n hx hb dX5_fault_108 rfl (lv_at hl 1 rfl) ?_
                refine b_icmp_ne (tgt := 116) hx hb dX5_fault_109 (by decide) ⟨⟨by omega, by omega⟩, ⟨by omega, by omega⟩⟩ (fun c_109 => ?_) (fun c_109 => ?_)
                · skip
                  refine b_iconst hx hb dX5_fault_116 ?_
                  refine b_iadd hx hb dX5_fault_117 ?_
                  refine lv_istore_n (lv' := [(2, .int (z2 ((flN (up X 22 0 (0)) n j) + 1))), (0, .ref bm), (1, .int (z2 (((n : Nat) : Int)))), (3, .int (z2 (((12 * (n / 4) + j : Nat) : Int))))]) hx hb dX5_fault_118 rfl hl (by decide) rfl (fun ls hl => ?_)
                  refine b_iinc (lv' := [(3, .int (z2 (((12 * (n / 4) + j : Nat) : Int) + 1))), (2, .int (z2 ((flN (up X 22 0 (0)) n j) + 1))), (0, .ref bm), (1, .int (z2 (((n : Nat) : Int))))]) hx hb dX5_fault_119 hl (k := 3) rfl (by decide) rfl (fun ls hl => ?_)
                  refine lv_goto (tgt := 57) hx hb dX5_fault_122 (by decide) ?_
                  have e3 : ((12 * (n / 4) + (j + 1) : Nat) : Int) = ((12 * (n / 4) + j : Nat) : Int) + 1 := by omega
                  have e2 : flS (up X 22 0 (0)) n (j + 1) = beS (flS (up X 22 0 (0)) n j) (12 * (n / 4) + j) := if_pos ⟨by omega, by omega, by omega⟩
                  have e1 : flN (up X 22 0 (0)) n (j + 1) = flN (up X 22 0 (0)) n j + 1 := (if_pos ⟨by omega, by omega, by omega⟩).trans (by first | rw [if_pos (by omega)] | rw [if_neg (by omega)])
                  exact ih (j + 1) _ _ _ (by omega) ⟨by omega, (by rw [e2]; exact hM), hS, by rw [e1, e3]; exact lv_sub hl [2, 3, 1, 0] rfl⟩
                · skip
                  refine b_iconst hx hb dX5_fault_112 ?_
                  refine lv_goto (tgt := 117) hx hb dX5_fault_113 (by decide) ?_
                  refine b_iadd hx hb dX5_fault_117 ?_
                  refine lv_istore_n (lv' := [(2, .int (z2 ((flN (up X 22 0 (0)) n j) + 0))), (0, .ref bm), (1, .int (z2 (((n : Nat) : Int)))), (3, .int (z2 (((12 * (n / 4) + j : Nat) : Int))))]) hx hb dX5_fault_118 rfl hl (by decide) rfl (fun ls hl => ?_)
                  refine b_iinc (lv' := [(3, .int (z2 (((12 * (n / 4) + j : Nat) : Int) + 1))), (2, .int (z2 ((flN (up X 22 0 (0)) n j) + 0))), (0, .ref bm), (1, .int (z2 (((n : Nat) : Int))))]) hx hb dX5_fault_119 hl (k := 3) rfl (by decide) rfl (fun ls hl => ?_)
                  refine lv_goto (tgt := 57) hx hb dX5_fault_122 (by decide) ?_
                  have e3 : ((12 * (n / 4) + (j + 1) : Nat) : Int) = ((12 * (n / 4) + j : Nat) : Int) + 1 := by omega
                  have e2 : flS (up X 22 0 (0)) n (j + 1) = beS (flS (up X 22 0 (0)) n j) (12 * (n / 4) + j) := if_pos ⟨by omega, by omega, by omega⟩
                  have e1 : flN (up X 22 0 (0)) n (j + 1) = flN (up X 22 0 (0)) n j + 0 := (if_pos ⟨by omega, by omega, by omega⟩).trans (by first | rw [if_pos (by omega)] | rw [if_neg (by omega)])
                  exact ih (j + 1) _ _ _ (by omega) ⟨by omega, (by rw [e2]; exact hM), hS, by rw [e1, e3]; exact lv_sub hl [2, 3, 1, 0] rfl⟩
      · skip
        refine b_iconst hx hb dX5_fault_31 ?_
        refine lv_goto (tgt := 36) hx hb dX5_fault_32 (by decide) ?_
        refine g_put (C := RX5) (T := TX5) (N := 23) hx hb hts inX5 tyX5 tyX5_ok nmX5 hown hG hS hM.1 (Or.inl ⟨by omega, by omega⟩) rfl 22 (by decide) (by decide +kernel) rfl rfl (v := .int (z2 (2))) rfl rfl (Nat.le_of_ble_eq_true rfl) dX5_fault_36 (fun H locs he hz oq hS => ?_)
        have hM : PM D ks bm (up X 22 0 (2)) H := hM.own (k := 22) (by decide) he oq
        refine lv_aload_n hx hb dX5_fault_39 rfl (lv_at hl 0 rfl) ?_
        refine g_get (C := RX5) (T := TX5) (N := 23) hx hb hts inX5 hown hG hM.1 rfl 22 (by decide) (by decide +kernel) rfl (v := .int (z2 (2))) (congrArg (fun z => some (Value.int (z2 z))) (by simp [up] : (up X 22 0 (2)) 22 0 = 2)) dX5_fault_40 ?_
        refine b_if_le (tgt := 48) hx hb dX5_fault_43 (by decide) ⟨by omega, by omega⟩ (fun c => absurd c (by omega)) (fun _ => ?_)
        refine b_iconst hx hb dX5_fault_46 ?_
        exact g_iret hx hb hr hlocks hS ⟨Nat.le_of_ble_eq_true rfl, Nat.le_of_ble_eq_true rfl⟩ (⟨0, up X 22 0 (2), Or.inr (Or.inr (⟨⟨n, by omega⟩, rfl⟩)), rfl, hM⟩) dX5_fault_47
  · skip
    refine b_iconst hx hb dX5_fault_8 ?_
    refine lv_goto (tgt := 36) hx hb dX5_fault_9 (by decide) ?_
    refine g_put (C := RX5) (T := TX5) (N := 23) hx hb hts inX5 tyX5 tyX5_ok nmX5 hown hG hS hM.1 (Or.inl ⟨by omega, by omega⟩) rfl 22 (by decide) (by decide +kernel) rfl rfl (v := .int (z2 (1))) rfl rfl (Nat.le_of_ble_eq_true rfl) dX5_fault_36 (fun H locs he hz oq hS => ?_)
    have hM : PM D ks bm (up X 22 0 (1)) H := hM.own (k := 22) (by decide) he oq
    refine lv_aload_n hx hb dX5_fault_39 rfl (lv_at hl 0 rfl) ?_
    refine g_get (C := RX5) (T := TX5) (N := 23) hx hb hts inX5 hown hG hM.1 rfl 22 (by decide) (by decide +kernel) rfl (v := .int (z2 (1))) (congrArg (fun z => some (Value.int (z2 z))) (by simp [up] : (up X 22 0 (1)) 22 0 = 1)) dX5_fault_40 ?_
    refine b_if_le (tgt := 48) hx hb dX5_fault_43 (by decide) ⟨by omega, by omega⟩ (fun c => absurd c (by omega)) (fun _ => ?_)
    refine b_iconst hx hb dX5_fault_46 ?_
    exact g_iret hx hb hr hlocks hS ⟨Nat.le_of_ble_eq_true rfl, Nat.le_of_ble_eq_true rfl⟩ (⟨0, up X 22 0 (1), Or.inr (Or.inl (⟨by omega, rfl⟩)), rfl, hM⟩) dX5_fault_47
set_option maxHeartbeats 4000000 in
set_option maxRecDepth 100000 in
theorem m_repair (l : Launch) (D : va_G) (ks : Nat → ClassId) (bx : Nat) (bm : Nat) (hbm : bx ≤ bm) (X : Nat → Nat → Int) (H : Heap) (hM : PM D ks bm X H) (hV : VS X) (u : Int) (hu : -2147483648 ≤ u ∧ u < 2147483648) : KM l yX5_repair wsX5_repair ({ frames := 2, cells := 0, slots := 0, locals := 42 } : Room) D ks bx [.ref bm, .int (z2 u)] H (RM bm) (fun v H1 => ∃ (r : Int) (Y : Nat → Nat → Int), ro_repair X u r Y ∧ v = some (.int (z2 r)) ∧ PM D ks bm Y H1) (fun _ _ => False) := by
  refine KM.of (cc := cX5_repair) (maxL := 3) (ret := (some .int)) (by decide) rfl (Nat.le_of_ble_eq_true rfl) ?_
  intro p e s m below meth c hx hb hml hr hlocks hown hname hts hext hH0 hG ls hl
  subst hH0
  have hown : s.vm.findClass RX5 = some m.cls := hown
  have hS : va_S (AR (RM bm) s.heap.size) s.heap s.heap [] := va_S.rf
  have hl : lv_has ls 3 [(0, .ref bm), (1, .int (z2 (u)))] := hl
  have inX5 : ∀ w ∈ wsX50, w ∈ wsX5_repair := by decide +kernel
  refine lv_aload_n hx hb dX5_repair_0 rfl (lv_at hl 0 rfl) ?_
  refine lv_iload_n hx hb dX5_repair_1 rfl (lv_at hl 1 rfl) ?_
  refine g_run (vx_runS (As := [.int (z2 (u))]) (rest := [.ref bm]) ⟨hx, hb, hml, hown, hts⟩ (m_isHouse l D ks bx bm hbm _ (u) ⟨by omega, by omega⟩) (cwS 1 hts gX5_repair_X5_isHouse rfl rfl rfl (by decide +kernel) ⟨Nat.le_of_ble_eq_true rfl, Nat.le_of_ble_eq_true rfl⟩) (g_preS hG hS (rm_ge hbm)) rfl rfl hl.1 rfl (lv_room (Nat.le_of_ble_eq_true rfl)) dX5_repair_2 ⟨Nat.le_of_ble_eq_true rfl, Nat.le_of_ble_eq_true rfl⟩) hS (fun _ h => h) (fun _ _ _ _ _ h => h.elim) (fun v H1 locs hp hz9 hk9 hS => ?_)
  obtain ⟨rfl, hH9⟩ := hp
  obtain rfl := hH9.symm
  obtain ⟨iv_2, ev_2, ib_2⟩ : ∃ z : Int, z = (if 0 ≤ u ∧ u ≤ 7 then 1 else 0) ∧ (((0 ≤ u ∧ u ≤ 7) ∧ z = 1) ∨ (¬ (0 ≤ u ∧ u ≤ 7) ∧ z = 0)) := ⟨_, rfl, by split <;> omega⟩
  rw [← ev_2]
  refine W.eq (g2 := F0 m 5 ls [.int (z2 (iv_2)), .ref bm]) rfl ?_
  refine b_if_eq (tgt := 12) hx hb dX5_repair_5 (by decide) ⟨by omega, by omega⟩ (fun c_5 => ?_) (fun c_5 => ?_)
  · skip
    refine b_iconst hx hb dX5_repair_12 ?_
    refine g_put (C := RX5) (T := TX5) (N := 23) hx hb hts inX5 tyX5 tyX5_ok nmX5 hown hG hS hM.1 (Or.inl ⟨by omega, by omega⟩) rfl 22 (by decide) (by decide +kernel) rfl rfl (v := .int (z2 (1))) rfl rfl (Nat.le_of_ble_eq_true rfl) dX5_repair_13 (fun H locs he hz oq hS => ?_)
    have hM : PM D ks bm (up X 22 0 (1)) H := hM.own (k := 22) (by decide) he oq
    refine lv_aload_n hx hb dX5_repair_16 rfl (lv_at hl 0 rfl) ?_
    refine g_get (C := RX5) (T := TX5) (N := 23) hx hb hts inX5 hown hG hM.1 rfl 22 (by decide) (by decide +kernel) rfl (v := .int (z2 (1))) (congrArg (fun z => some (Value.int (z2 z))) (by simp [up] : (up X 22 0 (1)) 22 0 = 1)) dX5_repair_17 ?_
    refine b_if_le (tgt := 25) hx hb dX5_repair_20 (by decide) ⟨by omega, by omega⟩ (fun c => absurd c (by omega)) (fun _ => ?_)
    refine b_iconst hx hb dX5_repair_23 ?_
    exact g_iret hx hb hr hlocks hS ⟨Nat.le_of_ble_eq_true rfl, Nat.le_of_ble_eq_true rfl⟩ (⟨0, up X 22 0 (1), Or.inr (Or.inl (⟨by omega, rfl⟩)), rfl, hM⟩) dX5_repair_24
  · skip
    refine b_iconst hx hb dX5_repair_8 ?_
    refine lv_goto (tgt := 13) hx hb dX5_repair_9 (by decide) ?_
    refine g_put (C := RX5) (T := TX5) (N := 23) hx hb hts inX5 tyX5 tyX5_ok nmX5 hown hG hS hM.1 (Or.inl ⟨by omega, by omega⟩) rfl 22 (by decide) (by decide +kernel) rfl rfl (v := .int (z2 (0))) rfl rfl (Nat.le_of_ble_eq_true rfl) dX5_repair_13 (fun H locs he hz oq hS => ?_)
    have hM : PM D ks bm (up X 22 0 (0)) H := hM.own (k := 22) (by decide) he oq
    refine lv_aload_n hx hb dX5_repair_16 rfl (lv_at hl 0 rfl) ?_
    refine g_get (C := RX5) (T := TX5) (N := 23) hx hb hts inX5 hown hG hM.1 rfl 22 (by decide) (by decide +kernel) rfl (v := .int (z2 (0))) (congrArg (fun z => some (Value.int (z2 z))) (by simp [up] : (up X 22 0 (0)) 22 0 = 0)) dX5_repair_17 ?_
    refine b_if_le (tgt := 25) hx hb dX5_repair_20 (by decide) ⟨by omega, by omega⟩ (fun _ => ?_) (fun c => absurd c (by omega))
    obtain ⟨n, rfl⟩ : ∃ n : Nat, u = n := ⟨(u).toNat, by omega⟩
    refine lv_iload_n hx hb dX5_repair_25 rfl (lv_at hl 1 rfl) ?_
    refine b_iconst hx hb dX5_repair_26 ?_
    refine b_idiv hx hb ⟨⟨by omega, by omega⟩, by decide, by decide⟩ dX5_repair_27 ?_
    refine lv_istore_n (lv' := [(2, .int (z2 (((n : Nat) : Int) / 4))), (0, .ref bm), (1, .int (z2 (((n : Nat) : Int))))]) hx hb dX5_repair_28 rfl hl (by decide) rfl (fun ls hl => ?_)
    refine lv_aload_n hx hb dX5_repair_29 rfl (lv_at hl 1 rfl) ?_
    refine g_get (C := RX5) (T := TX5) (N := 23) hx hb hts inX5 hown hG hM.1 rfl 11 (by decide) (by decide +kernel) rfl (v := .ref (bm + 10)) rfl dX5_repair_30 ?_
    refine lv_iload_n hx hb dX5_repair_33 rfl (lv_at hl 2 rfl) ?_
    have b_34 : 0 ≤ X 11 n ∧ X 11 n ≤ 1 := hV.1 11 _ (by decide) rfl
    refine g_iald (n := 8) hx hb hG (f := fun i => z2 ((up X 22 0 (0)) 11 i)) (show ca D (bm + 10) (iA (ks 0) 8 (fun i => z2 ((up X 22 0 (0)) 11 i))) _ from hM.2.1 11 (sr_of (by decide))) n ⟨by omega, by omega, by decide⟩ dX5_repair_34 ?_
    refine W.eq (g2 := F0 m 35 ls (.int (z2 (X 11 n)) :: [])) rfl ?_
    refine b_if_eq (tgt := 47) hx hb dX5_repair_35 (by decide) ⟨by omega, by omega⟩ (fun c_35 => ?_) (fun c_35 => ?_)
    · skip
      refine lv_aload_n hx hb dX5_repair_47 rfl (lv_at hl 1 rfl) ?_
      refine b_iconst hx hb dX5_repair_48 ?_
      refine g_run (vx_runV (As := [.int (z2 (2))]) (rest := []) ⟨hx, hb, hml, hown, hts⟩ (m_fails l D ks bx bm hbm (up X 22 0 (0)) _ hM (vs_uf (hV) (by decide)) (2)) (cwV 1 hts gX5_repair_X5_fails rfl rfl rfl (by decide +kernel) ⟨Nat.le_of_ble_eq_true rfl, Nat.le_of_ble_eq_true rfl⟩) (g_preV (r := (RX5, TX5, 23)) hG hS (rm_ge hbm) hM.1 rfl) rfl rfl hl.1 rfl (lv_room (Nat.le_of_ble_eq_true rfl)) dX5_repair_49 ⟨Nat.le_of_ble_eq_true rfl, Nat.le_of_ble_eq_true rfl⟩) hS (fun _ h => h) (fun _ _ _ _ _ h => h.elim) (fun v H1 locs hp hz9 hk9 hS => ?_)
      obtain ⟨rfl, hM⟩ := hp
      refine W.eq (g2 := F0 m 52 ls [.int (z2 (0))]) rfl ?_
      exact g_iret hx hb hr hlocks hS ⟨Nat.le_of_ble_eq_true rfl, Nat.le_of_ble_eq_true rfl⟩ (⟨0, (up (up X 22 0 (0)) 22 0 (2)), Or.inr (Or.inr (⟨⟨n, by omega⟩, rfl⟩)), rfl, hM⟩) dX5_repair_52
    · skip
      refine lv_aload_n hx hb dX5_repair_38 rfl (lv_at hl 1 rfl) ?_
      refine g_get (C := RX5) (T := TX5) (N := 23) hx hb hts inX5 hown hG hM.1 rfl 18 (by decide) (by decide +kernel) rfl (v := .ref (bm + 17)) rfl dX5_repair_39 ?_
      refine lv_iload_n hx hb dX5_repair_42 rfl (lv_at hl 0 rfl) ?_
      have b_43 : 0 ≤ X 18 (n / 4) ∧ X 18 (n / 4) ≤ 1000050 := hV.1 18 _ (by decide) rfl
      refine g_iald (n := 2) hx hb hG (f := fun i => z2 ((up X 22 0 (0)) 18 i)) (show ca D (bm + 17) (iA (ks 0) 2 (fun i => z2 ((up X 22 0 (0)) 18 i))) _ from hM.2.1 18 (sr_of (by decide))) (n / 4) ⟨by omega, by omega, by decide⟩ dX5_repair_43 ?_
      refine W.eq (g2 := F0 m 44 ls (.int (z2 (X 18 (n / 4))) :: [])) rfl ?_
      refine b_if_le (tgt := 53) hx hb dX5_repair_44 (by decide) ⟨by omega, by omega⟩ (fun c_44 => ?_) (fun c_44 => ?_)
      · skip
        refine lv_aload_n hx hb dX5_repair_53 rfl (lv_at hl 1 rfl) ?_
        refine g_get (C := RX5) (T := TX5) (N := 23) hx hb hts inX5 hown hG hM.1 rfl 18 (by decide) (by decide +kernel) rfl (v := .ref (bm + 17)) rfl dX5_repair_54 ?_
        refine lv_iload_n hx hb dX5_repair_57 rfl (lv_at hl 0 rfl) ?_
        refine lv_aload_n hx hb dX5_repair_58 rfl (lv_at hl 1 rfl) ?_
        have b_59 : 0 ≤ X 0 0 ∧ X 0 0 ≤ 1000000 := hV.1 0 _ (by decide) rfl
        refine g_get (C := RX5) (T := TX5) (N := 23) hx hb hts inX5 hown hG hM.1 rfl 0 (by decide) (by decide +kernel) rfl (v := .int (z2 (X 0 0))) rfl dX5_repair_59 ?_
        refine b_bipush hx hb dX5_repair_62 (by decide +kernel) ?_
        refine b_iadd hx hb dX5_repair_64 ?_
        refine g_iast (n := 2) hx hb hG hS (f := fun i => z2 ((up X 22 0 (0)) 18 i)) (show ca D (bm + 17) (iA (ks 0) 2 (fun i => z2 ((up X 22 0 (0)) 18 i))) _ from hM.2.1 18 (sr_of (by decide))) (Or.inl ⟨by omega, by omega⟩) (n / 4) ⟨by omega, by omega, by decide⟩ dX5_repair_65 (fun H locs he hz oq hS => ?_)
        have hM : PM D ks bm (up (up X 22 0 (0)) 18 (n / 4) ((X 0 0) + 50)) H := hM.row (f := 18) (sr_of (by decide)) he oq
        refine lv_aload_n hx hb dX5_repair_66 rfl (lv_at hl 1 rfl) ?_
        refine g_get (C := RX5) (T := TX5) (N := 23) hx hb hts inX5 hown hG hM.1 rfl 19 (by decide) (by decide +kernel) rfl (v := .ref (bm + 18)) rfl dX5_repair_67 ?_
        refine lv_iload_n hx hb dX5_repair_70 rfl (lv_at hl 0 rfl) ?_
        refine lv_iload_n hx hb dX5_repair_71 rfl (lv_at hl 2 rfl) ?_
        refine g_iast (n := 2) hx hb hG hS (f := fun i => z2 ((up (up X 22 0 (0)) 18 (n / 4) ((X 0 0) + 50)) 19 i)) (show ca D (bm + 18) (iA (ks 0) 2 (fun i => z2 ((up (up X 22 0 (0)) 18 (n / 4) ((X 0 0) + 50)) 19 i))) _ from hM.2.1 19 (sr_of (by decide))) (Or.inl ⟨by omega, by omega⟩) (n / 4) ⟨by omega, by omega, by decide⟩ dX5_repair_72 (fun H locs he hz oq hS => ?_)
        have hM : PM D ks bm (up (up (up X 22 0 (0)) 18 (n / 4) ((X 0 0) + 50)) 19 (n / 4) (((n : Nat) : Int))) H := hM.row (f := 19) (sr_of (by decide)) he oq
        refine lv_aload_n hx hb dX5_repair_73 rfl (lv_at hl 1 rfl) ?_
        refine g_get (C := RX5) (T := TX5) (N := 23) hx hb hts inX5 hown hG hM.1 rfl 18 (by decide) (by decide +kernel) rfl (v := .ref (bm + 17)) rfl dX5_repair_74 ?_
        refine lv_iload_n hx hb dX5_repair_77 rfl (lv_at hl 0 rfl) ?_
        refine g_iald (n := 2) hx hb hG (f := fun i => z2 ((up (up (up X 22 0 (0)) 18 (n / 4) ((X 0 0) + 50)) 19 (n / 4) (((n : Nat) : Int))) 18 i)) (show ca D (bm + 17) (iA (ks 0) 2 (fun i => z2 ((up (up (up X 22 0 (0)) 18 (n / 4) ((X 0 0) + 50)) 19 (n / 4) (((n : Nat) : Int))) 18 i))) _ from hM.2.1 18 (sr_of (by decide))) (n / 4) ⟨by omega, by omega, by decide⟩ dX5_repair_78 ?_
        refine W.eq (g2 := F0 m 79 ls (.int (z2 ((X 0 0) + 50)) :: [])) (congrArg (fun z => F0 m 79 ls (.int (z2 z) :: [])) (by simp [up] : (up (up (up X 22 0 (0)) 18 (n / 4) ((X 0 0) + 50)) 19 (n / 4) (((n : Nat) : Int))) 18 (n / 4) = (X 0 0) + 50)) ?_
        exact g_iret hx hb hr hlocks hS ⟨Nat.le_of_ble_eq_true rfl, Nat.le_of_ble_eq_true rfl⟩ (⟨(X 0 0) + 50, up (up (up X 22 0 (0)) 18 (n / 4) ((X 0 0) + 50)) 19 (n / 4) (((n : Nat) : Int)), Or.inl (⟨n, by omega, rfl, rfl⟩), rfl, hM⟩) dX5_repair_79
      · skip
        refine lv_aload_n hx hb dX5_repair_47 rfl (lv_at hl 1 rfl) ?_
        refine b_iconst hx hb dX5_repair_48 ?_
        refine g_run (vx_runV (As := [.int (z2 (2))]) (rest := []) ⟨hx, hb, hml, hown, hts⟩ (m_fails l D ks bx bm hbm (up X 22 0 (0)) _ hM (vs_uf (hV) (by decide)) (2)) (cwV 1 hts gX5_repair_X5_fails rfl rfl rfl (by decide +kernel) ⟨Nat.le_of_ble_eq_true rfl, Nat.le_of_ble_eq_true rfl⟩) (g_preV (r := (RX5, TX5, 23)) hG hS (rm_ge hbm) hM.1 rfl) rfl rfl hl.1 rfl (lv_room (Nat.le_of_ble_eq_true rfl)) dX5_repair_49 ⟨Nat.le_of_ble_eq_true rfl, Nat.le_of_ble_eq_true rfl⟩) hS (fun _ h => h) (fun _ _ _ _ _ h => h.elim) (fun v H1 locs hp hz9 hk9 hS => ?_)
        obtain ⟨rfl, hM⟩ := hp
        refine W.eq (g2 := F0 m 52 ls [.int (z2 (0))]) rfl ?_
        exact g_iret hx hb hr hlocks hS ⟨Nat.le_of_ble_eq_true rfl, Nat.le_of_ble_eq_true rfl⟩ (⟨0, (up (up X 22 0 (0)) 22 0 (2)), Or.inr (Or.inr (⟨⟨n, by omega⟩, rfl⟩)), rfl, hM⟩) dX5_repair_52
set_option maxHeartbeats 4000000 in
set_option maxRecDepth 100000 in
theorem m_pass (l : Launch) (D : va_G) (ks : Nat → ClassId) (bx : Nat) (bm : Nat) (hbm : bx ≤ bm) (X : Nat → Nat → Int) (H : Heap) (hM : PM D ks bm X H) (hV : VS X) (u : Int) (hu : -2147483648 ≤ u ∧ u < 2147483648) : KM l yX5_pass wsX5_pass ({ frames := 3, cells := 0, slots := 0, locals := 66 } : Room) D ks bx [.ref bm, .int (z2 u)] H (RM bm) (fun v H1 => ∃ (r : Int) (Y : Nat → Nat → Int), ro_pass X u r Y ∧ v = some (.int (z2 r)) ∧ PM D ks bm Y H1) (fun _ _ => False) := by
  refine KM.of (cc := cX5_pass) (maxL := 3) (ret := (some .int)) (by decide) rfl (Nat.le_of_ble_eq_true rfl) ?_
  intro p e s m below meth c hx hb hml hr hlocks hown hname hts hext hH0 hG ls hl
  subst hH0
  have hown : s.vm.findClass RX5 = some m.cls := hown
  have hS : va_S (AR (RM bm) s.heap.size) s.heap s.heap [] := va_S.rf
  have hl : lv_has ls 3 [(0, .ref bm), (1, .int (z2 (u)))] := hl
  have inX5 : ∀ w ∈ wsX50, w ∈ wsX5_pass := by decide +kernel
  have hV0 := hV
  have b0 : 0 ≤ X 0 0 ∧ X 0 0 ≤ 1000000 := hV.1 0 0 (by decide) rfl
  refine lv_aload_n hx hb dX5_pass_0 rfl (lv_at hl 0 rfl) ?_
  refine lv_iload_n hx hb dX5_pass_1 rfl (lv_at hl 1 rfl) ?_
  refine b_iconst hx hb dX5_pass_2 ?_
  refine b_sipush hx hb dX5_pass_3 (by decide +kernel) ?_
  refine g_run (vx_runS (As := [.int (z2 (u)), .int (z2 (1)), .int (z2 (2000))]) (rest := [.ref bm]) ⟨hx, hb, hml, hown, hts⟩ (m_in l D ks bx bm _ (u) (1) (2000) ⟨⟨by omega, by omega⟩, ⟨by omega, by omega⟩, by omega, by omega⟩) (cwS 3 hts gX5_pass_X5_in rfl rfl rfl (by decide +kernel) ⟨Nat.le_of_ble_eq_true rfl, Nat.le_of_ble_eq_true rfl⟩) (g_preS hG hS (rm_ge hbm)) rfl rfl hl.1 rfl (lv_room (Nat.le_of_ble_eq_true rfl)) dX5_pass_6 ⟨Nat.le_of_ble_eq_true rfl, Nat.le_of_ble_eq_true rfl⟩) hS (fun _ h => h) (fun _ _ _ _ _ h => h.elim) (fun v H1 locs hp hz9 hk9 hS => ?_)
  obtain ⟨rfl, hH9⟩ := hp
  obtain rfl := hH9.symm
  obtain ⟨iv_6, ev_6, ib_6⟩ : ∃ z : Int, z = (if 1 ≤ u ∧ u ≤ 2000 then 1 else 0) ∧ (((1 ≤ u ∧ u ≤ 2000) ∧ z = 1) ∨ (¬ (1 ≤ u ∧ u ≤ 2000) ∧ z = 0)) := ⟨_, rfl, by split <;> omega⟩
  rw [← ev_6]
  refine W.eq (g2 := F0 m 9 ls [.int (z2 (iv_6)), .ref bm]) rfl ?_
  refine b_if_ne (tgt := 16) hx hb dX5_pass_9 (by decide) ⟨by omega, by omega⟩ (fun c_9 => ?_) (fun c_9 => ?_)
  · skip
    refine lv_aload_n hx hb dX5_pass_16 rfl (lv_at hl 0 rfl) ?_
    have b_17 : 0 ≤ X 0 0 ∧ X 0 0 ≤ 1000000 := hV.1 0 _ (by decide) rfl
    refine g_get (C := RX5) (T := TX5) (N := 23) hx hb hts inX5 hown hG hM.1 rfl 0 (by decide) (by decide +kernel) rfl (v := .int (z2 (X 0 0))) rfl dX5_pass_17 ?_
    refine lv_iload_n hx hb dX5_pass_20 rfl (lv_at hl 1 rfl) ?_
    refine b_iadd hx hb dX5_pass_21 ?_
    refine lv_ldc (v := z2 1000000) hx hb hown (hts _ (by decide +kernel)) dX5_pass_22 ?_
    refine b_icmp_le (tgt := 31) hx hb dX5_pass_24 (by decide) ⟨⟨by omega, by omega⟩, ⟨by omega, by omega⟩⟩ (fun c_24 => ?_) (fun c_24 => ?_)
    · skip
      refine b_iconst hx hb dX5_pass_31 ?_
      refine g_put (C := RX5) (T := TX5) (N := 23) hx hb hts inX5 tyX5 tyX5_ok nmX5 hown hG hS hM.1 (Or.inl ⟨by omega, by omega⟩) rfl 22 (by decide) (by decide +kernel) rfl rfl (v := .int (z2 (0))) rfl rfl (Nat.le_of_ble_eq_true rfl) dX5_pass_32 (fun H locs he hz oq hS => ?_)
      have hM : PM D ks bm (up X 22 0 (0)) H := hM.own (k := 22) (by decide) he oq
      refine lv_aload_n hx hb dX5_pass_35 rfl (lv_at hl 0 rfl) ?_
      refine g_get (C := RX5) (T := TX5) (N := 23) hx hb hts inX5 hown hG hM.1 rfl 22 (by decide) (by decide +kernel) rfl (v := .int (z2 (0))) (congrArg (fun z => some (Value.int (z2 z))) (by simp [up] : (up X 22 0 (0)) 22 0 = 0)) dX5_pass_36 ?_
      refine b_if_le (tgt := 44) hx hb dX5_pass_39 (by decide) ⟨by omega, by omega⟩ (fun _ => ?_) (fun c => absurd c (by omega))
      refine b_iconst hx hb dX5_pass_44 ?_
      refine lv_istore_n (lv' := [(2, .int (z2 (0))), (0, .ref bm), (1, .int (z2 (u)))]) hx hb dX5_pass_45 rfl hl (by decide) rfl (fun ls hl => ?_)
      refine lp_ms (σ := Nat) (fun j H locs ls => j ≤ u.toNat ∧ PM D ks bm (seN (up X 22 0 (0)) j) H ∧ va_S (AR (RM bm) s.heap.size) s.heap H locs ∧ lv_has ls 3 [(0, .ref bm), (1, .int (z2 (u))), (2, .int (z2 (((j : Nat) : Int))))]) (fun j => u.toNat - j) (fun j H locs ls hI ih => ?_) 0 ⟨by omega, hM, hS, lv_sub hl [1, 2, 0] rfl⟩
      obtain ⟨hkN, hM, hS, hl⟩ := hI
      have t0 := seN_0 (up X 22 0 (0)) j
      have t1 : up X 22 0 (0) 0 0 = X 0 0 := up_f _ _ _ _ (by decide)
      have hV := vs_seN (vs_uf (f := 22) (i := 0) (v := 0) hV0 (by decide)) j (by omega)
      refine lv_iload_n hx hb dX5_pass_46 rfl (lv_at hl 2 rfl) ?_
      refine lv_iload_n hx hb dX5_pass_47 rfl (lv_at hl 1 rfl) ?_
      refine b_icmp_ge (tgt := 61) hx hb dX5_pass_48 (by decide) ⟨⟨by omega, by omega⟩, ⟨by omega, by omega⟩⟩ (fun c_48 => ?_) (fun c_48 => ?_)
      · skip
        refine lv_aload_n hx hb dX5_pass_61 rfl (lv_at hl 0 rfl) ?_
        have b_62 : 0 ≤ ((seN (up X 22 0 (0)) j)) 0 0 ∧ ((seN (up X 22 0 (0)) j)) 0 0 ≤ 1000000 := hV.1 0 _ (by decide) rfl
        refine g_get (C := RX5) (T := TX5) (N := 23) hx hb hts inX5 hown hG hM.1 rfl 0 (by decide) (by decide +kernel) rfl (v := .int (z2 (((seN (up X 22 0 (0)) j)) 0 0))) rfl dX5_pass_62 ?_
        exact g_iret hx hb hr hlocks hS ⟨Nat.le_of_ble_eq_true rfl, Nat.le_of_ble_eq_true rfl⟩ (⟨((seN (up X 22 0 (0)) j)) 0 0, (seN (up X 22 0 (0)) j), Or.inl (⟨j, by omega, rfl, rfl⟩), rfl, hM⟩) dX5_pass_65
      · skip
        refine lv_aload_n hx hb dX5_pass_51 rfl (lv_at hl 0 rfl) ?_
        refine g_run (vx_runV (As := []) (rest := []) ⟨hx, hb, hml, hown, hts⟩ (m_second l D ks bx bm hbm (seN (up X 22 0 (0)) j) _ hM hV (by omega)) (cwV 0 hts gX5_pass_X5_second rfl rfl rfl (by decide +kernel) ⟨Nat.le_of_ble_eq_true rfl, Nat.le_of_ble_eq_true rfl⟩) (g_preV (r := (RX5, TX5, 23)) hG hS (rm_ge hbm) hM.1 rfl) rfl rfl hl.1 rfl (lv_room (Nat.le_of_ble_eq_true rfl)) dX5_pass_52 ⟨Nat.le_of_ble_eq_true rfl, Nat.le_of_ble_eq_true rfl⟩) hS (fun _ h => h) (fun _ _ _ _ _ h => h.elim) (fun v H1 locs hp hz9 hk9 hS => ?_)
        obtain ⟨rfl, hM⟩ := hp
        refine W.eq (g2 := F0 m 55 ls []) rfl ?_
        refine b_iinc (lv' := [(2, .int (z2 (((j : Nat) : Int) + 1))), (0, .ref bm), (1, .int (z2 (u)))]) hx hb dX5_pass_55 hl (k := 2) rfl (by decide) rfl (fun ls hl => ?_)
        refine lv_goto (tgt := 46) hx hb dX5_pass_58 (by decide) ?_
        exact ih (j + 1) _ _ _ (by omega) ⟨by omega, hM, hS, lv_sub hl [1, 2, 0] rfl⟩
    · skip
      refine b_iconst hx hb dX5_pass_27 ?_
      refine lv_goto (tgt := 32) hx hb dX5_pass_28 (by decide) ?_
      refine g_put (C := RX5) (T := TX5) (N := 23) hx hb hts inX5 tyX5 tyX5_ok nmX5 hown hG hS hM.1 (Or.inl ⟨by omega, by omega⟩) rfl 22 (by decide) (by decide +kernel) rfl rfl (v := .int (z2 (2))) rfl rfl (Nat.le_of_ble_eq_true rfl) dX5_pass_32 (fun H locs he hz oq hS => ?_)
      have hM : PM D ks bm (up X 22 0 (2)) H := hM.own (k := 22) (by decide) he oq
      refine lv_aload_n hx hb dX5_pass_35 rfl (lv_at hl 0 rfl) ?_
      refine g_get (C := RX5) (T := TX5) (N := 23) hx hb hts inX5 hown hG hM.1 rfl 22 (by decide) (by decide +kernel) rfl (v := .int (z2 (2))) (congrArg (fun z => some (Value.int (z2 z))) (by simp [up] : (up X 22 0 (2)) 22 0 = 2)) dX5_pass_36 ?_
      refine b_if_le (tgt := 44) hx hb dX5_pass_39 (by decide) ⟨by omega, by omega⟩ (fun c => absurd c (by omega)) (fun _ => ?_)
      refine b_iconst hx hb dX5_pass_42 ?_
      exact g_iret hx hb hr hlocks hS ⟨Nat.le_of_ble_eq_true rfl, Nat.le_of_ble_eq_true rfl⟩ (⟨0, up X 22 0 (2), Or.inr (Or.inr (⟨by omega, rfl⟩)), rfl, hM⟩) dX5_pass_43
  · skip
    refine b_iconst hx hb dX5_pass_12 ?_
    refine lv_goto (tgt := 32) hx hb dX5_pass_13 (by decide) ?_
    refine g_put (C := RX5) (T := TX5) (N := 23) hx hb hts inX5 tyX5 tyX5_ok nmX5 hown hG hS hM.1 (Or.inl ⟨by omega, by omega⟩) rfl 22 (by decide) (by decide +kernel) rfl rfl (v := .int (z2 (1))) rfl rfl (Nat.le_of_ble_eq_true rfl) dX5_pass_32 (fun H locs he hz oq hS => ?_)
    have hM : PM D ks bm (up X 22 0 (1)) H := hM.own (k := 22) (by decide) he oq
    refine lv_aload_n hx hb dX5_pass_35 rfl (lv_at hl 0 rfl) ?_
    refine g_get (C := RX5) (T := TX5) (N := 23) hx hb hts inX5 hown hG hM.1 rfl 22 (by decide) (by decide +kernel) rfl (v := .int (z2 (1))) (congrArg (fun z => some (Value.int (z2 z))) (by simp [up] : (up X 22 0 (1)) 22 0 = 1)) dX5_pass_36 ?_
    refine b_if_le (tgt := 44) hx hb dX5_pass_39 (by decide) ⟨by omega, by omega⟩ (fun c => absurd c (by omega)) (fun _ => ?_)
    refine b_iconst hx hb dX5_pass_42 ?_
    exact g_iret hx hb hr hlocks hS ⟨Nat.le_of_ble_eq_true rfl, Nat.le_of_ble_eq_true rfl⟩ (⟨0, up X 22 0 (1), Or.inr (Or.inl (⟨by omega, rfl⟩)), rfl, hM⟩) dX5_pass_43
set_option maxHeartbeats 4000000 in
set_option maxRecDepth 100000 in
theorem m_time (l : Launch) (D : va_G) (ks : Nat → ClassId) (bx : Nat) (bm : Nat) (hbm : bx ≤ bm) (X : Nat → Nat → Int) (H : Heap) (hM : PM D ks bm X H) (hV : VS X) : KM l yX5_time wsX5_time ({ frames := 0, cells := 0, slots := 0, locals := 0 } : Room) D ks bx [.ref bm] H (RM bm) (fun v H1 => v = some (.int (z2 (X 0 0))) ∧ PM D ks bm (up X 22 0 0) H1) (fun _ _ => False) := by
  refine KM.of (cc := cX5_time) (maxL := 1) (ret := (some .int)) (by decide) rfl (Nat.le_of_ble_eq_true rfl) ?_
  intro p e s m below meth c hx hb hml hr hlocks hown hname hts hext hH0 hG ls hl
  subst hH0
  have hown : s.vm.findClass RX5 = some m.cls := hown
  have hS : va_S (AR (RM bm) s.heap.size) s.heap s.heap [] := va_S.rf
  have hl : lv_has ls 1 [(0, .ref bm)] := hl
  have inX5 : ∀ w ∈ wsX50, w ∈ wsX5_time := by decide +kernel
  refine lv_aload_n hx hb dX5_time_0 rfl (lv_at hl 0 rfl) ?_
  refine b_iconst hx hb dX5_time_1 ?_
  refine g_put (C := RX5) (T := TX5) (N := 23) hx hb hts inX5 tyX5 tyX5_ok nmX5 hown hG hS hM.1 (Or.inl ⟨by omega, by omega⟩) rfl 22 (by decide) (by decide +kernel) rfl rfl (v := .int (z2 (0))) rfl rfl (Nat.le_of_ble_eq_true rfl) dX5_time_2 (fun H locs he hz oq hS => ?_)
  have hM : PM D ks bm (up X 22 0 (0)) H := hM.own (k := 22) (by decide) he oq
  refine lv_aload_n hx hb dX5_time_5 rfl (lv_at hl 0 rfl) ?_
  have b_6 : 0 ≤ X 0 0 ∧ X 0 0 ≤ 1000000 := hV.1 0 _ (by decide) rfl
  refine g_get (C := RX5) (T := TX5) (N := 23) hx hb hts inX5 hown hG hM.1 rfl 0 (by decide) (by decide +kernel) rfl (v := .int (z2 (X 0 0))) rfl dX5_time_6 ?_
  exact g_iret hx hb hr hlocks hS ⟨Nat.le_of_ble_eq_true rfl, Nat.le_of_ble_eq_true rfl⟩ (⟨rfl, hM⟩) dX5_time_9
set_option maxHeartbeats 4000000 in
set_option maxRecDepth 100000 in
theorem m_faults (l : Launch) (D : va_G) (ks : Nat → ClassId) (bx : Nat) (bm : Nat) (hbm : bx ≤ bm) (X : Nat → Nat → Int) (H : Heap) (hM : PM D ks bm X H) (hV : VS X) : KM l yX5_faults wsX5_faults ({ frames := 0, cells := 0, slots := 0, locals := 0 } : Room) D ks bx [.ref bm] H (RM bm) (fun v H1 => v = some (.int (z2 (X 20 0))) ∧ PM D ks bm (up X 22 0 0) H1) (fun _ _ => False) := by
  refine KM.of (cc := cX5_faults) (maxL := 1) (ret := (some .int)) (by decide) rfl (Nat.le_of_ble_eq_true rfl) ?_
  intro p e s m below meth c hx hb hml hr hlocks hown hname hts hext hH0 hG ls hl
  subst hH0
  have hown : s.vm.findClass RX5 = some m.cls := hown
  have hS : va_S (AR (RM bm) s.heap.size) s.heap s.heap [] := va_S.rf
  have hl : lv_has ls 1 [(0, .ref bm)] := hl
  have inX5 : ∀ w ∈ wsX50, w ∈ wsX5_faults := by decide +kernel
  refine lv_aload_n hx hb dX5_faults_0 rfl (lv_at hl 0 rfl) ?_
  refine b_iconst hx hb dX5_faults_1 ?_
  refine g_put (C := RX5) (T := TX5) (N := 23) hx hb hts inX5 tyX5 tyX5_ok nmX5 hown hG hS hM.1 (Or.inl ⟨by omega, by omega⟩) rfl 22 (by decide) (by decide +kernel) rfl rfl (v := .int (z2 (0))) rfl rfl (Nat.le_of_ble_eq_true rfl) dX5_faults_2 (fun H locs he hz oq hS => ?_)
  have hM : PM D ks bm (up X 22 0 (0)) H := hM.own (k := 22) (by decide) he oq
  refine lv_aload_n hx hb dX5_faults_5 rfl (lv_at hl 0 rfl) ?_
  have b_6 : 0 ≤ X 20 0 ∧ X 20 0 ≤ 100 := hV.1 20 _ (by decide) rfl
  refine g_get (C := RX5) (T := TX5) (N := 23) hx hb hts inX5 hown hG hM.1 rfl 20 (by decide) (by decide +kernel) rfl (v := .int (z2 (X 20 0))) rfl dX5_faults_6 ?_
  exact g_iret hx hb hr hlocks hS ⟨Nat.le_of_ble_eq_true rfl, Nat.le_of_ble_eq_true rfl⟩ (⟨rfl, hM⟩) dX5_faults_9
