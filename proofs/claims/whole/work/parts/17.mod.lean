/-! THE REFERENCE: its public methods. -/
def ro_license (X : Nat → Nat → Int) (u v2 u3 : Int) (r : Int) (Y : Nat → Nat → Int) : Prop := (∃ n k : Nat, ((u = n ∧ n < 8) ∧ (v2 = k ∧ (k : Int) < X 1 0) ∧ 1 ≤ u3 ∧ u3 ≤ 1000 ∧ X 2 k ≠ n ∧ X 8 (12 * n + k) + u3 ≤ 1000) ∧ r = X 8 (12 * n + k) + u3 ∧ Y = up (up X 22 0 0) 8 (12 * n + k) (X 8 (12 * n + k) + u3)) ∨ ((¬ ((0 ≤ u ∧ u < 8) ∧ (0 ≤ v2 ∧ v2 < X 1 0))) ∧ Y = up X 22 0 1) ∨ (((0 ≤ u ∧ u < 8) ∧ (0 ≤ v2 ∧ v2 < X 1 0) ∧ ¬ (1 ≤ u3 ∧ u3 ≤ 1000)) ∧ Y = up X 22 0 2) ∨ ((∃ n k : Nat, ((u = n ∧ n < 8) ∧ (v2 = k ∧ (k : Int) < X 1 0) ∧ 1 ≤ u3 ∧ u3 ≤ 1000 ∧ (X 2 k = n ∨ 1000 < X 8 (12 * n + k) + u3))) ∧ Y = up (up X 22 0 0) 22 0 3)
def ro_setQuiet (X : Nat → Nat → Int) (u v2 u3 : Int) (r : Int) (Y : Nat → Nat → Int) : Prop := (∃ n : Nat, ((u = n ∧ n < 8) ∧ (0 ≤ v2 ∧ v2 < 1000 ∧ 0 ≤ u3 ∧ u3 < 1000)) ∧ r = qM (up (up (up X 22 0 0) 9 n v2) 10 n u3) n ∧ Y = (up (up (up X 22 0 0) 9 n v2) 10 n u3)) ∨ ((¬ (0 ≤ u ∧ u < 8)) ∧ Y = up X 22 0 1) ∨ (((0 ≤ u ∧ u < 8) ∧ ¬ (0 ≤ v2 ∧ v2 < 1000 ∧ 0 ≤ u3 ∧ u3 < 1000)) ∧ Y = up X 22 0 2)
def ro_lay (X : Nat → Nat → Int) (u v2 u3 u4 : Int) (r : Int) (Y : Nat → Nat → Int) : Prop := (∃ n b : Nat, ((u = n ∧ n < 8) ∧ (v2 = b ∧ b < 3) ∧ (u3 = -1 ∨ (0 ≤ u3 ∧ u3 < X 1 0)) ∧ 1 ≤ u4 ∧ u4 ≤ 9) ∧ r = X 5 (3 * n + b) - 1 ∧ Y = up (up (up (up X 22 0 0) 5 (3 * n + b) (u3 + 1)) 6 (3 * n + b) u4) 7 (3 * n + b) 0) ∨ ((¬ ((0 ≤ u ∧ u < 8) ∧ (0 ≤ v2 ∧ v2 < 3) ∧ (u3 = -1 ∨ (0 ≤ u3 ∧ u3 < X 1 0)))) ∧ Y = up X 22 0 1) ∨ ((((0 ≤ u ∧ u < 8) ∧ (0 ≤ v2 ∧ v2 < 3) ∧ (u3 = -1 ∨ (0 ≤ u3 ∧ u3 < X 1 0))) ∧ ¬ (1 ≤ u4 ∧ u4 ≤ 9)) ∧ Y = up X 22 0 2)
def ro_press (X : Nat → Nat → Int) (u v2 : Int) (r : Int) (Y : Nat → Nat → Int) : Prop := (∃ n b k : Nat, ((u = n ∧ n < 8) ∧ (v2 = b ∧ b < 3) ∧ X 5 (3 * n + b) = k + 1) ∧ r = pmV X n (3 * n + b) k ∧ Y = pmS X (up X 22 0 0) n (3 * n + b) k) ∨ ((¬ ((0 ≤ u ∧ u < 8) ∧ 0 ≤ v2 ∧ v2 < 3)) ∧ Y = up X 22 0 1) ∨ ((∃ n b : Nat, (u = n ∧ n < 8) ∧ (v2 = b ∧ b < 3) ∧ X 5 (3 * n + b) = 0) ∧ Y = up (up X 22 0 0) 22 0 2)
def ro_fault (X : Nat → Nat → Int) (u : Int) (r : Int) (Y : Nat → Nat → Int) : Prop := (∃ n : Nat, ((u = n ∧ n < 8) ∧ X 11 n ≠ 1 ∧ X 20 0 ≠ 100) ∧ r = flN (up X 22 0 0) n 12 ∧ Y = fmR (up X 22 0 0) n) ∨ ((¬ (0 ≤ u ∧ u < 8)) ∧ Y = up X 22 0 1) ∨ ((∃ n : Nat, (u = n ∧ n < 8) ∧ (X 11 n = 1 ∨ X 20 0 = 100)) ∧ Y = up X 22 0 2)
def ro_repair (X : Nat → Nat → Int) (u : Int) (r : Int) (Y : Nat → Nat → Int) : Prop := (∃ n : Nat, ((u = n ∧ n < 8) ∧ X 11 n ≠ 0 ∧ X 18 (n / 4) ≤ 0) ∧ r = X 0 0 + 50 ∧ Y = up (up (up X 22 0 0) 18 (n / 4) (X 0 0 + 50)) 19 (n / 4) n) ∨ ((¬ (0 ≤ u ∧ u < 8)) ∧ Y = up X 22 0 1) ∨ ((∃ n : Nat, (u = n ∧ n < 8) ∧ (X 11 n = 0 ∨ 0 < X 18 (n / 4))) ∧ Y = up (up X 22 0 0) 22 0 2)
def ro_pass (X : Nat → Nat → Int) (u : Int) (r : Int) (Y : Nat → Nat → Int) : Prop := (∃ w : Nat, ((1 ≤ u ∧ u ≤ 2000) ∧ X 0 0 + u ≤ 1000000 ∧ u = w) ∧ r = seN (up X 22 0 0) w 0 0 ∧ Y = seN (up X 22 0 0) w) ∨ ((¬ (1 ≤ u ∧ u ≤ 2000)) ∧ Y = up X 22 0 1) ∨ (((1 ≤ u ∧ u ≤ 2000) ∧ 1000000 < X 0 0 + u) ∧ Y = up X 22 0 2)
def ro_points (X : Nat → Nat → Int) (u : Int) (r : Int) (Y : Nat → Nat → Int) : Prop := (∃ n : Nat, (u = n ∧ n < 8) ∧ r = X 12 n ∧ Y = (up X 22 0 0)) ∨ ((¬ (0 ≤ u ∧ u < 8)) ∧ Y = up X 22 0 1)
def ro_secondsRung (X : Nat → Nat → Int) (u : Int) (r : Int) (Y : Nat → Nat → Int) : Prop := (∃ n : Nat, (u = n ∧ n < 8) ∧ r = X 13 n ∧ Y = (up X 22 0 0)) ∨ ((¬ (0 ≤ u ∧ u < 8)) ∧ Y = up X 22 0 1)
def ro_quietBroken (X : Nat → Nat → Int) (u : Int) (r : Int) (Y : Nat → Nat → Int) : Prop := (∃ n : Nat, (u = n ∧ n < 8) ∧ r = X 14 n ∧ Y = (up X 22 0 0)) ∨ ((¬ (0 ≤ u ∧ u < 8)) ∧ Y = up X 22 0 1)
def ro_hushed (X : Nat → Nat → Int) (u : Int) (r : Int) (Y : Nat → Nat → Int) : Prop := (∃ n : Nat, (u = n ∧ n < 8) ∧ r = X 15 n ∧ Y = (up X 22 0 0)) ∨ ((¬ (0 ≤ u ∧ u < 8)) ∧ Y = up X 22 0 1)
def ro_isSound (X : Nat → Nat → Int) (u : Int) (r : Int) (Y : Nat → Nat → Int) : Prop := (∃ n : Nat, (u = n ∧ n < 8) ∧ r = (if X 11 n = 0 then 1 else 0) ∧ Y = (up X 22 0 0)) ∨ ((¬ (0 ≤ u ∧ u < 8)) ∧ Y = up X 22 0 1)
def ro_ringing (X : Nat → Nat → Int) (u : Int) (r : Int) (Y : Nat → Nat → Int) : Prop := (∃ n : Nat, (u = n ∧ n < 8) ∧ r = rsM X n ∧ Y = (up X 22 0 0)) ∨ ((¬ (0 ≤ u ∧ u < 8)) ∧ Y = up X 22 0 1)
def ro_ringsLeft (X : Nat → Nat → Int) (u v2 : Int) (r : Int) (Y : Nat → Nat → Int) : Prop := (∃ n k : Nat, ((u = n ∧ n < 8) ∧ v2 = k ∧ (k : Int) < X 1 0) ∧ r = (if X 2 k = n then -1 else X 8 (12 * n + k)) ∧ Y = (up X 22 0 0)) ∨ ((¬ ((0 ≤ u ∧ u < 8) ∧ (0 ≤ v2 ∧ v2 < X 1 0))) ∧ Y = up X 22 0 1)
def ro_faultAt (X : Nat → Nat → Int) (u : Int) (r : Int) (Y : Nat → Nat → Int) : Prop := (∃ q : Nat, (u = q ∧ (q : Int) < X 20 0) ∧ r = X 21 q ∧ Y = (up X 22 0 0)) ∨ ((¬ (0 ≤ u ∧ u < X 20 0)) ∧ Y = up X 22 0 1)
def ro_toneAt (X : Nat → Nat → Int) (u v2 : Int) (r : Int) (Y : Nat → Nat → Int) : Prop := (∃ k q : Nat, ((u = k ∧ (k : Int) < X 1 0) ∧ v2 = q ∧ (q : Int) < X 3 k) ∧ r = toS (X 4 k) q ∧ Y = (up X 22 0 0)) ∨ ((¬ (0 ≤ u ∧ u < X 1 0)) ∧ Y = up X 22 0 1) ∨ ((∃ k : Nat, (u = k ∧ (k : Int) < X 1 0) ∧ ¬ (0 ≤ v2 ∧ v2 < X 3 k)) ∧ Y = up (up X 22 0 0) 22 0 1)
def ro_shifted (X : Nat → Nat → Int) (u v2 : Int) (r : Int) (Y : Nat → Nat → Int) : Prop := (∃ k cn : Nat, ((u = k ∧ (k : Int) < X 1 0) ∧ X 3 k = cn ∧ 0 ≤ v2 ∧ v2 ≤ 15) ∧ r = shR (X 4 k) v2 cn cn ∧ Y = (up X 22 0 0)) ∨ ((¬ (0 ≤ u ∧ u < X 1 0)) ∧ Y = up X 22 0 1) ∨ (((0 ≤ u ∧ u < X 1 0) ∧ ¬ (0 ≤ v2 ∧ v2 ≤ 15)) ∧ Y = up (up X 22 0 0) 22 0 2)
def ro_turned (X : Nat → Nat → Int) (u : Int) (r : Int) (Y : Nat → Nat → Int) : Prop := (∃ k cn : Nat, ((u = k ∧ (k : Int) < X 1 0) ∧ X 3 k = cn) ∧ r = tuR (X 4 k) cn ∧ Y = (up X 22 0 0)) ∨ ((¬ (0 ≤ u ∧ u < X 1 0)) ∧ Y = up X 22 0 1)
def ro_areAlike (X : Nat → Nat → Int) (u v2 : Int) (r : Int) (Y : Nat → Nat → Int) : Prop := (∃ k k2 : Nat, ((u = k ∧ (k : Int) < X 1 0) ∧ v2 = k2 ∧ (k2 : Int) < X 1 0) ∧ r = (if X 3 k = X 3 k2 then alM X k k2 ((X 3 k).toNat - 1) else 0) ∧ Y = (up X 22 0 0)) ∨ ((¬ ((0 ≤ u ∧ u < X 1 0) ∧ (0 ≤ v2 ∧ v2 < X 1 0))) ∧ Y = up X 22 0 1)
def ro_addMelody (X : Nat → Nat → Int) (u v2 t : Int) (r : Int) (Y : Nat → Nat → Int) : Prop := (∃ n cn : Nat, ((u = n ∧ n < 8) ∧ (v2 = cn ∧ 1 ≤ cn ∧ cn ≤ 12) ∧ 0 ≤ t ∧ t / 16 ^ cn = 0 ∧ X 1 0 ≠ 12) ∧ r = X 1 0 ∧ Y = up (up (up (up (up X 22 0 0) 2 (X 1 0).toNat u) 3 (X 1 0).toNat v2) 4 (X 1 0).toNat t) 1 0 (X 1 0 + 1)) ∨ ((¬ (0 ≤ u ∧ u < 8)) ∧ Y = up X 22 0 1) ∨ (((0 ≤ u ∧ u < 8) ∧ ¬ ∃ cn : Nat, (v2 = cn ∧ 1 ≤ cn ∧ cn ≤ 12) ∧ 0 ≤ t ∧ t / 16 ^ cn = 0) ∧ Y = up (up X 22 0 0) 22 0 2) ∨ (((∃ n cn : Nat, ((u = n ∧ n < 8) ∧ (v2 = cn ∧ 1 ≤ cn ∧ cn ≤ 12) ∧ 0 ≤ t ∧ t / 16 ^ cn = 0) ∧ X 1 0 = 12)) ∧ Y = up (up X 22 0 0) 22 0 3)
set_option maxHeartbeats 4000000 in
set_option maxRecDepth 100000 in
theorem m_license (l : Launch) (D : va_G) (ks : Nat → ClassId) (bx : Nat) (bm : Nat) (hbm : bx ≤ bm) (X : Nat → Nat → Int) (H : Heap) (hM : PM D ks bm X H) (hV : VS X) (u v2 u3 : Int) (hu : -2147483648 ≤ u ∧ u < 2147483648) (hv2 : -2147483648 ≤ v2 ∧ v2 < 2147483648) (hu3 : -2147483648 ≤ u3 ∧ u3 < 2147483648) : KM l yX5_license wsX5_license ({ frames := 2, cells := 0, slots := 0, locals := 42 } : Room) D ks bx [.ref bm, .int (z2 u), .int (z2 v2), .int (z2 u3)] H (RM bm) (fun v H1 => ∃ (r : Int) (Y : Nat → Nat → Int), ro_license X u v2 u3 r Y ∧ v = some (.int (z2 r)) ∧ PM D ks bm Y H1) (fun _ _ => False) := by
  refine KM.of (cc := cX5_license) (maxL := 5) (ret := (some .int)) (by decide) rfl (Nat.le_of_ble_eq_true rfl) ?_
  intro p e s m below meth c hx hb hml hr hlocks hown hname hts hext hH0 hG ls hl
  subst hH0
  have hown : s.vm.findClass RX5 = some m.cls := hown
  have hS : va_S (AR (RM bm) s.heap.size) s.heap s.heap [] := va_S.rf
  have hl : lv_has ls 5 [(0, .ref bm), (1, .int (z2 (u))), (2, .int (z2 (v2))), (3, .int (z2 (u3)))] := hl
  have inX5 : ∀ w ∈ wsX50, w ∈ wsX5_license := by decide +kernel
  have b1 : 0 ≤ X 1 0 ∧ X 1 0 ≤ 12 := hV.1 1 0 (by decide) rfl
  refine lv_aload_n hx hb dX5_license_0 rfl (lv_at hl 0 rfl) ?_
  refine lv_iload_n hx hb dX5_license_1 rfl (lv_at hl 1 rfl) ?_
  refine g_run (vx_runS (As := [.int (z2 (u))]) (rest := [.ref bm]) ⟨hx, hb, hml, hown, hts⟩ (m_isHouse l D ks bx bm hbm _ (u) ⟨by omega, by omega⟩) (cwS 1 hts gX5_license_X5_isHouse rfl rfl rfl (by decide +kernel) ⟨Nat.le_of_ble_eq_true rfl, Nat.le_of_ble_eq_true rfl⟩) (g_preS hG hS (rm_ge hbm)) rfl rfl hl.1 rfl (lv_room (Nat.le_of_ble_eq_true rfl)) dX5_license_2 ⟨Nat.le_of_ble_eq_true rfl, Nat.le_of_ble_eq_true rfl⟩) hS (fun _ h => h) (fun _ _ _ _ _ h => h.elim) (fun v H1 locs hp hz9 hk9 hS => ?_)
  obtain ⟨rfl, hH9⟩ := hp
  obtain rfl := hH9.symm
  obtain ⟨iv_2, ev_2, ib_2⟩ : ∃ z : Int, z = (if 0 ≤ u ∧ u ≤ 7 then 1 else 0) ∧ (((0 ≤ u ∧ u ≤ 7) ∧ z = 1) ∨ (¬ (0 ≤ u ∧ u ≤ 7) ∧ z = 0)) := ⟨_, rfl, by split <;> omega⟩
  rw [← ev_2]
  refine W.eq (g2 := F0 m 5 ls [.int (z2 (iv_2)), .ref bm]) rfl ?_
  refine b_if_eq (tgt := 22) hx hb dX5_license_5 (by decide) ⟨by omega, by omega⟩ (fun c_5 => ?_) (fun c_5 => ?_)
  · skip
    refine b_iconst hx hb dX5_license_22 ?_
    refine lv_goto (tgt := 42) hx hb dX5_license_23 (by decide) ?_
    refine g_put (C := RX5) (T := TX5) (N := 23) hx hb hts inX5 tyX5 tyX5_ok nmX5 hown hG hS hM.1 (Or.inl ⟨by omega, by omega⟩) rfl 22 (by decide) (by decide +kernel) rfl rfl (v := .int (z2 (1))) rfl rfl (Nat.le_of_ble_eq_true rfl) dX5_license_42 (fun H locs he hz oq hS => ?_)
    have hM : PM D ks bm (up X 22 0 (1)) H := hM.own (k := 22) (by decide) he oq
    refine lv_aload_n hx hb dX5_license_45 rfl (lv_at hl 0 rfl) ?_
    refine g_get (C := RX5) (T := TX5) (N := 23) hx hb hts inX5 hown hG hM.1 rfl 22 (by decide) (by decide +kernel) rfl (v := .int (z2 (1))) (congrArg (fun z => some (Value.int (z2 z))) (by simp [up] : (up X 22 0 (1)) 22 0 = 1)) dX5_license_46 ?_
    refine b_if_le (tgt := 54) hx hb dX5_license_49 (by decide) ⟨by omega, by omega⟩ (fun c => absurd c (by omega)) (fun _ => ?_)
    refine b_iconst hx hb dX5_license_52 ?_
    exact g_iret hx hb hr hlocks hS ⟨Nat.le_of_ble_eq_true rfl, Nat.le_of_ble_eq_true rfl⟩ (⟨0, up X 22 0 (1), Or.inr (Or.inl (⟨by omega, rfl⟩)), rfl, hM⟩) dX5_license_53
  · skip
    refine lv_iload_n hx hb dX5_license_8 rfl (lv_at hl 2 rfl) ?_
    refine b_iconst hx hb dX5_license_9 ?_
    refine lv_aload_n hx hb dX5_license_10 rfl (lv_at hl 0 rfl) ?_
    have b_11 : 0 ≤ X 1 0 ∧ X 1 0 ≤ 12 := hV.1 1 _ (by decide) rfl
    refine g_get (C := RX5) (T := TX5) (N := 23) hx hb hts inX5 hown hG hM.1 rfl 1 (by decide) (by decide +kernel) rfl (v := .int (z2 (X 1 0))) rfl dX5_license_11 ?_
    refine b_iconst hx hb dX5_license_14 ?_
    refine b_isub hx hb dX5_license_15 ?_
    refine g_run (vx_runS (As := [.int (z2 (v2)), .int (z2 (0)), .int (z2 ((X 1 0) - 1))]) (rest := [.ref bm]) ⟨hx, hb, hml, hown, hts⟩ (m_in l D ks bx bm _ (v2) (0) ((X 1 0) - 1) ⟨⟨by omega, by omega⟩, ⟨by omega, by omega⟩, by omega, by omega⟩) (cwS 3 hts gX5_license_X5_in rfl rfl rfl (by decide +kernel) ⟨Nat.le_of_ble_eq_true rfl, Nat.le_of_ble_eq_true rfl⟩) (g_preS hG hS (rm_ge hbm)) rfl rfl hl.1 rfl (lv_room (Nat.le_of_ble_eq_true rfl)) dX5_license_16 ⟨Nat.le_of_ble_eq_true rfl, Nat.le_of_ble_eq_true rfl⟩) hS (fun _ h => h) (fun _ _ _ _ _ h => h.elim) (fun v H1 locs hp hz9 hk9 hS => ?_)
    obtain ⟨rfl, hH9⟩ := hp
    obtain rfl := hH9.symm
    obtain ⟨iv_16, ev_16, ib_16⟩ : ∃ z : Int, z = (if 0 ≤ v2 ∧ v2 ≤ (X 1 0) - 1 then 1 else 0) ∧ (((0 ≤ v2 ∧ v2 ≤ (X 1 0) - 1) ∧ z = 1) ∨ (¬ (0 ≤ v2 ∧ v2 ≤ (X 1 0) - 1) ∧ z = 0)) := ⟨_, rfl, by split <;> omega⟩
    rw [← ev_16]
    refine W.eq (g2 := F0 m 19 ls [.int (z2 (iv_16)), .ref bm]) rfl ?_
    refine b_if_ne (tgt := 26) hx hb dX5_license_19 (by decide) ⟨by omega, by omega⟩ (fun c_19 => ?_) (fun c_19 => ?_)
    · skip
      refine lv_iload_n hx hb dX5_license_26 rfl (lv_at hl 3 rfl) ?_
      refine b_iconst hx hb dX5_license_27 ?_
      refine b_sipush hx hb dX5_license_28 (by decide +kernel) ?_
      refine g_run (vx_runS (As := [.int (z2 (u3)), .int (z2 (1)), .int (z2 (1000))]) (rest := [.ref bm]) ⟨hx, hb, hml, hown, hts⟩ (m_in l D ks bx bm _ (u3) (1) (1000) ⟨⟨by omega, by omega⟩, ⟨by omega, by omega⟩, by omega, by omega⟩) (cwS 3 hts gX5_license_X5_in rfl rfl rfl (by decide +kernel) ⟨Nat.le_of_ble_eq_true rfl, Nat.le_of_ble_eq_true rfl⟩) (g_preS hG hS (rm_ge hbm)) rfl rfl hl.1 rfl (lv_room (Nat.le_of_ble_eq_true rfl)) dX5_license_31 ⟨Nat.le_of_ble_eq_true rfl, Nat.le_of_ble_eq_true rfl⟩) hS (fun _ h => h) (fun _ _ _ _ _ h => h.elim) (fun v H1 locs hp hz9 hk9 hS => ?_)
      obtain ⟨rfl, hH9⟩ := hp
      obtain rfl := hH9.symm
      obtain ⟨iv_31, ev_31, ib_31⟩ : ∃ z : Int, z = (if 1 ≤ u3 ∧ u3 ≤ 1000 then 1 else 0) ∧ (((1 ≤ u3 ∧ u3 ≤ 1000) ∧ z = 1) ∨ (¬ (1 ≤ u3 ∧ u3 ≤ 1000) ∧ z = 0)) := ⟨_, rfl, by split <;> omega⟩
      rw [← ev_31]
      refine W.eq (g2 := F0 m 34 ls [.int (z2 (iv_31)), .ref bm]) rfl ?_
      refine b_if_ne (tgt := 41) hx hb dX5_license_34 (by decide) ⟨by omega, by omega⟩ (fun c_34 => ?_) (fun c_34 => ?_)
      · skip
        refine b_iconst hx hb dX5_license_41 ?_
        refine g_put (C := RX5) (T := TX5) (N := 23) hx hb hts inX5 tyX5 tyX5_ok nmX5 hown hG hS hM.1 (Or.inl ⟨by omega, by omega⟩) rfl 22 (by decide) (by decide +kernel) rfl rfl (v := .int (z2 (0))) rfl rfl (Nat.le_of_ble_eq_true rfl) dX5_license_42 (fun H locs he hz oq hS => ?_)
        have hM : PM D ks bm (up X 22 0 (0)) H := hM.own (k := 22) (by decide) he oq
        refine lv_aload_n hx hb dX5_license_45 rfl (lv_at hl 0 rfl) ?_
        refine g_get (C := RX5) (T := TX5) (N := 23) hx hb hts inX5 hown hG hM.1 rfl 22 (by decide) (by decide +kernel) rfl (v := .int (z2 (0))) (congrArg (fun z => some (Value.int (z2 z))) (by simp [up] : (up X 22 0 (0)) 22 0 = 0)) dX5_license_46 ?_
        refine b_if_le (tgt := 54) hx hb dX5_license_49 (by decide) ⟨by omega, by omega⟩ (fun _ => ?_) (fun c => absurd c (by omega))
        obtain ⟨n, rfl⟩ : ∃ n : Nat, u = n := ⟨(u).toNat, by omega⟩
        obtain ⟨k, rfl⟩ : ∃ k : Nat, v2 = k := ⟨(v2).toNat, by omega⟩
        refine b_bipush hx hb dX5_license_54 (by decide +kernel) ?_
        refine lv_iload_n hx hb dX5_license_56 rfl (lv_at hl 1 rfl) ?_
        refine b_imul hx hb dX5_license_57 ?_
        refine lv_iload_n hx hb dX5_license_58 rfl (lv_at hl 2 rfl) ?_
        refine b_iadd hx hb dX5_license_59 ?_
        refine lv_istore (lv' := [(4, .int (z2 ((12 * ((n : Nat) : Int)) + ((k : Nat) : Int)))), (0, .ref bm), (1, .int (z2 (((n : Nat) : Int)))), (2, .int (z2 (((k : Nat) : Int)))), (3, .int (z2 (u3)))]) hx hb dX5_license_60 hl (by decide) rfl (fun ls hl => ?_)
        refine lv_aload_n hx hb dX5_license_62 rfl (lv_at hl 1 rfl) ?_
        refine g_get (C := RX5) (T := TX5) (N := 23) hx hb hts inX5 hown hG hM.1 rfl 2 (by decide) (by decide +kernel) rfl (v := .ref (bm + 1)) rfl dX5_license_63 ?_
        refine lv_iload_n hx hb dX5_license_66 rfl (lv_at hl 3 rfl) ?_
        have b_67 : 0 ≤ X 2 k ∧ X 2 k ≤ 7 := hV.1 2 _ (by decide) rfl
        refine g_iald (n := 12) hx hb hG (f := fun i => z2 ((up X 22 0 (0)) 2 i)) (show ca D (bm + 1) (iA (ks 0) 12 (fun i => z2 ((up X 22 0 (0)) 2 i))) _ from hM.2.1 2 (sr_of (by decide))) k ⟨by omega, by omega, by decide⟩ dX5_license_67 ?_
        refine W.eq (g2 := F0 m 68 ls (.int (z2 (X 2 k)) :: [])) rfl ?_
        refine lv_iload_n hx hb dX5_license_68 rfl (lv_at hl 2 rfl) ?_
        refine b_icmp_eq (tgt := 87) hx hb dX5_license_69 (by decide) ⟨⟨by omega, by omega⟩, ⟨by omega, by omega⟩⟩ (fun c_69 => ?_) (fun c_69 => ?_)
        · skip
          refine lv_aload_n hx hb dX5_license_87 rfl (lv_at hl 1 rfl) ?_
          refine b_iconst hx hb dX5_license_88 ?_
          refine g_run (vx_runV (As := [.int (z2 (3))]) (rest := []) ⟨hx, hb, hml, hown, hts⟩ (m_fails l D ks bx bm hbm (up X 22 0 (0)) _ hM (vs_uf (hV) (by decide)) (3)) (cwV 1 hts gX5_license_X5_fails rfl rfl rfl (by decide +kernel) ⟨Nat.le_of_ble_eq_true rfl, Nat.le_of_ble_eq_true rfl⟩) (g_preV (r := (RX5, TX5, 23)) hG hS (rm_ge hbm) hM.1 rfl) rfl rfl hl.1 rfl (lv_room (Nat.le_of_ble_eq_true rfl)) dX5_license_89 ⟨Nat.le_of_ble_eq_true rfl, Nat.le_of_ble_eq_true rfl⟩) hS (fun _ h => h) (fun _ _ _ _ _ h => h.elim) (fun v H1 locs hp hz9 hk9 hS => ?_)
          obtain ⟨rfl, hM⟩ := hp
          refine W.eq (g2 := F0 m 92 ls [.int (z2 (0))]) rfl ?_
          exact g_iret hx hb hr hlocks hS ⟨Nat.le_of_ble_eq_true rfl, Nat.le_of_ble_eq_true rfl⟩ (⟨0, (up (up X 22 0 (0)) 22 0 (3)), Or.inr (Or.inr (Or.inr (⟨⟨n, k, by omega⟩, rfl⟩))), rfl, hM⟩) dX5_license_92
        · skip
          refine lv_aload_n hx hb dX5_license_72 rfl (lv_at hl 1 rfl) ?_
          refine g_get (C := RX5) (T := TX5) (N := 23) hx hb hts inX5 hown hG hM.1 rfl 8 (by decide) (by decide +kernel) rfl (v := .ref (bm + 7)) rfl dX5_license_73 ?_
          refine lv_iload hx hb dX5_license_76 (lv_at hl 0 rfl) ?_
          have b_78 : 0 ≤ X 8 (12 * n + k) ∧ X 8 (12 * n + k) ≤ 1000 := hV.1 8 _ (by decide) rfl
          refine g_iald (n := 96) hx hb hG (f := fun i => z2 ((up X 22 0 (0)) 8 i)) (show ca D (bm + 7) (iA (ks 0) 96 (fun i => z2 ((up X 22 0 (0)) 8 i))) _ from hM.2.1 8 (sr_of (by decide))) (12 * n + k) ⟨by omega, by omega, by decide⟩ dX5_license_78 ?_
          refine W.eq (g2 := F0 m 79 ls (.int (z2 (X 8 (12 * n + k))) :: [])) rfl ?_
          refine lv_iload_n hx hb dX5_license_79 rfl (lv_at hl 4 rfl) ?_
          refine b_iadd hx hb dX5_license_80 ?_
          refine b_sipush hx hb dX5_license_81 (by decide +kernel) ?_
          refine b_icmp_le (tgt := 93) hx hb dX5_license_84 (by decide) ⟨⟨by omega, by omega⟩, ⟨by omega, by omega⟩⟩ (fun c_84 => ?_) (fun c_84 => ?_)
          · skip
            refine lv_aload_n hx hb dX5_license_93 rfl (lv_at hl 1 rfl) ?_
            refine g_get (C := RX5) (T := TX5) (N := 23) hx hb hts inX5 hown hG hM.1 rfl 8 (by decide) (by decide +kernel) rfl (v := .ref (bm + 7)) rfl dX5_license_94 ?_
            refine lv_iload hx hb dX5_license_97 (lv_at hl 0 rfl) ?_
            refine lv_dup2_11 hx hb dX5_license_99 rfl rfl ?_
            have b_100 : 0 ≤ X 8 (12 * n + k) ∧ X 8 (12 * n + k) ≤ 1000 := hV.1 8 _ (by decide) rfl
            refine g_iald (n := 96) hx hb hG (f := fun i => z2 ((up X 22 0 (0)) 8 i)) (show ca D (bm + 7) (iA (ks 0) 96 (fun i => z2 ((up X 22 0 (0)) 8 i))) _ from hM.2.1 8 (sr_of (by decide))) (12 * n + k) ⟨by omega, by omega, by decide⟩ dX5_license_100 ?_
            refine W.eq (g2 := F0 m 101 ls (.int (z2 (X 8 (12 * n + k))) :: [.int (z2 ((12 * ((n : Nat) : Int)) + ((k : Nat) : Int))), .ref (bm + 7)])) rfl ?_
            refine lv_iload_n hx hb dX5_license_101 rfl (lv_at hl 4 rfl) ?_
            refine b_iadd hx hb dX5_license_102 ?_
            refine g_iast (n := 96) hx hb hG hS (f := fun i => z2 ((up X 22 0 (0)) 8 i)) (show ca D (bm + 7) (iA (ks 0) 96 (fun i => z2 ((up X 22 0 (0)) 8 i))) _ from hM.2.1 8 (sr_of (by decide))) (Or.inl ⟨by omega, by omega⟩) (12 * n + k) ⟨by omega, by omega, by decide⟩ dX5_license_103 (fun H locs he hz oq hS => ?_)
            have hM : PM D ks bm (up (up X 22 0 (0)) 8 (12 * n + k) ((X 8 (12 * n + k)) + u3)) H := hM.row (f := 8) (sr_of (by decide)) he oq
            refine lv_aload_n hx hb dX5_license_104 rfl (lv_at hl 1 rfl) ?_
            refine g_get (C := RX5) (T := TX5) (N := 23) hx hb hts inX5 hown hG hM.1 rfl 8 (by decide) (by decide +kernel) rfl (v := .ref (bm + 7)) rfl dX5_license_105 ?_
            refine lv_iload hx hb dX5_license_108 (lv_at hl 0 rfl) ?_
            refine g_iald (n := 96) hx hb hG (f := fun i => z2 ((up (up X 22 0 (0)) 8 (12 * n + k) ((X 8 (12 * n + k)) + u3)) 8 i)) (show ca D (bm + 7) (iA (ks 0) 96 (fun i => z2 ((up (up X 22 0 (0)) 8 (12 * n + k) ((X 8 (12 * n + k)) + u3)) 8 i))) _ from hM.2.1 8 (sr_of (by decide))) (12 * n + k) ⟨by omega, by omega, by decide⟩ dX5_license_110 ?_
            refine W.eq (g2 := F0 m 111 ls (.int (z2 ((X 8 (12 * n + k)) + u3)) :: [])) (congrArg (fun z => F0 m 111 ls (.int (z2 z) :: [])) (by simp [up] : (up (up X 22 0 (0)) 8 (12 * n + k) ((X 8 (12 * n + k)) + u3)) 8 (12 * n + k) = (X 8 (12 * n + k)) + u3)) ?_
            exact g_iret hx hb hr hlocks hS ⟨Nat.le_of_ble_eq_true rfl, Nat.le_of_ble_eq_true rfl⟩ (⟨(X 8 (12 * n + k)) + u3, up (up X 22 0 (0)) 8 (12 * n + k) ((X 8 (12 * n + k)) + u3), Or.inl (⟨n, k, by omega, rfl, rfl⟩), rfl, hM⟩) dX5_license_111
          · skip
            refine lv_aload_n hx hb dX5_license_87 rfl (lv_at hl 1 rfl) ?_
            refine b_iconst hx hb dX5_license_88 ?_
            refine g_run (vx_runV (As := [.int (z2 (3))]) (rest := []) ⟨hx, hb, hml, hown, hts⟩ (m_fails l D ks bx bm hbm (up X 22 0 (0)) _ hM (vs_uf (hV) (by decide)) (3)) (cwV 1 hts gX5_license_X5_fails rfl rfl rfl (by decide +kernel) ⟨Nat.le_of_ble_eq_true rfl, Nat.le_of_ble_eq_true rfl⟩) (g_preV (r := (RX5, TX5, 23)) hG hS (rm_ge hbm) hM.1 rfl) rfl rfl hl.1 rfl (lv_room (Nat.le_of_ble_eq_true rfl)) dX5_license_89 ⟨Nat.le_of_ble_eq_true rfl, Nat.le_of_ble_eq_true rfl⟩) hS (fun _ h => h) (fun _ _ _ _ _ h => h.elim) (fun v H1 locs hp hz9 hk9 hS => ?_)
            obtain ⟨rfl, hM⟩ := hp
            refine W.eq (g2 := F0 m 92 ls [.int (z2 (0))]) rfl ?_
            exact g_iret hx hb hr hlocks hS ⟨Nat.le_of_ble_eq_true rfl, Nat.le_of_ble_eq_true rfl⟩ (⟨0, (up (up X 22 0 (0)) 22 0 (3)), Or.inr (Or.inr (Or.inr (⟨⟨n, k, by omega⟩, rfl⟩))), rfl, hM⟩) dX5_license_92
      · skip
        refine b_iconst hx hb dX5_license_37 ?_
        refine lv_goto (tgt := 42) hx hb dX5_license_38 (by decide) ?_
        refine g_put (C := RX5) (T := TX5) (N := 23) hx hb hts inX5 tyX5 tyX5_ok nmX5 hown hG hS hM.1 (Or.inl ⟨by omega, by omega⟩) rfl 22 (by decide) (by decide +kernel) rfl rfl (v := .int (z2 (2))) rfl rfl (Nat.le_of_ble_eq_true rfl) dX5_license_42 (fun H locs he hz oq hS => ?_)
        have hM : PM D ks bm (up X 22 0 (2)) H := hM.own (k := 22) (by decide) he oq
        refine lv_aload_n hx hb dX5_license_45 rfl (lv_at hl 0 rfl) ?_
        refine g_get (C := RX5) (T := TX5) (N := 23) hx hb hts inX5 hown hG hM.1 rfl 22 (by decide) (by decide +kernel) rfl (v := .int (z2 (2))) (congrArg (fun z => some (Value.int (z2 z))) (by simp [up] : (up X 22 0 (2)) 22 0 = 2)) dX5_license_46 ?_
        refine b_if_le (tgt := 54) hx hb dX5_license_49 (by decide) ⟨by omega, by omega⟩ (fun c => absurd c (by omega)) (fun _ => ?_)
        refine b_iconst hx hb dX5_license_52 ?_
        exact g_iret hx hb hr hlocks hS ⟨Nat.le_of_ble_eq_true rfl, Nat.le_of_ble_eq_true rfl⟩ (⟨0, up X 22 0 (2), Or.inr (Or.inr (Or.inl (⟨by omega, rfl⟩))), rfl, hM⟩) dX5_license_53
    · skip
      refine b_iconst hx hb dX5_license_22 ?_
      refine lv_goto (tgt := 42) hx hb dX5_license_23 (by decide) ?_
      refine g_put (C := RX5) (T := TX5) (N := 23) hx hb hts inX5 tyX5 tyX5_ok nmX5 hown hG hS hM.1 (Or.inl ⟨by omega, by omega⟩) rfl 22 (by decide) (by decide +kernel) rfl rfl (v := .int (z2 (1))) rfl rfl (Nat.le_of_ble_eq_true rfl) dX5_license_42 (fun H locs he hz oq hS => ?_)
      have hM : PM D ks bm (up X 22 0 (1)) H := hM.own (k := 22) (by decide) he oq
      refine lv_aload_n hx hb dX5_license_45 rfl (lv_at hl 0 rfl) ?_
      refine g_get (C := RX5) (T := TX5) (N := 23) hx hb hts inX5 hown hG hM.1 rfl 22 (by decide) (by decide +kernel) rfl (v := .int (z2 (1))) (congrArg (fun z => some (Value.int (z2 z))) (by simp [up] : (up X 22 0 (1)) 22 0 = 1)) dX5_license_46 ?_
      refine b_if_le (tgt := 54) hx hb dX5_license_49 (by decide) ⟨by omega, by omega⟩ (fun c => absurd c (by omega)) (fun _ => ?_)
      refine b_iconst hx hb dX5_license_52 ?_
      exact g_iret hx hb hr hlocks hS ⟨Nat.le_of_ble_eq_true rfl, Nat.le_of_ble_eq_true rfl⟩ (⟨0, up X 22 0 (1), Or.inr (Or.inl (⟨by omega, rfl⟩)), rfl, hM⟩) dX5_license_53
set_option maxHeartbeats 4000000 in
set_option maxRecDepth 100000 in
theorem m_setQuiet (l : Launch) (D : va_G) (ks : Nat → ClassId) (bx : Nat) (bm : Nat) (hbm : bx ≤ bm) (X : Nat → Nat → Int) (H : Heap) (hM : PM D ks bm X H) (hV : VS X) (u v2 u3 : Int) (hu : -2147483648 ≤ u ∧ u < 2147483648) (hv2 : -2147483648 ≤ v2 ∧ v2 < 2147483648) (hu3 : -2147483648 ≤ u3 ∧ u3 < 2147483648) : KM l yX5_setQuiet wsX5_setQuiet ({ frames := 2, cells := 0, slots := 0, locals := 42 } : Room) D ks bx [.ref bm, .int (z2 u), .int (z2 v2), .int (z2 u3)] H (RM bm) (fun v H1 => ∃ (r : Int) (Y : Nat → Nat → Int), ro_setQuiet X u v2 u3 r Y ∧ v = some (.int (z2 r)) ∧ PM D ks bm Y H1) (fun _ _ => False) := by
  refine KM.of (cc := cX5_setQuiet) (maxL := 4) (ret := (some .boolean)) (by decide) rfl (Nat.le_of_ble_eq_true rfl) ?_
  intro p e s m below meth c hx hb hml hr hlocks hown hname hts hext hH0 hG ls hl
  subst hH0
  have hown : s.vm.findClass RX5 = some m.cls := hown
  have hS : va_S (AR (RM bm) s.heap.size) s.heap s.heap [] := va_S.rf
  have hl : lv_has ls 4 [(0, .ref bm), (1, .int (z2 (u))), (2, .int (z2 (v2))), (3, .int (z2 (u3)))] := hl
  have inX5 : ∀ w ∈ wsX50, w ∈ wsX5_setQuiet := by decide +kernel
  refine lv_aload_n hx hb dX5_setQuiet_0 rfl (lv_at hl 0 rfl) ?_
  refine lv_iload_n hx hb dX5_setQuiet_1 rfl (lv_at hl 1 rfl) ?_
  refine g_run (vx_runS (As := [.int (z2 (u))]) (rest := [.ref bm]) ⟨hx, hb, hml, hown, hts⟩ (m_isHouse l D ks bx bm hbm _ (u) ⟨by omega, by omega⟩) (cwS 1 hts gX5_setQuiet_X5_isHouse rfl rfl rfl (by decide +kernel) ⟨Nat.le_of_ble_eq_true rfl, Nat.le_of_ble_eq_true rfl⟩) (g_preS hG hS (rm_ge hbm)) rfl rfl hl.1 rfl (lv_room (Nat.le_of_ble_eq_true rfl)) dX5_setQuiet_2 ⟨Nat.le_of_ble_eq_true rfl, Nat.le_of_ble_eq_true rfl⟩) hS (fun _ h => h) (fun _ _ _ _ _ h => h.elim) (fun v H1 locs hp hz9 hk9 hS => ?_)
  obtain ⟨rfl, hH9⟩ := hp
  obtain rfl := hH9.symm
  obtain ⟨iv_2, ev_2, ib_2⟩ : ∃ z : Int, z = (if 0 ≤ u ∧ u ≤ 7 then 1 else 0) ∧ (((0 ≤ u ∧ u ≤ 7) ∧ z = 1) ∨ (¬ (0 ≤ u ∧ u ≤ 7) ∧ z = 0)) := ⟨_, rfl, by split <;> omega⟩
  rw [← ev_2]
  refine W.eq (g2 := F0 m 5 ls [.int (z2 (iv_2)), .ref bm]) rfl ?_
  refine b_if_ne (tgt := 12) hx hb dX5_setQuiet_5 (by decide) ⟨by omega, by omega⟩ (fun c_5 => ?_) (fun c_5 => ?_)
  · skip
    refine lv_iload_n hx hb dX5_setQuiet_12 rfl (lv_at hl 2 rfl) ?_
    refine b_iconst hx hb dX5_setQuiet_13 ?_
    refine b_sipush hx hb dX5_setQuiet_14 (by decide +kernel) ?_
    refine g_run (vx_runS (As := [.int (z2 (v2)), .int (z2 (0)), .int (z2 (999))]) (rest := [.ref bm]) ⟨hx, hb, hml, hown, hts⟩ (m_in l D ks bx bm _ (v2) (0) (999) ⟨⟨by omega, by omega⟩, ⟨by omega, by omega⟩, by omega, by omega⟩) (cwS 3 hts gX5_setQuiet_X5_in rfl rfl rfl (by decide +kernel) ⟨Nat.le_of_ble_eq_true rfl, Nat.le_of_ble_eq_true rfl⟩) (g_preS hG hS (rm_ge hbm)) rfl rfl hl.1 rfl (lv_room (Nat.le_of_ble_eq_true rfl)) dX5_setQuiet_17 ⟨Nat.le_of_ble_eq_true rfl, Nat.le_of_ble_eq_true rfl⟩) hS (fun _ h => h) (fun _ _ _ _ _ h => h.elim) (fun v H1 locs hp hz9 hk9 hS => ?_)
    obtain ⟨rfl, hH9⟩ := hp
    obtain rfl := hH9.symm
    obtain ⟨iv_17, ev_17, ib_17⟩ : ∃ z : Int, z = (if 0 ≤ v2 ∧ v2 ≤ 999 then 1 else 0) ∧ (((0 ≤ v2 ∧ v2 ≤ 999) ∧ z = 1) ∨ (¬ (0 ≤ v2 ∧ v2 ≤ 999) ∧ z = 0)) := ⟨_, rfl, by split <;> omega⟩
    rw [← ev_17]
    refine W.eq (g2 := F0 m 20 ls [.int (z2 (iv_17)), .ref bm]) rfl ?_
    refine b_if_eq (tgt := 34) hx hb dX5_setQuiet_20 (by decide) ⟨by omega, by omega⟩ (fun c_20 => ?_) (fun c_20 => ?_)
    · skip
      refine b_iconst hx hb dX5_setQuiet_34 ?_
      refine lv_goto (tgt := 39) hx hb dX5_setQuiet_35 (by decide) ?_
      refine g_put (C := RX5) (T := TX5) (N := 23) hx hb hts inX5 tyX5 tyX5_ok nmX5 hown hG hS hM.1 (Or.inl ⟨by omega, by omega⟩) rfl 22 (by decide) (by decide +kernel) rfl rfl (v := .int (z2 (2))) rfl rfl (Nat.le_of_ble_eq_true rfl) dX5_setQuiet_39 (fun H locs he hz oq hS => ?_)
      have hM : PM D ks bm (up X 22 0 (2)) H := hM.own (k := 22) (by decide) he oq
      refine lv_aload_n hx hb dX5_setQuiet_42 rfl (lv_at hl 0 rfl) ?_
      refine g_get (C := RX5) (T := TX5) (N := 23) hx hb hts inX5 hown hG hM.1 rfl 22 (by decide) (by decide +kernel) rfl (v := .int (z2 (2))) (congrArg (fun z => some (Value.int (z2 z))) (by simp [up] : (up X 22 0 (2)) 22 0 = 2)) dX5_setQuiet_43 ?_
      refine b_if_le (tgt := 51) hx hb dX5_setQuiet_46 (by decide) ⟨by omega, by omega⟩ (fun c => absurd c (by omega)) (fun _ => ?_)
      refine b_iconst hx hb dX5_setQuiet_49 ?_
      exact g_zret hx hb hr hlocks hS (by decide +kernel) ⟨Nat.le_of_ble_eq_true rfl, Nat.le_of_ble_eq_true rfl⟩ (⟨0, up X 22 0 (2), Or.inr (Or.inr (⟨by omega, rfl⟩)), rfl, hM⟩) dX5_setQuiet_50
    · skip
      refine lv_iload_n hx hb dX5_setQuiet_23 rfl (lv_at hl 3 rfl) ?_
      refine b_iconst hx hb dX5_setQuiet_24 ?_
      refine b_sipush hx hb dX5_setQuiet_25 (by decide +kernel) ?_
      refine g_run (vx_runS (As := [.int (z2 (u3)), .int (z2 (0)), .int (z2 (999))]) (rest := [.ref bm]) ⟨hx, hb, hml, hown, hts⟩ (m_in l D ks bx bm _ (u3) (0) (999) ⟨⟨by omega, by omega⟩, ⟨by omega, by omega⟩, by omega, by omega⟩) (cwS 3 hts gX5_setQuiet_X5_in rfl rfl rfl (by decide +kernel) ⟨Nat.le_of_ble_eq_true rfl, Nat.le_of_ble_eq_true rfl⟩) (g_preS hG hS (rm_ge hbm)) rfl rfl hl.1 rfl (lv_room (Nat.le_of_ble_eq_true rfl)) dX5_setQuiet_28 ⟨Nat.le_of_ble_eq_true rfl, Nat.le_of_ble_eq_true rfl⟩) hS (fun _ h => h) (fun _ _ _ _ _ h => h.elim) (fun v H1 locs hp hz9 hk9 hS => ?_)
      obtain ⟨rfl, hH9⟩ := hp
      obtain rfl := hH9.symm
      obtain ⟨iv_28, ev_28, ib_28⟩ : ∃ z : Int, z = (if 0 ≤ u3 ∧ u3 ≤ 999 then 1 else 0) ∧ (((0 ≤ u3 ∧ u3 ≤ 999) ∧ z = 1) ∨ (¬ (0 ≤ u3 ∧ u3 ≤ 999) ∧ z = 0)) := ⟨_, rfl, by split <;> omega⟩
      rw [← ev_28]
      refine W.eq (g2 := F0 m 31 ls [.int (z2 (iv_28)), .ref bm]) rfl ?_
      refine b_if_ne (tgt := 38) hx hb dX5_setQuiet_31 (by decide) ⟨by omega, by omega⟩ (fun c_31 => ?_) (fun c_31 => ?_)
      · skip
        refine b_iconst hx hb dX5_setQuiet_38 ?_
        refine g_put (C := RX5) (T := TX5) (N := 23) hx hb hts inX5 tyX5 tyX5_ok nmX5 hown hG hS hM.1 (Or.inl ⟨by omega, by omega⟩) rfl 22 (by decide) (by decide +kernel) rfl rfl (v := .int (z2 (0))) rfl rfl (Nat.le_of_ble_eq_true rfl) dX5_setQuiet_39 (fun H locs he hz oq hS => ?_)
        have hM : PM D ks bm (up X 22 0 (0)) H := hM.own (k := 22) (by decide) he oq
        refine lv_aload_n hx hb dX5_setQuiet_42 rfl (lv_at hl 0 rfl) ?_
        refine g_get (C := RX5) (T := TX5) (N := 23) hx hb hts inX5 hown hG hM.1 rfl 22 (by decide) (by decide +kernel) rfl (v := .int (z2 (0))) (congrArg (fun z => some (Value.int (z2 z))) (by simp [up] : (up X 22 0 (0)) 22 0 = 0)) dX5_setQuiet_43 ?_
        refine b_if_le (tgt := 51) hx hb dX5_setQuiet_46 (by decide) ⟨by omega, by omega⟩ (fun _ => ?_) (fun c => absurd c (by omega))
        obtain ⟨n, rfl⟩ : ∃ n : Nat, u = n := ⟨(u).toNat, by omega⟩
        refine lv_aload_n hx hb dX5_setQuiet_51 rfl (lv_at hl 0 rfl) ?_
        refine g_get (C := RX5) (T := TX5) (N := 23) hx hb hts inX5 hown hG hM.1 rfl 9 (by decide) (by decide +kernel) rfl (v := .ref (bm + 8)) rfl dX5_setQuiet_52 ?_
        refine lv_iload_n hx hb dX5_setQuiet_55 rfl (lv_at hl 1 rfl) ?_
        refine lv_iload_n hx hb dX5_setQuiet_56 rfl (lv_at hl 2 rfl) ?_
        refine g_iast (n := 8) hx hb hG hS (f := fun i => z2 ((up X 22 0 (0)) 9 i)) (show ca D (bm + 8) (iA (ks 0) 8 (fun i => z2 ((up X 22 0 (0)) 9 i))) _ from hM.2.1 9 (sr_of (by decide))) (Or.inl ⟨by omega, by omega⟩) n ⟨by omega, by omega, by decide⟩ dX5_setQuiet_57 (fun H locs he hz oq hS => ?_)
        have hM : PM D ks bm (up (up X 22 0 (0)) 9 n (v2)) H := hM.row (f := 9) (sr_of (by decide)) he oq
        refine lv_aload_n hx hb dX5_setQuiet_58 rfl (lv_at hl 0 rfl) ?_
        refine g_get (C := RX5) (T := TX5) (N := 23) hx hb hts inX5 hown hG hM.1 rfl 10 (by decide) (by decide +kernel) rfl (v := .ref (bm + 9)) rfl dX5_setQuiet_59 ?_
        refine lv_iload_n hx hb dX5_setQuiet_62 rfl (lv_at hl 1 rfl) ?_
        refine lv_iload_n hx hb dX5_setQuiet_63 rfl (lv_at hl 3 rfl) ?_
        refine g_iast (n := 8) hx hb hG hS (f := fun i => z2 ((up (up X 22 0 (0)) 9 n (v2)) 10 i)) (show ca D (bm + 9) (iA (ks 0) 8 (fun i => z2 ((up (up X 22 0 (0)) 9 n (v2)) 10 i))) _ from hM.2.1 10 (sr_of (by decide))) (Or.inl ⟨by omega, by omega⟩) n ⟨by omega, by omega, by decide⟩ dX5_setQuiet_64 (fun H locs he hz oq hS => ?_)
        have hM : PM D ks bm (up (up (up X 22 0 (0)) 9 n (v2)) 10 n (u3)) H := hM.row (f := 10) (sr_of (by decide)) he oq
        refine lv_aload_n hx hb dX5_setQuiet_65 rfl (lv_at hl 0 rfl) ?_
        refine lv_iload_n hx hb dX5_setQuiet_66 rfl (lv_at hl 1 rfl) ?_
        refine g_run (vx_runV (As := [.int (z2 (((n : Nat) : Int)))]) (rest := []) ⟨hx, hb, hml, hown, hts⟩ (m_isQuiet l D ks bx bm hbm (up (up (up X 22 0 (0)) 9 n (v2)) 10 n (u3)) _ hM (vs_up (vs_up (vs_uf hV (by decide)) (by decide) (fun _ _ => by show 0 ≤ _ ∧ _ ≤ (999 : Int); omega)) (by decide) (fun _ _ => by show 0 ≤ _ ∧ _ ≤ (999 : Int); omega)) (n := n) (((n : Nat) : Int)) ⟨by omega, by omega⟩) (cwV 1 hts gX5_setQuiet_X5_isQuiet rfl rfl rfl (by decide +kernel) ⟨Nat.le_of_ble_eq_true rfl, Nat.le_of_ble_eq_true rfl⟩) (g_preV (r := (RX5, TX5, 23)) hG hS (rm_ge hbm) hM.1 rfl) rfl rfl hl.1 rfl (lv_room (Nat.le_of_ble_eq_true rfl)) dX5_setQuiet_67 ⟨Nat.le_of_ble_eq_true rfl, Nat.le_of_ble_eq_true rfl⟩) hS (fun _ h => h) (fun _ _ _ _ _ h => h.elim) (fun v H1 locs hp hz9 hk9 hS => ?_)
        obtain ⟨rfl, hH9⟩ := hp
        obtain rfl := hH9.symm
        have qb_67 := qM_b (up (up (up X 22 0 (0)) 9 n (v2)) 10 n (u3)) n
        refine W.eq (g2 := F0 m 70 ls [.int (z2 (qM (up (up (up X 22 0 (0)) 9 n (v2)) 10 n (u3)) n))]) rfl ?_
        have zn9 : narrow .boolean (.int (z2 (qM (up (up (up X 22 0 0) 9 n v2) 10 n u3) n))) = .int (z2 (qM (up (up (up X 22 0 0) 9 n v2) 10 n u3) n)) := by rcases (show qM (up (up (up X 22 0 0) 9 n v2) 10 n u3) n = 1 ∨ qM (up (up (up X 22 0 0) 9 n v2) 10 n u3) n = 0 by have := qM_b (up (up (up X 22 0 0) 9 n v2) 10 n u3) n; omega) with q | q <;> (rw [q]; decide +kernel)
        exact g_zret hx hb hr hlocks hS zn9 ⟨Nat.le_of_ble_eq_true rfl, Nat.le_of_ble_eq_true rfl⟩ (⟨qM (up (up (up X 22 0 (0)) 9 n (v2)) 10 n (u3)) n, up (up (up X 22 0 (0)) 9 n (v2)) 10 n (u3), Or.inl (⟨n, by omega, rfl, rfl⟩), rfl, hM⟩) dX5_setQuiet_70
      · skip
        refine b_iconst hx hb dX5_setQuiet_34 ?_
        refine lv_goto (tgt := 39) hx hb dX5_setQuiet_35 (by decide) ?_
        refine g_put (C := RX5) (T := TX5) (N := 23) hx hb hts inX5 tyX5 tyX5_ok nmX5 hown hG hS hM.1 (Or.inl ⟨by omega, by omega⟩) rfl 22 (by decide) (by decide +kernel) rfl rfl (v := .int (z2 (2))) rfl rfl (Nat.le_of_ble_eq_true rfl) dX5_setQuiet_39 (fun H locs he hz oq hS => ?_)
        have hM : PM D ks bm (up X 22 0 (2)) H := hM.own (k := 22) (by decide) he oq
        refine lv_aload_n hx hb dX5_setQuiet_42 rfl (lv_at hl 0 rfl) ?_
        refine g_get (C := RX5) (T := TX5) (N := 23) hx hb hts inX5 hown hG hM.1 rfl 22 (by decide) (by decide +kernel) rfl (v := .int (z2 (2))) (congrArg (fun z => some (Value.int (z2 z))) (by simp [up] : (up X 22 0 (2)) 22 0 = 2)) dX5_setQuiet_43 ?_
        refine b_if_le (tgt := 51) hx hb dX5_setQuiet_46 (by decide) ⟨by omega, by omega⟩ (fun c => absurd c (by omega)) (fun _ => ?_)
        refine b_iconst hx hb dX5_setQuiet_49 ?_
        exact g_zret hx hb hr hlocks hS (by decide +kernel) ⟨Nat.le_of_ble_eq_true rfl, Nat.le_of_ble_eq_true rfl⟩ (⟨0, up X 22 0 (2), Or.inr (Or.inr (⟨by omega, rfl⟩)), rfl, hM⟩) dX5_setQuiet_50
  · skip
    refine b_iconst hx hb dX5_setQuiet_8 ?_
    refine lv_goto (tgt := 39) hx hb dX5_setQuiet_9 (by decide) ?_
    refine g_put (C := RX5) (T := TX5) (N := 23) hx hb hts inX5 tyX5 tyX5_ok nmX5 hown hG hS hM.1 (Or.inl ⟨by omega, by omega⟩) rfl 22 (by decide) (by decide +kernel) rfl rfl (v := .int (z2 (1))) rfl rfl (Nat.le_of_ble_eq_true rfl) dX5_setQuiet_39 (fun H locs he hz oq hS => ?_)
    have hM : PM D ks bm (up X 22 0 (1)) H := hM.own (k := 22) (by decide) he oq
    refine lv_aload_n hx hb dX5_setQuiet_42 rfl (lv_at hl 0 rfl) ?_
    refine g_get (C := RX5) (T := TX5) (N := 23) hx hb hts inX5 hown hG hM.1 rfl 22 (by decide) (by decide +kernel) rfl (v := .int (z2 (1))) (congrArg (fun z => some (Value.int (z2 z))) (by simp [up] : (up X 22 0 (1)) 22 0 = 1)) dX5_setQuiet_43 ?_
    refine b_if_le (tgt := 51) hx hb dX5_setQuiet_46 (by decide) ⟨by omega, by omega⟩ (fun c => absurd c (by omega)) (fun _ => ?_)
    refine b_iconst hx hb dX5_setQuiet_49 ?_
    exact g_zret hx hb hr hlocks hS (by decide +kernel) ⟨Nat.le_of_ble_eq_true rfl, Nat.le_of_ble_eq_true rfl⟩ (⟨0, up X 22 0 (1), Or.inr (Or.inl (⟨by omega, rfl⟩)), rfl, hM⟩) dX5_setQuiet_50
set_option maxHeartbeats 4000000 in
set_option maxRecDepth 100000 in
theorem m_lay (l : Launch) (D : va_G) (ks : Nat → ClassId) (bx : Nat) (bm : Nat) (hbm : bx ≤ bm) (X : Nat → Nat → Int) (H : Heap) (hM : PM D ks bm X H) (hV : VS X) (u v2 u3 u4 : Int) (hu : -2147483648 ≤ u ∧ u < 2147483648) (hv2 : -2147483648 ≤ v2 ∧ v2 < 2147483648) (hu3 : -2147483648 ≤ u3 ∧ u3 < 2147483648) (hu4 : -2147483648 ≤ u4 ∧ u4 < 2147483648) : KM l yX5_lay wsX5_lay ({ frames := 2, cells := 0, slots := 0, locals := 42 } : Room) D ks bx [.ref bm, .int (z2 u), .int (z2 v2), .int (z2 u3), .int (z2 u4)] H (RM bm) (fun v H1 => ∃ (r : Int) (Y : Nat → Nat → Int), ro_lay X u v2 u3 u4 r Y ∧ v = some (.int (z2 r)) ∧ PM D ks bm Y H1) (fun _ _ => False) := by
  refine KM.of (cc := cX5_lay) (maxL := 7) (ret := (some .int)) (by decide) rfl (Nat.le_of_ble_eq_true rfl) ?_
  intro p e s m below meth c hx hb hml hr hlocks hown hname hts hext hH0 hG ls hl
  subst hH0
  have hown : s.vm.findClass RX5 = some m.cls := hown
  have hS : va_S (AR (RM bm) s.heap.size) s.heap s.heap [] := va_S.rf
  have hl : lv_has ls 7 [(0, .ref bm), (1, .int (z2 (u))), (2, .int (z2 (v2))), (3, .int (z2 (u3))), (4, .int (z2 (u4)))] := hl
  have inX5 : ∀ w ∈ wsX50, w ∈ wsX5_lay := by decide +kernel
  have b1 : 0 ≤ X 1 0 ∧ X 1 0 ≤ 12 := hV.1 1 0 (by decide) rfl
  refine lv_aload_n hx hb dX5_lay_0 rfl (lv_at hl 0 rfl) ?_
  refine lv_iload_n hx hb dX5_lay_1 rfl (lv_at hl 1 rfl) ?_
  refine g_run (vx_runS (As := [.int (z2 (u))]) (rest := [.ref bm]) ⟨hx, hb, hml, hown, hts⟩ (m_isHouse l D ks bx bm hbm _ (u) ⟨by omega, by omega⟩) (cwS 1 hts gX5_lay_X5_isHouse rfl rfl rfl (by decide +kernel) ⟨Nat.le_of_ble_eq_true rfl, Nat.le_of_ble_eq_true rfl⟩) (g_preS hG hS (rm_ge hbm)) rfl rfl hl.1 rfl (lv_room (Nat.le_of_ble_eq_true rfl)) dX5_lay_2 ⟨Nat.le_of_ble_eq_true rfl, Nat.le_of_ble_eq_true rfl⟩) hS (fun _ h => h) (fun _ _ _ _ _ h => h.elim) (fun v H1 locs hp hz9 hk9 hS => ?_)
  obtain ⟨rfl, hH9⟩ := hp
  obtain rfl := hH9.symm
  obtain ⟨iv_2, ev_2, ib_2⟩ : ∃ z : Int, z = (if 0 ≤ u ∧ u ≤ 7 then 1 else 0) ∧ (((0 ≤ u ∧ u ≤ 7) ∧ z = 1) ∨ (¬ (0 ≤ u ∧ u ≤ 7) ∧ z = 0)) := ⟨_, rfl, by split <;> omega⟩
  rw [← ev_2]
  refine W.eq (g2 := F0 m 5 ls [.int (z2 (iv_2)), .ref bm]) rfl ?_
  refine b_if_eq (tgt := 36) hx hb dX5_lay_5 (by decide) ⟨by omega, by omega⟩ (fun c_5 => ?_) (fun c_5 => ?_)
  · skip
    refine b_iconst hx hb dX5_lay_36 ?_
    refine lv_goto (tgt := 56) hx hb dX5_lay_37 (by decide) ?_
    refine g_put (C := RX5) (T := TX5) (N := 23) hx hb hts inX5 tyX5 tyX5_ok nmX5 hown hG hS hM.1 (Or.inl ⟨by omega, by omega⟩) rfl 22 (by decide) (by decide +kernel) rfl rfl (v := .int (z2 (1))) rfl rfl (Nat.le_of_ble_eq_true rfl) dX5_lay_56 (fun H locs he hz oq hS => ?_)
    have hM : PM D ks bm (up X 22 0 (1)) H := hM.own (k := 22) (by decide) he oq
    refine lv_aload_n hx hb dX5_lay_59 rfl (lv_at hl 0 rfl) ?_
    refine g_get (C := RX5) (T := TX5) (N := 23) hx hb hts inX5 hown hG hM.1 rfl 22 (by decide) (by decide +kernel) rfl (v := .int (z2 (1))) (congrArg (fun z => some (Value.int (z2 z))) (by simp [up] : (up X 22 0 (1)) 22 0 = 1)) dX5_lay_60 ?_
    refine b_if_le (tgt := 68) hx hb dX5_lay_63 (by decide) ⟨by omega, by omega⟩ (fun c => absurd c (by omega)) (fun _ => ?_)
    refine b_iconst hx hb dX5_lay_66 ?_
    exact g_iret hx hb hr hlocks hS ⟨Nat.le_of_ble_eq_true rfl, Nat.le_of_ble_eq_true rfl⟩ (⟨0, up X 22 0 (1), Or.inr (Or.inl (⟨by omega, rfl⟩)), rfl, hM⟩) dX5_lay_67
  · skip
    refine lv_iload_n hx hb dX5_lay_8 rfl (lv_at hl 2 rfl) ?_
    refine b_iconst hx hb dX5_lay_9 ?_
    refine b_iconst hx hb dX5_lay_10 ?_
    refine g_run (vx_runS (As := [.int (z2 (v2)), .int (z2 (0)), .int (z2 (2))]) (rest := [.ref bm]) ⟨hx, hb, hml, hown, hts⟩ (m_in l D ks bx bm _ (v2) (0) (2) ⟨⟨by omega, by omega⟩, ⟨by omega, by omega⟩, by omega, by omega⟩) (cwS 3 hts gX5_lay_X5_in rfl rfl rfl (by decide +kernel) ⟨Nat.le_of_ble_eq_true rfl, Nat.le_of_ble_eq_true rfl⟩) (g_preS hG hS (rm_ge hbm)) rfl rfl hl.1 rfl (lv_room (Nat.le_of_ble_eq_true rfl)) dX5_lay_11 ⟨Nat.le_of_ble_eq_true rfl, Nat.le_of_ble_eq_true rfl⟩) hS (fun _ h => h) (fun _ _ _ _ _ h => h.elim) (fun v H1 locs hp hz9 hk9 hS => ?_)
    obtain ⟨rfl, hH9⟩ := hp
    obtain rfl := hH9.symm
    obtain ⟨iv_11, ev_11, ib_11⟩ : ∃ z : Int, z = (if 0 ≤ v2 ∧ v2 ≤ 2 then 1 else 0) ∧ (((0 ≤ v2 ∧ v2 ≤ 2) ∧ z = 1) ∨ (¬ (0 ≤ v2 ∧ v2 ≤ 2) ∧ z = 0)) := ⟨_, rfl, by split <;> omega⟩
    rw [← ev_11]
    refine W.eq (g2 := F0 m 14 ls [.int (z2 (iv_11)), .ref bm]) rfl ?_
    refine b_if_eq (tgt := 36) hx hb dX5_lay_14 (by decide) ⟨by omega, by omega⟩ (fun c_14 => ?_) (fun c_14 => ?_)
    · skip
      refine b_iconst hx hb dX5_lay_36 ?_
      refine lv_goto (tgt := 56) hx hb dX5_lay_37 (by decide) ?_
      refine g_put (C := RX5) (T := TX5) (N := 23) hx hb hts inX5 tyX5 tyX5_ok nmX5 hown hG hS hM.1 (Or.inl ⟨by omega, by omega⟩) rfl 22 (by decide) (by decide +kernel) rfl rfl (v := .int (z2 (1))) rfl rfl (Nat.le_of_ble_eq_true rfl) dX5_lay_56 (fun H locs he hz oq hS => ?_)
      have hM : PM D ks bm (up X 22 0 (1)) H := hM.own (k := 22) (by decide) he oq
      refine lv_aload_n hx hb dX5_lay_59 rfl (lv_at hl 0 rfl) ?_
      refine g_get (C := RX5) (T := TX5) (N := 23) hx hb hts inX5 hown hG hM.1 rfl 22 (by decide) (by decide +kernel) rfl (v := .int (z2 (1))) (congrArg (fun z => some (Value.int (z2 z))) (by simp [up] : (up X 22 0 (1)) 22 0 = 1)) dX5_lay_60 ?_
      refine b_if_le (tgt := 68) hx hb dX5_lay_63 (by decide) ⟨by omega, by omega⟩ (fun c => absurd c (by omega)) (fun _ => ?_)
      refine b_iconst hx hb dX5_lay_66 ?_
      exact g_iret hx hb hr hlocks hS ⟨Nat.le_of_ble_eq_true rfl, Nat.le_of_ble_eq_true rfl⟩ (⟨0, up X 22 0 (1), Or.inr (Or.inl (⟨by omega, rfl⟩)), rfl, hM⟩) dX5_lay_67
    · skip
      refine lv_iload_n hx hb dX5_lay_17 rfl (lv_at hl 3 rfl) ?_
      refine b_iconst hx hb dX5_lay_18 ?_
      refine b_icmp_eq (tgt := 40) hx hb dX5_lay_19 (by decide) ⟨⟨by omega, by omega⟩, ⟨by omega, by omega⟩⟩ (fun c_19 => ?_) (fun c_19 => ?_)
      · skip
        refine lv_iload hx hb dX5_lay_40 (lv_at hl 4 rfl) ?_
        refine b_iconst hx hb dX5_lay_42 ?_
        refine b_bipush hx hb dX5_lay_43 (by decide +kernel) ?_
        refine g_run (vx_runS (As := [.int (z2 (u4)), .int (z2 (1)), .int (z2 (9))]) (rest := [.ref bm]) ⟨hx, hb, hml, hown, hts⟩ (m_in l D ks bx bm _ (u4) (1) (9) ⟨⟨by omega, by omega⟩, ⟨by omega, by omega⟩, by omega, by omega⟩) (cwS 3 hts gX5_lay_X5_in rfl rfl rfl (by decide +kernel) ⟨Nat.le_of_ble_eq_true rfl, Nat.le_of_ble_eq_true rfl⟩) (g_preS hG hS (rm_ge hbm)) rfl rfl hl.1 rfl (lv_room (Nat.le_of_ble_eq_true rfl)) dX5_lay_45 ⟨Nat.le_of_ble_eq_true rfl, Nat.le_of_ble_eq_true rfl⟩) hS (fun _ h => h) (fun _ _ _ _ _ h => h.elim) (fun v H1 locs hp hz9 hk9 hS => ?_)
        obtain ⟨rfl, hH9⟩ := hp
        obtain rfl := hH9.symm
        obtain ⟨iv_45, ev_45, ib_45⟩ : ∃ z : Int, z = (if 1 ≤ u4 ∧ u4 ≤ 9 then 1 else 0) ∧ (((1 ≤ u4 ∧ u4 ≤ 9) ∧ z = 1) ∨ (¬ (1 ≤ u4 ∧ u4 ≤ 9) ∧ z = 0)) := ⟨_, rfl, by split <;> omega⟩
        rw [← ev_45]
        refine W.eq (g2 := F0 m 48 ls [.int (z2 (iv_45)), .ref bm]) rfl ?_
        refine b_if_ne (tgt := 55) hx hb dX5_lay_48 (by decide) ⟨by omega, by omega⟩ (fun c_48 => ?_) (fun c_48 => ?_)
        · skip
          refine b_iconst hx hb dX5_lay_55 ?_
          refine g_put (C := RX5) (T := TX5) (N := 23) hx hb hts inX5 tyX5 tyX5_ok nmX5 hown hG hS hM.1 (Or.inl ⟨by omega, by omega⟩) rfl 22 (by decide) (by decide +kernel) rfl rfl (v := .int (z2 (0))) rfl rfl (Nat.le_of_ble_eq_true rfl) dX5_lay_56 (fun H locs he hz oq hS => ?_)
          have hM : PM D ks bm (up X 22 0 (0)) H := hM.own (k := 22) (by decide) he oq
          refine lv_aload_n hx hb dX5_lay_59 rfl (lv_at hl 0 rfl) ?_
          refine g_get (C := RX5) (T := TX5) (N := 23) hx hb hts inX5 hown hG hM.1 rfl 22 (by decide) (by decide +kernel) rfl (v := .int (z2 (0))) (congrArg (fun z => some (Value.int (z2 z))) (by simp [up] : (up X 22 0 (0)) 22 0 = 0)) dX5_lay_60 ?_
          refine b_if_le (tgt := 68) hx hb dX5_lay_63 (by decide) ⟨by omega, by omega⟩ (fun _ => ?_) (fun c => absurd c (by omega))
          obtain ⟨n, rfl⟩ : ∃ n : Nat, u = n := ⟨(u).toNat, by omega⟩
          obtain ⟨b, rfl⟩ : ∃ b : Nat, v2 = b := ⟨(v2).toNat, by omega⟩
          refine b_iconst hx hb dX5_lay_68 ?_
          refine lv_iload_n hx hb dX5_lay_69 rfl (lv_at hl 1 rfl) ?_
          refine b_imul hx hb dX5_lay_70 ?_
          refine lv_iload_n hx hb dX5_lay_71 rfl (lv_at hl 2 rfl) ?_
          refine b_iadd hx hb dX5_lay_72 ?_
          refine lv_istore (lv' := [(5, .int (z2 ((3 * ((n : Nat) : Int)) + ((b : Nat) : Int)))), (0, .ref bm), (1, .int (z2 (((n : Nat) : Int)))), (2, .int (z2 (((b : Nat) : Int)))), (3, .int (z2 (u3))), (4, .int (z2 (u4)))]) hx hb dX5_lay_73 hl (by decide) rfl (fun ls hl => ?_)
          refine lv_aload_n hx hb dX5_lay_75 rfl (lv_at hl 1 rfl) ?_
          refine g_get (C := RX5) (T := TX5) (N := 23) hx hb hts inX5 hown hG hM.1 rfl 5 (by decide) (by decide +kernel) rfl (v := .ref (bm + 4)) rfl dX5_lay_76 ?_
          refine lv_iload hx hb dX5_lay_79 (lv_at hl 0 rfl) ?_
          have b_81 : 0 ≤ X 5 (3 * n + b) ∧ X 5 (3 * n + b) ≤ 12 := hV.1 5 _ (by decide) rfl
          refine g_iald (n := 24) hx hb hG (f := fun i => z2 ((up X 22 0 (0)) 5 i)) (show ca D (bm + 4) (iA (ks 0) 24 (fun i => z2 ((up X 22 0 (0)) 5 i))) _ from hM.2.1 5 (sr_of (by decide))) (3 * n + b) ⟨by omega, by omega, by decide⟩ dX5_lay_81 ?_
          refine W.eq (g2 := F0 m 82 ls (.int (z2 (X 5 (3 * n + b))) :: [])) rfl ?_
          refine b_iconst hx hb dX5_lay_82 ?_
          refine b_isub hx hb dX5_lay_83 ?_
          refine lv_istore (lv' := [(6, .int (z2 ((X 5 (3 * n + b)) - 1))), (5, .int (z2 ((3 * ((n : Nat) : Int)) + ((b : Nat) : Int)))), (0, .ref bm), (1, .int (z2 (((n : Nat) : Int)))), (2, .int (z2 (((b : Nat) : Int)))), (3, .int (z2 (u3))), (4, .int (z2 (u4)))]) hx hb dX5_lay_84 hl (by decide) rfl (fun ls hl => ?_)
          refine lv_aload_n hx hb dX5_lay_86 rfl (lv_at hl 2 rfl) ?_
          refine g_get (C := RX5) (T := TX5) (N := 23) hx hb hts inX5 hown hG hM.1 rfl 5 (by decide) (by decide +kernel) rfl (v := .ref (bm + 4)) rfl dX5_lay_87 ?_
          refine lv_iload hx hb dX5_lay_90 (lv_at hl 1 rfl) ?_
          refine lv_iload_n hx hb dX5_lay_92 rfl (lv_at hl 5 rfl) ?_
          refine b_iconst hx hb dX5_lay_93 ?_
          refine b_iadd hx hb dX5_lay_94 ?_
          refine g_iast (n := 24) hx hb hG hS (f := fun i => z2 ((up X 22 0 (0)) 5 i)) (show ca D (bm + 4) (iA (ks 0) 24 (fun i => z2 ((up X 22 0 (0)) 5 i))) _ from hM.2.1 5 (sr_of (by decide))) (Or.inl ⟨by omega, by omega⟩) (3 * n + b) ⟨by omega, by omega, by decide⟩ dX5_lay_95 (fun H locs he hz oq hS => ?_)
          have hM : PM D ks bm (up (up X 22 0 (0)) 5 (3 * n + b) (u3 + 1)) H := hM.row (f := 5) (sr_of (by decide)) he oq
          refine lv_aload_n hx hb dX5_lay_96 rfl (lv_at hl 2 rfl) ?_
          refine g_get (C := RX5) (T := TX5) (N := 23) hx hb hts inX5 hown hG hM.1 rfl 6 (by decide) (by decide +kernel) rfl (v := .ref (bm + 5)) rfl dX5_lay_97 ?_
          refine lv_iload hx hb dX5_lay_100 (lv_at hl 1 rfl) ?_
          refine lv_iload hx hb dX5_lay_102 (lv_at hl 6 rfl) ?_
          refine g_iast (n := 24) hx hb hG hS (f := fun i => z2 ((up (up X 22 0 (0)) 5 (3 * n + b) (u3 + 1)) 6 i)) (show ca D (bm + 5) (iA (ks 0) 24 (fun i => z2 ((up (up X 22 0 (0)) 5 (3 * n + b) (u3 + 1)) 6 i))) _ from hM.2.1 6 (sr_of (by decide))) (Or.inl ⟨by omega, by omega⟩) (3 * n + b) ⟨by omega, by omega, by decide⟩ dX5_lay_104 (fun H locs he hz oq hS => ?_)
          have hM : PM D ks bm (up (up (up X 22 0 (0)) 5 (3 * n + b) (u3 + 1)) 6 (3 * n + b) (u4)) H := hM.row (f := 6) (sr_of (by decide)) he oq
          refine lv_aload_n hx hb dX5_lay_105 rfl (lv_at hl 2 rfl) ?_
          refine g_get (C := RX5) (T := TX5) (N := 23) hx hb hts inX5 hown hG hM.1 rfl 7 (by decide) (by decide +kernel) rfl (v := .ref (bm + 6)) rfl dX5_lay_106 ?_
          refine lv_iload hx hb dX5_lay_109 (lv_at hl 1 rfl) ?_
          refine b_iconst hx hb dX5_lay_111 ?_
          refine g_iast (n := 24) hx hb hG hS (f := fun i => z2 ((up (up (up X 22 0 (0)) 5 (3 * n + b) (u3 + 1)) 6 (3 * n + b) (u4)) 7 i)) (show ca D (bm + 6) (iA (ks 0) 24 (fun i => z2 ((up (up (up X 22 0 (0)) 5 (3 * n + b) (u3 + 1)) 6 (3 * n + b) (u4)) 7 i))) _ from hM.2.1 7 (sr_of (by decide))) (Or.inl ⟨by omega, by omega⟩) (3 * n + b) ⟨by omega, by omega, by decide⟩ dX5_lay_112 (fun H locs he hz oq hS => ?_)
          have hM : PM D ks bm (up (up (up (up X 22 0 (0)) 5 (3 * n + b) (u3 + 1)) 6 (3 * n + b) (u4)) 7 (3 * n + b) (0)) H := hM.row (f := 7) (sr_of (by decide)) he oq
          refine lv_iload hx hb dX5_lay_113 (lv_at hl 0 rfl) ?_
          exact g_iret hx hb hr hlocks hS ⟨Nat.le_of_ble_eq_true rfl, Nat.le_of_ble_eq_true rfl⟩ (⟨(X 5 (3 * n + b)) - 1, up (up (up (up X 22 0 (0)) 5 (3 * n + b) (u3 + 1)) 6 (3 * n + b) (u4)) 7 (3 * n + b) (0), Or.inl (⟨n, b, by omega, rfl, rfl⟩), rfl, hM⟩) dX5_lay_115
        · skip
          refine b_iconst hx hb dX5_lay_51 ?_
          refine lv_goto (tgt := 56) hx hb dX5_lay_52 (by decide) ?_
          refine g_put (C := RX5) (T := TX5) (N := 23) hx hb hts inX5 tyX5 tyX5_ok nmX5 hown hG hS hM.1 (Or.inl ⟨by omega, by omega⟩) rfl 22 (by decide) (by decide +kernel) rfl rfl (v := .int (z2 (2))) rfl rfl (Nat.le_of_ble_eq_true rfl) dX5_lay_56 (fun H locs he hz oq hS => ?_)
          have hM : PM D ks bm (up X 22 0 (2)) H := hM.own (k := 22) (by decide) he oq
          refine lv_aload_n hx hb dX5_lay_59 rfl (lv_at hl 0 rfl) ?_
          refine g_get (C := RX5) (T := TX5) (N := 23) hx hb hts inX5 hown hG hM.1 rfl 22 (by decide) (by decide +kernel) rfl (v := .int (z2 (2))) (congrArg (fun z => some (Value.int (z2 z))) (by simp [up] : (up X 22 0 (2)) 22 0 = 2)) dX5_lay_60 ?_
          refine b_if_le (tgt := 68) hx hb dX5_lay_63 (by decide) ⟨by omega, by omega⟩ (fun c => absurd c (by omega)) (fun _ => ?_)
          refine b_iconst hx hb dX5_lay_66 ?_
          exact g_iret hx hb hr hlocks hS ⟨Nat.le_of_ble_eq_true rfl, Nat.le_of_ble_eq_true rfl⟩ (⟨0, up X 22 0 (2), Or.inr (Or.inr (⟨by omega, rfl⟩)), rfl, hM⟩) dX5_lay_67
      · skip
        refine lv_iload_n hx hb dX5_lay_22 rfl (lv_at hl 3 rfl) ?_
        refine b_iconst hx hb dX5_lay_23 ?_
        refine lv_aload_n hx hb dX5_lay_24 rfl (lv_at hl 0 rfl) ?_
        have b_25 : 0 ≤ X 1 0 ∧ X 1 0 ≤ 12 := hV.1 1 _ (by decide) rfl
        refine g_get (C := RX5) (T := TX5) (N := 23) hx hb hts inX5 hown hG hM.1 rfl 1 (by decide) (by decide +kernel) rfl (v := .int (z2 (X 1 0))) rfl dX5_lay_25 ?_
        refine b_iconst hx hb dX5_lay_28 ?_
        refine b_isub hx hb dX5_lay_29 ?_
        refine g_run (vx_runS (As := [.int (z2 (u3)), .int (z2 (0)), .int (z2 ((X 1 0) - 1))]) (rest := [.ref bm]) ⟨hx, hb, hml, hown, hts⟩ (m_in l D ks bx bm _ (u3) (0) ((X 1 0) - 1) ⟨⟨by omega, by omega⟩, ⟨by omega, by omega⟩, by omega, by omega⟩) (cwS 3 hts gX5_lay_X5_in rfl rfl rfl (by decide +kernel) ⟨Nat.le_of_ble_eq_true rfl, Nat.le_of_ble_eq_true rfl⟩) (g_preS hG hS (rm_ge hbm)) rfl rfl hl.1 rfl (lv_room (Nat.le_of_ble_eq_true rfl)) dX5_lay_30 ⟨Nat.le_of_ble_eq_true rfl, Nat.le_of_ble_eq_true rfl⟩) hS (fun _ h => h) (fun _ _ _ _ _ h => h.elim) (fun v H1 locs hp hz9 hk9 hS => ?_)
        obtain ⟨rfl, hH9⟩ := hp
        obtain rfl := hH9.symm
        obtain ⟨iv_30, ev_30, ib_30⟩ : ∃ z : Int, z = (if 0 ≤ u3 ∧ u3 ≤ (X 1 0) - 1 then 1 else 0) ∧ (((0 ≤ u3 ∧ u3 ≤ (X 1 0) - 1) ∧ z = 1) ∨ (¬ (0 ≤ u3 ∧ u3 ≤ (X 1 0) - 1) ∧ z = 0)) := ⟨_, rfl, by split <;> omega⟩
        rw [← ev_30]
        refine W.eq (g2 := F0 m 33 ls [.int (z2 (iv_30)), .ref bm]) rfl ?_
        refine b_if_ne (tgt := 40) hx hb dX5_lay_33 (by decide) ⟨by omega, by omega⟩ (fun c_33 => ?_) (fun c_33 => ?_)
        · skip
          refine lv_iload hx hb dX5_lay_40 (lv_at hl 4 rfl) ?_
          refine b_iconst hx hb dX5_lay_42 ?_
          refine b_bipush hx hb dX5_lay_43 (by decide +kernel) ?_
          refine g_run (vx_runS (As := [.int (z2 (u4)), .int (z2 (1)), .int (z2 (9))]) (rest := [.ref bm]) ⟨hx, hb, hml, hown, hts⟩ (m_in l D ks bx bm _ (u4) (1) (9) ⟨⟨by omega, by omega⟩, ⟨by omega, by omega⟩, by omega, by omega⟩) (cwS 3 hts gX5_lay_X5_in rfl rfl rfl (by decide +kernel) ⟨Nat.le_of_ble_eq_true rfl, Nat.le_of_ble_eq_true rfl⟩) (g_preS hG hS (rm_ge hbm)) rfl rfl hl.1 rfl (lv_room (Nat.le_of_ble_eq_true rfl)) dX5_lay_45 ⟨Nat.le_of_ble_eq_true rfl, Nat.le_of_ble_eq_true rfl⟩) hS (fun _ h => h) (fun _ _ _ _ _ h => h.elim) (fun v H1 locs hp hz9 hk9 hS => ?_)
          obtain ⟨rfl, hH9⟩ := hp
          obtain rfl := hH9.symm
          obtain ⟨iv_45, ev_45, ib_45⟩ : ∃ z : Int, z = (if 1 ≤ u4 ∧ u4 ≤ 9 then 1 else 0) ∧ (((1 ≤ u4 ∧ u4 ≤ 9) ∧ z = 1) ∨ (¬ (1 ≤ u4 ∧ u4 ≤ 9) ∧ z = 0)) := ⟨_, rfl, by split <;> omega⟩
          rw [← ev_45]
          refine W.eq (g2 := F0 m 48 ls [.int (z2 (iv_45)), .ref bm]) rfl ?_
          refine b_if_ne (tgt := 55) hx hb dX5_lay_48 (by decide) ⟨by omega, by omega⟩ (fun c_48 => ?_) (fun c_48 => ?_)
          · skip
            refine b_iconst hx hb dX5_lay_55 ?_
            refine g_put (C := RX5) (T := TX5) (N := 23) hx hb hts inX5 tyX5 tyX5_ok nmX5 hown hG hS hM.1 (Or.inl ⟨by omega, by omega⟩) rfl 22 (by decide) (by decide +kernel) rfl rfl (v := .int (z2 (0))) rfl rfl (Nat.le_of_ble_eq_true rfl) dX5_lay_56 (fun H locs he hz oq hS => ?_)
            have hM : PM D ks bm (up X 22 0 (0)) H := hM.own (k := 22) (by decide) he oq
            refine lv_aload_n hx hb dX5_lay_59 rfl (lv_at hl 0 rfl) ?_
            refine g_get (C := RX5) (T := TX5) (N := 23) hx hb hts inX5 hown hG hM.1 rfl 22 (by decide) (by decide +kernel) rfl (v := .int (z2 (0))) (congrArg (fun z => some (Value.int (z2 z))) (by simp [up] : (up X 22 0 (0)) 22 0 = 0)) dX5_lay_60 ?_
            refine b_if_le (tgt := 68) hx hb dX5_lay_63 (by decide) ⟨by omega, by omega⟩ (fun _ => ?_) (fun c => absurd c (by omega))
            obtain ⟨n, rfl⟩ : ∃ n : Nat, u = n := ⟨(u).toNat, by omega⟩
            obtain ⟨b, rfl⟩ : ∃ b : Nat, v2 = b := ⟨(v2).toNat, by omega⟩
            refine b_iconst hx hb dX5_lay_68 ?_
            refine lv_iload_n hx hb dX5_lay_69 rfl (lv_at hl 1 rfl) ?_
            refine b_imul hx hb dX5_lay_70 ?_
            refine lv_iload_n hx hb dX5_lay_71 rfl (lv_at hl 2 rfl) ?_
            refine b_iadd hx hb dX5_lay_72 ?_
            refine lv_istore (lv' := [(5, .int (z2 ((3 * ((n : Nat) : Int)) + ((b : Nat) : Int)))), (0, .ref bm), (1, .int (z2 (((n : Nat) : Int)))), (2, .int (z2 (((b : Nat) : Int)))), (3, .int (z2 (u3))), (4, .int (z2 (u4)))]) hx hb dX5_lay_73 hl (by decide) rfl (fun ls hl => ?_)
            refine lv_aload_n hx hb dX5_lay_75 rfl (lv_at hl 1 rfl) ?_
            refine g_get (C := RX5) (T := TX5) (N := 23) hx hb hts inX5 hown hG hM.1 rfl 5 (by decide) (by decide +kernel) rfl (v := .ref (bm + 4)) rfl dX5_lay_76 ?_
            refine lv_iload hx hb dX5_lay_79 (lv_at hl 0 rfl) ?_
            have b_81 : 0 ≤ X 5 (3 * n + b) ∧ X 5 (3 * n + b) ≤ 12 := hV.1 5 _ (by decide) rfl
            refine g_iald (n := 24) hx hb hG (f := fun i => z2 ((up X 22 0 (0)) 5 i)) (show ca D (bm + 4) (iA (ks 0) 24 (fun i => z2 ((up X 22 0 (0)) 5 i))) _ from hM.2.1 5 (sr_of (by decide))) (3 * n + b) ⟨by omega, by omega, by decide⟩ dX5_lay_81 ?_
            refine W.eq (g2 := F0 m 82 ls (.int (z2 (X 5 (3 * n + b))) :: [])) rfl ?_
            refine b_iconst hx hb dX5_lay_82 ?_
            refine b_isub hx hb dX5_lay_83 ?_
            refine lv_istore (lv' := [(6, .int (z2 ((X 5 (3 * n + b)) - 1))), (5, .int (z2 ((3 * ((n : Nat) : Int)) + ((b : Nat) : Int)))), (0, .ref bm), (1, .int (z2 (((n : Nat) : Int)))), (2, .int (z2 (((b : Nat) : Int)))), (3, .int (z2 (u3))), (4, .int (z2 (u4)))]) hx hb dX5_lay_84 hl (by decide) rfl (fun ls hl => ?_)
            refine lv_aload_n hx hb dX5_lay_86 rfl (lv_at hl 2 rfl) ?_
            refine g_get (C := RX5) (T := TX5) (N := 23) hx hb hts inX5 hown hG hM.1 rfl 5 (by decide) (by decide +kernel) rfl (v := .ref (bm + 4)) rfl dX5_lay_87 ?_
            refine lv_iload hx hb dX5_lay_90 (lv_at hl 1 rfl) ?_
            refine lv_iload_n hx hb dX5_lay_92 rfl (lv_at hl 5 rfl) ?_
            refine b_iconst hx hb dX5_lay_93 ?_
            refine b_iadd hx hb dX5_lay_94 ?_
            refine g_iast (n := 24) hx hb hG hS (f := fun i => z2 ((up X 22 0 (0)) 5 i)) (show ca D (bm + 4) (iA (ks 0) 24 (fun i => z2 ((up X 22 0 (0)) 5 i))) _ from hM.2.1 5 (sr_of (by decide))) (Or.inl ⟨by omega, by omega⟩) (3 * n + b) ⟨by omega, by omega, by decide⟩ dX5_lay_95 (fun H locs he hz oq hS => ?_)
            have hM : PM D ks bm (up (up X 22 0 (0)) 5 (3 * n + b) (u3 + 1)) H := hM.row (f := 5) (sr_of (by decide)) he oq
            refine lv_aload_n hx hb dX5_lay_96 rfl (lv_at hl 2 rfl) ?_
            refine g_get (C := RX5) (T := TX5) (N := 23) hx hb hts inX5 hown hG hM.1 rfl 6 (by decide) (by decide +kernel) rfl (v := .ref (bm + 5)) rfl dX5_lay_97 ?_
            refine lv_iload hx hb dX5_lay_100 (lv_at hl 1 rfl) ?_
            refine lv_iload hx hb dX5_lay_102 (lv_at hl 6 rfl) ?_
            refine g_iast (n := 24) hx hb hG hS (f := fun i => z2 ((up (up X 22 0 (0)) 5 (3 * n + b) (u3 + 1)) 6 i)) (show ca D (bm + 5) (iA (ks 0) 24 (fun i => z2 ((up (up X 22 0 (0)) 5 (3 * n + b) (u3 + 1)) 6 i))) _ from hM.2.1 6 (sr_of (by decide))) (Or.inl ⟨by omega, by omega⟩) (3 * n + b) ⟨by omega, by omega, by decide⟩ dX5_lay_104 (fun H locs he hz oq hS => ?_)
            have hM : PM D ks bm (up (up (up X 22 0 (0)) 5 (3 * n + b) (u3 + 1)) 6 (3 * n + b) (u4)) H := hM.row (f := 6) (sr_of (by decide)) he oq
            refine lv_aload_n hx hb dX5_lay_105 rfl (lv_at hl 2 rfl) ?_
            refine g_get (C := RX5) (T := TX5) (N := 23) hx hb hts inX5 hown hG hM.1 rfl 7 (by decide) (by decide +kernel) rfl (v := .ref (bm + 6)) rfl dX5_lay_106 ?_
            refine lv_iload hx hb dX5_lay_109 (lv_at hl 1 rfl) ?_
            refine b_iconst hx hb dX5_lay_111 ?_
            refine g_iast (n := 24) hx hb hG hS (f := fun i => z2 ((up (up (up X 22 0 (0)) 5 (3 * n + b) (u3 + 1)) 6 (3 * n + b) (u4)) 7 i)) (show ca D (bm + 6) (iA (ks 0) 24 (fun i => z2 ((up (up (up X 22 0 (0)) 5 (3 * n + b) (u3 + 1)) 6 (3 * n + b) (u4)) 7 i))) _ from hM.2.1 7 (sr_of (by decide))) (Or.inl ⟨by omega, by omega⟩) (3 * n + b) ⟨by omega, by omega, by decide⟩ dX5_lay_112 (fun H locs he hz oq hS => ?_)
            have hM : PM D ks bm (up (up (up (up X 22 0 (0)) 5 (3 * n + b) (u3 + 1)) 6 (3 * n + b) (u4)) 7 (3 * n + b) (0)) H := hM.row (f := 7) (sr_of (by decide)) he oq
            refine lv_iload hx hb dX5_lay_113 (lv_at hl 0 rfl) ?_
            exact g_iret hx hb hr hlocks hS ⟨Nat.le_of_ble_eq_true rfl, Nat.le_of_ble_eq_true rfl⟩ (⟨(X 5 (3 * n + b)) - 1, up (up (up (up X 22 0 (0)) 5 (3 * n + b) (u3 + 1)) 6 (3 * n + b) (u4)) 7 (3 * n + b) (0), Or.inl (⟨n, b, by omega, rfl, rfl⟩), rfl, hM⟩) dX5_lay_115
          · skip
            refine b_iconst hx hb dX5_lay_51 ?_
            refine lv_goto (tgt := 56) hx hb dX5_lay_52 (by decide) ?_
            refine g_put (C := RX5) (T := TX5) (N := 23) hx hb hts inX5 tyX5 tyX5_ok nmX5 hown hG hS hM.1 (Or.inl ⟨by omega, by omega⟩) rfl 22 (by decide) (by decide +kernel) rfl rfl (v := .int (z2 (2))) rfl rfl (Nat.le_of_ble_eq_true rfl) dX5_lay_56 (fun H locs he hz oq hS => ?_)
            have hM : PM D ks bm (up X 22 0 (2)) H := hM.own (k := 22) (by decide) he oq
            refine lv_aload_n hx hb dX5_lay_59 rfl (lv_at hl 0 rfl) ?_
            refine g_get (C := RX5) (T := TX5) (N := 23) hx hb hts inX5 hown hG hM.1 rfl 22 (by decide) (by decide +kernel) rfl (v := .int (z2 (2))) (congrArg (fun z => some (Value.int (z2 z))) (by simp [up] : (up X 22 0 (2)) 22 0 = 2)) dX5_lay_60 ?_
            refine b_if_le (tgt := 68) hx hb dX5_lay_63 (by decide) ⟨by omega, by omega⟩ (fun c => absurd c (by omega)) (fun _ => ?_)
            refine b_iconst hx hb dX5_lay_66 ?_
            exact g_iret hx hb hr hlocks hS ⟨Nat.le_of_ble_eq_true rfl, Nat.le_of_ble_eq_true rfl⟩ (⟨0, up X 22 0 (2), Or.inr (Or.inr (⟨by omega, rfl⟩)), rfl, hM⟩) dX5_lay_67
        · skip
          refine b_iconst hx hb dX5_lay_36 ?_
          refine lv_goto (tgt := 56) hx hb dX5_lay_37 (by decide) ?_
          refine g_put (C := RX5) (T := TX5) (N := 23) hx hb hts inX5 tyX5 tyX5_ok nmX5 hown hG hS hM.1 (Or.inl ⟨by omega, by omega⟩) rfl 22 (by decide) (by decide +kernel) rfl rfl (v := .int (z2 (1))) rfl rfl (Nat.le_of_ble_eq_true rfl) dX5_lay_56 (fun H locs he hz oq hS => ?_)
          have hM : PM D ks bm (up X 22 0 (1)) H := hM.own (k := 22) (by decide) he oq
          refine lv_aload_n hx hb dX5_lay_59 rfl (lv_at hl 0 rfl) ?_
          refine g_get (C := RX5) (T := TX5) (N := 23) hx hb hts inX5 hown hG hM.1 rfl 22 (by decide) (by decide +kernel) rfl (v := .int (z2 (1))) (congrArg (fun z => some (Value.int (z2 z))) (by simp [up] : (up X 22 0 (1)) 22 0 = 1)) dX5_lay_60 ?_
          refine b_if_le (tgt := 68) hx hb dX5_lay_63 (by decide) ⟨by omega, by omega⟩ (fun c => absurd c (by omega)) (fun _ => ?_)
          refine b_iconst hx hb dX5_lay_66 ?_
          exact g_iret hx hb hr hlocks hS ⟨Nat.le_of_ble_eq_true rfl, Nat.le_of_ble_eq_true rfl⟩ (⟨0, up X 22 0 (1), Or.inr (Or.inl (⟨by omega, rfl⟩)), rfl, hM⟩) dX5_lay_67
set_option maxHeartbeats 4000000 in
set_option maxRecDepth 100000 in
theorem m_press (l : Launch) (D : va_G) (ks : Nat → ClassId) (bx : Nat) (bm : Nat) (hbm : bx ≤ bm) (X : Nat → Nat → Int) (H : Heap) (hM : PM D ks bm X H) (hV : VS X) (u v2 : Int) (hu : -2147483648 ≤ u ∧ u < 2147483648) (hv2 : -2147483648 ≤ v2 ∧ v2 < 2147483648) : KM l yX5_press wsX5_press ({ frames := 2, cells := 0, slots := 0, locals := 42 } : Room) D ks bx [.ref bm, .int (z2 u), .int (z2 v2)] H (RM bm) (fun v H1 => ∃ (r : Int) (Y : Nat → Nat → Int), ro_press X u v2 r Y ∧ v = some (.int (z2 r)) ∧ PM D ks bm Y H1) (fun _ _ => False) := by
  refine KM.of (cc := cX5_press) (maxL := 8) (ret := (some .int)) (by decide) rfl (Nat.le_of_ble_eq_true rfl) ?_
  intro p e s m below meth c hx hb hml hr hlocks hown hname hts hext hH0 hG ls hl
  subst hH0
  have hown : s.vm.findClass RX5 = some m.cls := hown
  have hS : va_S (AR (RM bm) s.heap.size) s.heap s.heap [] := va_S.rf
  have hl : lv_has ls 8 [(0, .ref bm), (1, .int (z2 (u))), (2, .int (z2 (v2)))] := hl
  have inX5 : ∀ w ∈ wsX50, w ∈ wsX5_press := by decide +kernel
  refine lv_aload_n hx hb dX5_press_0 rfl (lv_at hl 0 rfl) ?_
  refine lv_iload_n hx hb dX5_press_1 rfl (lv_at hl 1 rfl) ?_
  refine g_run (vx_runS (As := [.int (z2 (u))]) (rest := [.ref bm]) ⟨hx, hb, hml, hown, hts⟩ (m_isHouse l D ks bx bm hbm _ (u) ⟨by omega, by omega⟩) (cwS 1 hts gX5_press_X5_isHouse rfl rfl rfl (by decide +kernel) ⟨Nat.le_of_ble_eq_true rfl, Nat.le_of_ble_eq_true rfl⟩) (g_preS hG hS (rm_ge hbm)) rfl rfl hl.1 rfl (lv_room (Nat.le_of_ble_eq_true rfl)) dX5_press_2 ⟨Nat.le_of_ble_eq_true rfl, Nat.le_of_ble_eq_true rfl⟩) hS (fun _ h => h) (fun _ _ _ _ _ h => h.elim) (fun v H1 locs hp hz9 hk9 hS => ?_)
  obtain ⟨rfl, hH9⟩ := hp
  obtain rfl := hH9.symm
  obtain ⟨iv_2, ev_2, ib_2⟩ : ∃ z : Int, z = (if 0 ≤ u ∧ u ≤ 7 then 1 else 0) ∧ (((0 ≤ u ∧ u ≤ 7) ∧ z = 1) ∨ (¬ (0 ≤ u ∧ u ≤ 7) ∧ z = 0)) := ⟨_, rfl, by split <;> omega⟩
  rw [← ev_2]
  refine W.eq (g2 := F0 m 5 ls [.int (z2 (iv_2)), .ref bm]) rfl ?_
  refine b_if_eq (tgt := 17) hx hb dX5_press_5 (by decide) ⟨by omega, by omega⟩ (fun c_5 => ?_) (fun c_5 => ?_)
  · skip
    refine b_iconst hx hb dX5_press_17 ?_
    refine lv_goto (tgt := 22) hx hb dX5_press_18 (by decide) ?_
    refine g_put (C := RX5) (T := TX5) (N := 23) hx hb hts inX5 tyX5 tyX5_ok nmX5 hown hG hS hM.1 (Or.inl ⟨by omega, by omega⟩) rfl 22 (by decide) (by decide +kernel) rfl rfl (v := .int (z2 (1))) rfl rfl (Nat.le_of_ble_eq_true rfl) dX5_press_22 (fun H locs he hz oq hS => ?_)
    have hM : PM D ks bm (up X 22 0 (1)) H := hM.own (k := 22) (by decide) he oq
    refine lv_aload_n hx hb dX5_press_25 rfl (lv_at hl 0 rfl) ?_
    refine g_get (C := RX5) (T := TX5) (N := 23) hx hb hts inX5 hown hG hM.1 rfl 22 (by decide) (by decide +kernel) rfl (v := .int (z2 (1))) (congrArg (fun z => some (Value.int (z2 z))) (by simp [up] : (up X 22 0 (1)) 22 0 = 1)) dX5_press_26 ?_
    refine b_if_le (tgt := 34) hx hb dX5_press_29 (by decide) ⟨by omega, by omega⟩ (fun c => absurd c (by omega)) (fun _ => ?_)
    refine b_iconst hx hb dX5_press_32 ?_
    exact g_iret hx hb hr hlocks hS ⟨Nat.le_of_ble_eq_true rfl, Nat.le_of_ble_eq_true rfl⟩ (⟨0, up X 22 0 (1), Or.inr (Or.inl (⟨by omega, rfl⟩)), rfl, hM⟩) dX5_press_33
  · skip
    refine lv_iload_n hx hb dX5_press_8 rfl (lv_at hl 2 rfl) ?_
    refine b_iconst hx hb dX5_press_9 ?_
    refine b_iconst hx hb dX5_press_10 ?_
    refine g_run (vx_runS (As := [.int (z2 (v2)), .int (z2 (0)), .int (z2 (2))]) (rest := [.ref bm]) ⟨hx, hb, hml, hown, hts⟩ (m_in l D ks bx bm _ (v2) (0) (2) ⟨⟨by omega, by omega⟩, ⟨by omega, by omega⟩, by omega, by omega⟩) (cwS 3 hts gX5_press_X5_in rfl rfl rfl (by decide +kernel) ⟨Nat.le_of_ble_eq_true rfl, Nat.le_of_ble_eq_true rfl⟩) (g_preS hG hS (rm_ge hbm)) rfl rfl hl.1 rfl (lv_room (Nat.le_of_ble_eq_true rfl)) dX5_press_11 ⟨Nat.le_of_ble_eq_true rfl, Nat.le_of_ble_eq_true rfl⟩) hS (fun _ h => h) (fun _ _ _ _ _ h => h.elim) (fun v H1 locs hp hz9 hk9 hS => ?_)
    obtain ⟨rfl, hH9⟩ := hp
    obtain rfl := hH9.symm
    obtain ⟨iv_11, ev_11, ib_11⟩ : ∃ z : Int, z = (if 0 ≤ v2 ∧ v2 ≤ 2 then 1 else 0) ∧ (((0 ≤ v2 ∧ v2 ≤ 2) ∧ z = 1) ∨ (¬ (0 ≤ v2 ∧ v2 ≤ 2) ∧ z = 0)) := ⟨_, rfl, by split <;> omega⟩
    rw [← ev_11]
    refine W.eq (g2 := F0 m 14 ls [.int (z2 (iv_11)), .ref bm]) rfl ?_
    refine b_if_ne (tgt := 21) hx hb dX5_press_14 (by decide) ⟨by omega, by omega⟩ (fun c_14 => ?_) (fun c_14 => ?_)
    · skip
      refine b_iconst hx hb dX5_press_21 ?_
      refine g_put (C := RX5) (T := TX5) (N := 23) hx hb hts inX5 tyX5 tyX5_ok nmX5 hown hG hS hM.1 (Or.inl ⟨by omega, by omega⟩) rfl 22 (by decide) (by decide +kernel) rfl rfl (v := .int (z2 (0))) rfl rfl (Nat.le_of_ble_eq_true rfl) dX5_press_22 (fun H locs he hz oq hS => ?_)
      have hM : PM D ks bm (up X 22 0 (0)) H := hM.own (k := 22) (by decide) he oq
      refine lv_aload_n hx hb dX5_press_25 rfl (lv_at hl 0 rfl) ?_
      refine g_get (C := RX5) (T := TX5) (N := 23) hx hb hts inX5 hown hG hM.1 rfl 22 (by decide) (by decide +kernel) rfl (v := .int (z2 (0))) (congrArg (fun z => some (Value.int (z2 z))) (by simp [up] : (up X 22 0 (0)) 22 0 = 0)) dX5_press_26 ?_
      refine b_if_le (tgt := 34) hx hb dX5_press_29 (by decide) ⟨by omega, by omega⟩ (fun _ => ?_) (fun c => absurd c (by omega))
      obtain ⟨n, rfl⟩ : ∃ n : Nat, u = n := ⟨(u).toNat, by omega⟩
      obtain ⟨b, rfl⟩ : ∃ b : Nat, v2 = b := ⟨(v2).toNat, by omega⟩
      refine b_iconst hx hb dX5_press_34 ?_
      refine lv_iload_n hx hb dX5_press_35 rfl (lv_at hl 1 rfl) ?_
      refine b_imul hx hb dX5_press_36 ?_
      refine lv_iload_n hx hb dX5_press_37 rfl (lv_at hl 2 rfl) ?_
      refine b_iadd hx hb dX5_press_38 ?_
      refine lv_istore_n (lv' := [(3, .int (z2 ((3 * ((n : Nat) : Int)) + ((b : Nat) : Int)))), (0, .ref bm), (1, .int (z2 (((n : Nat) : Int)))), (2, .int (z2 (((b : Nat) : Int))))]) hx hb dX5_press_39 rfl hl (by decide) rfl (fun ls hl => ?_)
      refine lv_aload_n hx hb dX5_press_40 rfl (lv_at hl 1 rfl) ?_
      refine g_get (C := RX5) (T := TX5) (N := 23) hx hb hts inX5 hown hG hM.1 rfl 5 (by decide) (by decide +kernel) rfl (v := .ref (bm + 4)) rfl dX5_press_41 ?_
      refine lv_iload_n hx hb dX5_press_44 rfl (lv_at hl 0 rfl) ?_
      have b_45 : 0 ≤ X 5 (3 * n + b) ∧ X 5 (3 * n + b) ≤ 12 := hV.1 5 _ (by decide) rfl
      refine g_iald (n := 24) hx hb hG (f := fun i => z2 ((up X 22 0 (0)) 5 i)) (show ca D (bm + 4) (iA (ks 0) 24 (fun i => z2 ((up X 22 0 (0)) 5 i))) _ from hM.2.1 5 (sr_of (by decide))) (3 * n + b) ⟨by omega, by omega, by decide⟩ dX5_press_45 ?_
      refine W.eq (g2 := F0 m 46 ls (.int (z2 (X 5 (3 * n + b))) :: [])) rfl ?_
      refine b_if_ne (tgt := 55) hx hb dX5_press_46 (by decide) ⟨by omega, by omega⟩ (fun c_46 => ?_) (fun c_46 => ?_)
      · skip
        obtain ⟨k, hk5⟩ : ∃ k : Nat, X 5 (3 * n + b) = k + 1 := ⟨(X 5 (3 * n + b) - 1).toNat, by omega⟩
        refine lv_aload_n hx hb dX5_press_55 rfl (lv_at hl 1 rfl) ?_
        refine g_get (C := RX5) (T := TX5) (N := 23) hx hb hts inX5 hown hG hM.1 rfl 11 (by decide) (by decide +kernel) rfl (v := .ref (bm + 10)) rfl dX5_press_56 ?_
        refine lv_iload_n hx hb dX5_press_59 rfl (lv_at hl 2 rfl) ?_
        have b_60 : 0 ≤ X 11 n ∧ X 11 n ≤ 1 := hV.1 11 _ (by decide) rfl
        refine g_iald (n := 8) hx hb hG (f := fun i => z2 ((up X 22 0 (0)) 11 i)) (show ca D (bm + 10) (iA (ks 0) 8 (fun i => z2 ((up X 22 0 (0)) 11 i))) _ from hM.2.1 11 (sr_of (by decide))) n ⟨by omega, by omega, by decide⟩ dX5_press_60 ?_
        refine W.eq (g2 := F0 m 61 ls (.int (z2 (X 11 n)) :: [])) rfl ?_
        refine b_iconst hx hb dX5_press_61 ?_
        refine b_icmp_eq (tgt := 74) hx hb dX5_press_62 (by decide) ⟨⟨by omega, by omega⟩, ⟨by omega, by omega⟩⟩ (fun c_62 => ?_) (fun c_62 => ?_)
        · skip
          refine b_iconst hx hb dX5_press_74 ?_
          have e9 : pmS X (up X 22 0 0) n (3 * n + b) k = up X 22 0 (0) := by
            unfold pmS plM
            (repeat' split) <;> first | rfl | omega
          have e8 : (0 : Int) = pmV X n (3 * n + b) k := by
            unfold pmV plM
            (repeat' split) <;> omega
          exact g_iret hx hb hr hlocks hS ⟨Nat.le_of_ble_eq_true rfl, Nat.le_of_ble_eq_true rfl⟩ (⟨0, up X 22 0 (0), Or.inl (⟨n, b, k, by omega, e8, e9.symm⟩), rfl, hM⟩) dX5_press_75
        · skip
          refine lv_aload_n hx hb dX5_press_65 rfl (lv_at hl 1 rfl) ?_
          refine g_get (C := RX5) (T := TX5) (N := 23) hx hb hts inX5 hown hG hM.1 rfl 7 (by decide) (by decide +kernel) rfl (v := .ref (bm + 6)) rfl dX5_press_66 ?_
          refine lv_iload_n hx hb dX5_press_69 rfl (lv_at hl 0 rfl) ?_
          have b_70 : 0 ≤ X 7 (3 * n + b) ∧ X 7 (3 * n + b) ≤ 1000024 := hV.1 7 _ (by decide) rfl
          refine g_iald (n := 24) hx hb hG (f := fun i => z2 ((up X 22 0 (0)) 7 i)) (show ca D (bm + 6) (iA (ks 0) 24 (fun i => z2 ((up X 22 0 (0)) 7 i))) _ from hM.2.1 7 (sr_of (by decide))) (3 * n + b) ⟨by omega, by omega, by decide⟩ dX5_press_70 ?_
          refine W.eq (g2 := F0 m 71 ls (.int (z2 (X 7 (3 * n + b))) :: [])) rfl ?_
          refine b_if_le (tgt := 76) hx hb dX5_press_71 (by decide) ⟨by omega, by omega⟩ (fun c_71 => ?_) (fun c_71 => ?_)
          · skip
            refine lv_aload_n hx hb dX5_press_76 rfl (lv_at hl 1 rfl) ?_
            refine lv_iload_n hx hb dX5_press_77 rfl (lv_at hl 2 rfl) ?_
            refine g_run (vx_runV (As := [.int (z2 (((n : Nat) : Int)))]) (rest := []) ⟨hx, hb, hml, hown, hts⟩ (m_isQuiet l D ks bx bm hbm (up X 22 0 (0)) _ hM (vs_uf (hV) (by decide)) (n := n) (((n : Nat) : Int)) ⟨by omega, by omega⟩) (cwV 1 hts gX5_press_X5_isQuiet rfl rfl rfl (by decide +kernel) ⟨Nat.le_of_ble_eq_true rfl, Nat.le_of_ble_eq_true rfl⟩) (g_preV (r := (RX5, TX5, 23)) hG hS (rm_ge hbm) hM.1 rfl) rfl rfl hl.1 rfl (lv_room (Nat.le_of_ble_eq_true rfl)) dX5_press_78 ⟨Nat.le_of_ble_eq_true rfl, Nat.le_of_ble_eq_true rfl⟩) hS (fun _ h => h) (fun _ _ _ _ _ h => h.elim) (fun v H1 locs hp hz9 hk9 hS => ?_)
            obtain ⟨rfl, hH9⟩ := hp
            obtain rfl := hH9.symm
            have qe_78 : qM (up X 22 0 (0)) n = qM X n := by unfold qM; simp [up]
            rw [qe_78]
            have qb_78 := qM_b X n
            refine W.eq (g2 := F0 m 81 ls [.int (z2 (qM X n))]) rfl ?_
            refine b_if_eq (tgt := 96) hx hb dX5_press_81 (by decide) ⟨by omega, by omega⟩ (fun c_81 => ?_) (fun c_81 => ?_)
            · skip
              refine b_bipush hx hb dX5_press_96 (by decide +kernel) ?_
              refine lv_iload_n hx hb dX5_press_98 rfl (lv_at hl 2 rfl) ?_
              refine b_imul hx hb dX5_press_99 ?_
              refine lv_aload_n hx hb dX5_press_100 rfl (lv_at hl 1 rfl) ?_
              refine g_get (C := RX5) (T := TX5) (N := 23) hx hb hts inX5 hown hG hM.1 rfl 5 (by decide) (by decide +kernel) rfl (v := .ref (bm + 4)) rfl dX5_press_101 ?_
              refine lv_iload_n hx hb dX5_press_104 rfl (lv_at hl 0 rfl) ?_
              have b_105 : 0 ≤ X 5 (3 * n + b) ∧ X 5 (3 * n + b) ≤ 12 := hV.1 5 _ (by decide) rfl
              refine g_iald (n := 24) hx hb hG (f := fun i => z2 ((up X 22 0 (0)) 5 i)) (show ca D (bm + 4) (iA (ks 0) 24 (fun i => z2 ((up X 22 0 (0)) 5 i))) _ from hM.2.1 5 (sr_of (by decide))) (3 * n + b) ⟨by omega, by omega, by decide⟩ dX5_press_105 ?_
              refine W.eq (g2 := F0 m 106 ls (.int (z2 (X 5 (3 * n + b))) :: [.int (z2 (12 * ((n : Nat) : Int)))])) rfl ?_
              refine b_iadd hx hb dX5_press_106 ?_
              refine b_iconst hx hb dX5_press_107 ?_
              refine b_isub hx hb dX5_press_108 ?_
              refine lv_istore (lv' := [(4, .int (z2 (((12 * ((n : Nat) : Int)) + (X 5 (3 * n + b))) - 1))), (3, .int (z2 ((3 * ((n : Nat) : Int)) + ((b : Nat) : Int)))), (0, .ref bm), (1, .int (z2 (((n : Nat) : Int)))), (2, .int (z2 (((b : Nat) : Int))))]) hx hb dX5_press_109 hl (by decide) rfl (fun ls hl => ?_)
              refine lv_aload_n hx hb dX5_press_111 rfl (lv_at hl 2 rfl) ?_
              refine g_get (C := RX5) (T := TX5) (N := 23) hx hb hts inX5 hown hG hM.1 rfl 2 (by decide) (by decide +kernel) rfl (v := .ref (bm + 1)) rfl dX5_press_112 ?_
              refine lv_aload_n hx hb dX5_press_115 rfl (lv_at hl 2 rfl) ?_
              refine g_get (C := RX5) (T := TX5) (N := 23) hx hb hts inX5 hown hG hM.1 rfl 5 (by decide) (by decide +kernel) rfl (v := .ref (bm + 4)) rfl dX5_press_116 ?_
              refine lv_iload_n hx hb dX5_press_119 rfl (lv_at hl 1 rfl) ?_
              have b_120 : 0 ≤ X 5 (3 * n + b) ∧ X 5 (3 * n + b) ≤ 12 := hV.1 5 _ (by decide) rfl
              refine g_iald (n := 24) hx hb hG (f := fun i => z2 ((up X 22 0 (0)) 5 i)) (show ca D (bm + 4) (iA (ks 0) 24 (fun i => z2 ((up X 22 0 (0)) 5 i))) _ from hM.2.1 5 (sr_of (by decide))) (3 * n + b) ⟨by omega, by omega, by decide⟩ dX5_press_120 ?_
              refine W.eq (g2 := F0 m 121 ls (.int (z2 (X 5 (3 * n + b))) :: [.ref (bm + 1)])) rfl ?_
              refine b_iconst hx hb dX5_press_121 ?_
              refine b_isub hx hb dX5_press_122 ?_
              have b_123 : 0 ≤ X 2 k ∧ X 2 k ≤ 7 := hV.1 2 _ (by decide) rfl
              refine g_iald (n := 12) hx hb hG (f := fun i => z2 ((up X 22 0 (0)) 2 i)) (show ca D (bm + 1) (iA (ks 0) 12 (fun i => z2 ((up X 22 0 (0)) 2 i))) _ from hM.2.1 2 (sr_of (by decide))) k ⟨by omega, by omega, by decide⟩ dX5_press_123 ?_
              refine W.eq (g2 := F0 m 124 ls (.int (z2 (X 2 k)) :: [])) rfl ?_
              refine lv_iload_n hx hb dX5_press_124 rfl (lv_at hl 3 rfl) ?_
              refine b_icmp_ne (tgt := 132) hx hb dX5_press_125 (by decide) ⟨⟨by omega, by omega⟩, ⟨by omega, by omega⟩⟩ (fun c_125 => ?_) (fun c_125 => ?_)
              · skip
                refine b_iconst hx hb dX5_press_132 ?_
                refine lv_istore (lv' := [(5, .int (z2 (0))), (4, .int (z2 (((12 * ((n : Nat) : Int)) + (X 5 (3 * n + b))) - 1))), (3, .int (z2 ((3 * ((n : Nat) : Int)) + ((b : Nat) : Int)))), (0, .ref bm), (1, .int (z2 (((n : Nat) : Int)))), (2, .int (z2 (((b : Nat) : Int))))]) hx hb dX5_press_133 hl (by decide) rfl (fun ls hl => ?_)
                refine lv_iload hx hb dX5_press_135 (lv_at hl 0 rfl) ?_
                refine b_if_ne (tgt := 152) hx hb dX5_press_137 (by decide) ⟨by omega, by omega⟩ (fun c => absurd c (by omega)) (fun _ => ?_)
                refine lv_aload_n hx hb dX5_press_140 rfl (lv_at hl 3 rfl) ?_
                refine g_get (C := RX5) (T := TX5) (N := 23) hx hb hts inX5 hown hG hM.1 rfl 8 (by decide) (by decide +kernel) rfl (v := .ref (bm + 7)) rfl dX5_press_141 ?_
                refine lv_iload hx hb dX5_press_144 (lv_at hl 1 rfl) ?_
                have b_146 : 0 ≤ X 8 (12 * n + k) ∧ X 8 (12 * n + k) ≤ 1000 := hV.1 8 _ (by decide) rfl
                refine g_iald (n := 96) hx hb hG (f := fun i => z2 ((up X 22 0 (0)) 8 i)) (show ca D (bm + 7) (iA (ks 0) 96 (fun i => z2 ((up X 22 0 (0)) 8 i))) _ from hM.2.1 8 (sr_of (by decide))) (12 * n + k) ⟨by omega, by omega, by decide⟩ dX5_press_146 ?_
                refine W.eq (g2 := F0 m 147 ls (.int (z2 (X 8 (12 * n + k))) :: [])) rfl ?_
                refine b_if_ne (tgt := 152) hx hb dX5_press_147 (by decide) ⟨by omega, by omega⟩ (fun c_147 => ?_) (fun c_147 => ?_)
                · skip
                  refine lv_aload_n hx hb dX5_press_152 rfl (lv_at hl 3 rfl) ?_
                  refine g_get (C := RX5) (T := TX5) (N := 23) hx hb hts inX5 hown hG hM.1 rfl 6 (by decide) (by decide +kernel) rfl (v := .ref (bm + 5)) rfl dX5_press_153 ?_
                  refine lv_iload_n hx hb dX5_press_156 rfl (lv_at hl 2 rfl) ?_
                  have b_157 : 1 ≤ X 6 (3 * n + b) ∧ X 6 (3 * n + b) ≤ 9 := hV.1 6 _ (by decide) rfl
                  refine g_iald (n := 24) hx hb hG (f := fun i => z2 ((up X 22 0 (0)) 6 i)) (show ca D (bm + 5) (iA (ks 0) 24 (fun i => z2 ((up X 22 0 (0)) 6 i))) _ from hM.2.1 6 (sr_of (by decide))) (3 * n + b) ⟨by omega, by omega, by decide⟩ dX5_press_157 ?_
                  refine W.eq (g2 := F0 m 158 ls (.int (z2 (X 6 (3 * n + b))) :: [])) rfl ?_
                  refine lv_istore (lv' := [(6, .int (z2 (X 6 (3 * n + b)))), (5, .int (z2 (0))), (4, .int (z2 (((12 * ((n : Nat) : Int)) + (X 5 (3 * n + b))) - 1))), (3, .int (z2 ((3 * ((n : Nat) : Int)) + ((b : Nat) : Int)))), (0, .ref bm), (1, .int (z2 (((n : Nat) : Int)))), (2, .int (z2 (((b : Nat) : Int))))]) hx hb dX5_press_158 hl (by decide) rfl (fun ls hl => ?_)
                  refine b_iconst hx hb dX5_press_160 ?_
                  refine lv_istore (lv' := [(7, .int (z2 (0))), (6, .int (z2 (X 6 (3 * n + b)))), (5, .int (z2 (0))), (4, .int (z2 (((12 * ((n : Nat) : Int)) + (X 5 (3 * n + b))) - 1))), (3, .int (z2 ((3 * ((n : Nat) : Int)) + ((b : Nat) : Int)))), (0, .ref bm), (1, .int (z2 (((n : Nat) : Int)))), (2, .int (z2 (((b : Nat) : Int))))]) hx hb dX5_press_161 hl (by decide) rfl (fun ls hl => ?_)
                  refine lv_iload hx hb dX5_press_163 (lv_at hl 0 rfl) ?_
                  refine b_iconst hx hb dX5_press_165 ?_
                  refine b_icmp_ge (tgt := 209) hx hb dX5_press_166 (by decide) ⟨⟨by omega, by omega⟩, ⟨by omega, by omega⟩⟩ (fun c => absurd c (by omega)) (fun _ => ?_)
                  refine lv_iload hx hb dX5_press_169 (lv_at hl 1 rfl) ?_
                  refine lv_aload_n hx hb dX5_press_171 rfl (lv_at hl 5 rfl) ?_
                  refine g_get (C := RX5) (T := TX5) (N := 23) hx hb hts inX5 hown hG hM.1 rfl 7 (by decide) (by decide +kernel) rfl (v := .ref (bm + 6)) rfl dX5_press_172 ?_
                  refine b_iconst hx hb dX5_press_175 ?_
                  refine lv_iload_n hx hb dX5_press_176 rfl (lv_at hl 6 rfl) ?_
                  refine b_imul hx hb dX5_press_177 ?_
                  refine lv_iload hx hb dX5_press_178 (lv_at hl 0 rfl) ?_
                  refine b_iadd hx hb dX5_press_180 ?_
                  have b_181 : 0 ≤ X 7 (3 * n + 0) ∧ X 7 (3 * n + 0) ≤ 1000024 := hV.1 7 _ (by decide) rfl
                  refine g_iald (n := 24) hx hb hG (f := fun i => z2 ((up X 22 0 (0)) 7 i)) (show ca D (bm + 6) (iA (ks 0) 24 (fun i => z2 ((up X 22 0 (0)) 7 i))) _ from hM.2.1 7 (sr_of (by decide))) (3 * n + 0) ⟨by omega, by omega, by decide⟩ dX5_press_181 ?_
                  refine W.eq (g2 := F0 m 182 ls (.int (z2 (X 7 (3 * n + 0))) :: [.int (z2 (X 6 (3 * n + b)))])) rfl ?_
                  refine b_if_le (tgt := 199) hx hb dX5_press_182 (by decide) ⟨by omega, by omega⟩ (fun c_182 => ?_) (fun c_182 => ?_)
                  · skip
                    refine b_iconst hx hb dX5_press_199 ?_
                    refine b_iadd hx hb dX5_press_200 ?_
                    refine lv_istore (lv' := [(6, .int (z2 ((X 6 (3 * n + b)) + 0))), (7, .int (z2 (0))), (5, .int (z2 (0))), (4, .int (z2 (((12 * ((n : Nat) : Int)) + (X 5 (3 * n + b))) - 1))), (3, .int (z2 ((3 * ((n : Nat) : Int)) + ((b : Nat) : Int)))), (0, .ref bm), (1, .int (z2 (((n : Nat) : Int)))), (2, .int (z2 (((b : Nat) : Int))))]) hx hb dX5_press_201 hl (by decide) rfl (fun ls hl => ?_)
                    refine b_iinc (lv' := [(7, .int (z2 (1))), (6, .int (z2 ((X 6 (3 * n + b)) + 0))), (5, .int (z2 (0))), (4, .int (z2 (((12 * ((n : Nat) : Int)) + (X 5 (3 * n + b))) - 1))), (3, .int (z2 ((3 * ((n : Nat) : Int)) + ((b : Nat) : Int)))), (0, .ref bm), (1, .int (z2 (((n : Nat) : Int)))), (2, .int (z2 (((b : Nat) : Int))))]) hx hb dX5_press_203 hl (k := 1) rfl (by decide) rfl (fun ls hl => ?_)
                    refine lv_goto (tgt := 163) hx hb dX5_press_206 (by decide) ?_
                    refine lv_iload hx hb dX5_press_163 (lv_at hl 0 rfl) ?_
                    refine b_iconst hx hb dX5_press_165 ?_
                    refine b_icmp_ge (tgt := 209) hx hb dX5_press_166 (by decide) ⟨⟨by omega, by omega⟩, ⟨by omega, by omega⟩⟩ (fun c => absurd c (by omega)) (fun _ => ?_)
                    refine lv_iload hx hb dX5_press_169 (lv_at hl 1 rfl) ?_
                    refine lv_aload_n hx hb dX5_press_171 rfl (lv_at hl 5 rfl) ?_
                    refine g_get (C := RX5) (T := TX5) (N := 23) hx hb hts inX5 hown hG hM.1 rfl 7 (by decide) (by decide +kernel) rfl (v := .ref (bm + 6)) rfl dX5_press_172 ?_
                    refine b_iconst hx hb dX5_press_175 ?_
                    refine lv_iload_n hx hb dX5_press_176 rfl (lv_at hl 6 rfl) ?_
                    refine b_imul hx hb dX5_press_177 ?_
                    refine lv_iload hx hb dX5_press_178 (lv_at hl 0 rfl) ?_
                    refine b_iadd hx hb dX5_press_180 ?_
                    have b_181 : 0 ≤ X 7 (3 * n + 1) ∧ X 7 (3 * n + 1) ≤ 1000024 := hV.1 7 _ (by decide) rfl
                    refine g_iald (n := 24) hx hb hG (f := fun i => z2 ((up X 22 0 (0)) 7 i)) (show ca D (bm + 6) (iA (ks 0) 24 (fun i => z2 ((up X 22 0 (0)) 7 i))) _ from hM.2.1 7 (sr_of (by decide))) (3 * n + 1) ⟨by omega, by omega, by decide⟩ dX5_press_181 ?_
                    refine W.eq (g2 := F0 m 182 ls (.int (z2 (X 7 (3 * n + 1))) :: [.int (z2 ((X 6 (3 * n + b)) + 0))])) rfl ?_
                    refine b_if_le (tgt := 199) hx hb dX5_press_182 (by decide) ⟨by omega, by omega⟩ (fun c_182 => ?_) (fun c_182 => ?_)
                    · skip
                      refine b_iconst hx hb dX5_press_199 ?_
                      refine b_iadd hx hb dX5_press_200 ?_
                      refine lv_istore (lv' := [(6, .int (z2 (((X 6 (3 * n + b)) + 0) + 0))), (7, .int (z2 (1))), (5, .int (z2 (0))), (4, .int (z2 (((12 * ((n : Nat) : Int)) + (X 5 (3 * n + b))) - 1))), (3, .int (z2 ((3 * ((n : Nat) : Int)) + ((b : Nat) : Int)))), (0, .ref bm), (1, .int (z2 (((n : Nat) : Int)))), (2, .int (z2 (((b : Nat) : Int))))]) hx hb dX5_press_201 hl (by decide) rfl (fun ls hl => ?_)
                      refine b_iinc (lv' := [(7, .int (z2 (2))), (6, .int (z2 (((X 6 (3 * n + b)) + 0) + 0))), (5, .int (z2 (0))), (4, .int (z2 (((12 * ((n : Nat) : Int)) + (X 5 (3 * n + b))) - 1))), (3, .int (z2 ((3 * ((n : Nat) : Int)) + ((b : Nat) : Int)))), (0, .ref bm), (1, .int (z2 (((n : Nat) : Int)))), (2, .int (z2 (((b : Nat) : Int))))]) hx hb dX5_press_203 hl (k := 1) rfl (by decide) rfl (fun ls hl => ?_)
                      refine lv_goto (tgt := 163) hx hb dX5_press_206 (by decide) ?_
                      refine lv_iload hx hb dX5_press_163 (lv_at hl 0 rfl) ?_
                      refine b_iconst hx hb dX5_press_165 ?_
                      refine b_icmp_ge (tgt := 209) hx hb dX5_press_166 (by decide) ⟨⟨by omega, by omega⟩, ⟨by omega, by omega⟩⟩ (fun c => absurd c (by omega)) (fun _ => ?_)
                      refine lv_iload hx hb dX5_press_169 (lv_at hl 1 rfl) ?_
                      refine lv_aload_n hx hb dX5_press_171 rfl (lv_at hl 5 rfl) ?_
                      refine g_get (C := RX5) (T := TX5) (N := 23) hx hb hts inX5 hown hG hM.1 rfl 7 (by decide) (by decide +kernel) rfl (v := .ref (bm + 6)) rfl dX5_press_172 ?_
                      refine b_iconst hx hb dX5_press_175 ?_
                      refine lv_iload_n hx hb dX5_press_176 rfl (lv_at hl 6 rfl) ?_
                      refine b_imul hx hb dX5_press_177 ?_
                      refine lv_iload hx hb dX5_press_178 (lv_at hl 0 rfl) ?_
                      refine b_iadd hx hb dX5_press_180 ?_
                      have b_181 : 0 ≤ X 7 (3 * n + 2) ∧ X 7 (3 * n + 2) ≤ 1000024 := hV.1 7 _ (by decide) rfl
                      refine g_iald (n := 24) hx hb hG (f := fun i => z2 ((up X 22 0 (0)) 7 i)) (show ca D (bm + 6) (iA (ks 0) 24 (fun i => z2 ((up X 22 0 (0)) 7 i))) _ from hM.2.1 7 (sr_of (by decide))) (3 * n + 2) ⟨by omega, by omega, by decide⟩ dX5_press_181 ?_
                      refine W.eq (g2 := F0 m 182 ls (.int (z2 (X 7 (3 * n + 2))) :: [.int (z2 (((X 6 (3 * n + b)) + 0) + 0))])) rfl ?_
                      refine b_if_le (tgt := 199) hx hb dX5_press_182 (by decide) ⟨by omega, by omega⟩ (fun c_182 => ?_) (fun c_182 => ?_)
                      · skip
                        refine b_iconst hx hb dX5_press_199 ?_
                        refine b_iadd hx hb dX5_press_200 ?_
                        refine lv_istore (lv' := [(6, .int (z2 ((((X 6 (3 * n + b)) + 0) + 0) + 0))), (7, .int (z2 (2))), (5, .int (z2 (0))), (4, .int (z2 (((12 * ((n : Nat) : Int)) + (X 5 (3 * n + b))) - 1))), (3, .int (z2 ((3 * ((n : Nat) : Int)) + ((b : Nat) : Int)))), (0, .ref bm), (1, .int (z2 (((n : Nat) : Int)))), (2, .int (z2 (((b : Nat) : Int))))]) hx hb dX5_press_201 hl (by decide) rfl (fun ls hl => ?_)
                        refine b_iinc (lv' := [(7, .int (z2 (3))), (6, .int (z2 ((((X 6 (3 * n + b)) + 0) + 0) + 0))), (5, .int (z2 (0))), (4, .int (z2 (((12 * ((n : Nat) : Int)) + (X 5 (3 * n + b))) - 1))), (3, .int (z2 ((3 * ((n : Nat) : Int)) + ((b : Nat) : Int)))), (0, .ref bm), (1, .int (z2 (((n : Nat) : Int)))), (2, .int (z2 (((b : Nat) : Int))))]) hx hb dX5_press_203 hl (k := 1) rfl (by decide) rfl (fun ls hl => ?_)
                        refine lv_goto (tgt := 163) hx hb dX5_press_206 (by decide) ?_
                        refine lv_iload hx hb dX5_press_163 (lv_at hl 0 rfl) ?_
                        refine b_iconst hx hb dX5_press_165 ?_
                        refine b_icmp_ge (tgt := 209) hx hb dX5_press_166 (by decide) ⟨⟨by omega, by omega⟩, ⟨by omega, by omega⟩⟩ (fun _ => ?_) (fun c => absurd c (by omega))
                        refine lv_iload hx hb dX5_press_209 (lv_at hl 1 rfl) ?_
                        refine b_bipush hx hb dX5_press_211 (by decide +kernel) ?_
                        refine b_icmp_le (tgt := 223) hx hb dX5_press_213 (by decide) ⟨⟨by omega, by omega⟩, ⟨by omega, by omega⟩⟩ (fun c_213 => ?_) (fun c_213 => ?_)
                        · skip
                          refine lv_aload_n hx hb dX5_press_223 rfl (lv_at hl 5 rfl) ?_
                          refine g_get (C := RX5) (T := TX5) (N := 23) hx hb hts inX5 hown hG hM.1 rfl 8 (by decide) (by decide +kernel) rfl (v := .ref (bm + 7)) rfl dX5_press_224 ?_
                          refine lv_iload hx hb dX5_press_227 (lv_at hl 3 rfl) ?_
                          refine lv_dup2_11 hx hb dX5_press_229 rfl rfl ?_
                          have b_230 : 0 ≤ X 8 (12 * n + k) ∧ X 8 (12 * n + k) ≤ 1000 := hV.1 8 _ (by decide) rfl
                          refine g_iald (n := 96) hx hb hG (f := fun i => z2 ((up X 22 0 (0)) 8 i)) (show ca D (bm + 7) (iA (ks 0) 96 (fun i => z2 ((up X 22 0 (0)) 8 i))) _ from hM.2.1 8 (sr_of (by decide))) (12 * n + k) ⟨by omega, by omega, by decide⟩ dX5_press_230 ?_
                          refine W.eq (g2 := F0 m 231 ls (.int (z2 (X 8 (12 * n + k))) :: [.int (z2 (((12 * ((n : Nat) : Int)) + (X 5 (3 * n + b))) - 1)), .ref (bm + 7)])) rfl ?_
                          refine lv_iload hx hb dX5_press_231 (lv_at hl 2 rfl) ?_
                          refine b_if_eq (tgt := 240) hx hb dX5_press_233 (by decide) ⟨by omega, by omega⟩ (fun _ => ?_) (fun c => absurd c (by omega))
                          refine b_iconst hx hb dX5_press_240 ?_
                          refine b_isub hx hb dX5_press_241 ?_
                          refine g_iast (n := 96) hx hb hG hS (f := fun i => z2 ((up X 22 0 (0)) 8 i)) (show ca D (bm + 7) (iA (ks 0) 96 (fun i => z2 ((up X 22 0 (0)) 8 i))) _ from hM.2.1 8 (sr_of (by decide))) (Or.inl ⟨by omega, by omega⟩) (12 * n + k) ⟨by omega, by omega, by decide⟩ dX5_press_242 (fun H locs he hz oq hS => ?_)
                          have hM : PM D ks bm (up (up X 22 0 (0)) 8 (12 * n + k) ((X 8 (12 * n + k)) - 1)) H := hM.row (f := 8) (sr_of (by decide)) he oq
                          refine lv_aload_n hx hb dX5_press_243 rfl (lv_at hl 5 rfl) ?_
                          refine lv_iload_n hx hb dX5_press_244 rfl (lv_at hl 4 rfl) ?_
                          refine g_run (vx_runV (As := [.int (z2 ((3 * ((n : Nat) : Int)) + ((b : Nat) : Int)))]) (rest := []) ⟨hx, hb, hml, hown, hts⟩ (m_begins l D ks bx bm hbm (up (up X 22 0 (0)) 8 (12 * n + k) ((X 8 (12 * n + k)) - 1)) _ hM (vs_up (vs_uf hV (by decide)) (by decide) (fun _ _ => by show 0 ≤ _ ∧ _ ≤ (1000 : Int); omega)) (i := 3 * n + b) ((3 * ((n : Nat) : Int)) + ((b : Nat) : Int)) ⟨by omega, by omega⟩ (by show 0 < X 5 (3 * n + b); omega)) (cwV 1 hts gX5_press_X5_begins rfl rfl rfl (by decide +kernel) ⟨Nat.le_of_ble_eq_true rfl, Nat.le_of_ble_eq_true rfl⟩) (g_preV (r := (RX5, TX5, 23)) hG hS (rm_ge hbm) hM.1 rfl) rfl rfl hl.1 rfl (lv_room (Nat.le_of_ble_eq_true rfl)) dX5_press_245 ⟨Nat.le_of_ble_eq_true rfl, Nat.le_of_ble_eq_true rfl⟩) hS (fun _ h => h) (fun _ _ _ _ _ h => h.elim) (fun v H1 locs hp hz9 hk9 hS => ?_)
                          obtain ⟨rfl, hM⟩ := hp
                          refine W.eq (g2 := F0 m 248 ls []) rfl ?_
                          refine b_iconst hx hb dX5_press_248 ?_
                          have e9 : pmS X (up X 22 0 0) n (3 * n + b) k = (beS (up (up X 22 0 (0)) 8 (12 * n + k) ((X 8 (12 * n + k)) - 1)) (3 * n + b)) := by
                            unfold pmS plM
                            (repeat' split) <;> first | rfl | omega
                          have e8 : (1 : Int) = pmV X n (3 * n + b) k := by
                            unfold pmV plM
                            (repeat' split) <;> omega
                          exact g_iret hx hb hr hlocks hS ⟨Nat.le_of_ble_eq_true rfl, Nat.le_of_ble_eq_true rfl⟩ (⟨1, (beS (up (up X 22 0 (0)) 8 (12 * n + k) ((X 8 (12 * n + k)) - 1)) (3 * n + b)), Or.inl (⟨n, b, k, by omega, e8, e9.symm⟩), rfl, hM⟩) dX5_press_249
                        · skip
                          refine lv_aload_n hx hb dX5_press_216 rfl (lv_at hl 5 rfl) ?_
                          refine lv_iload_n hx hb dX5_press_217 rfl (lv_at hl 6 rfl) ?_
                          refine g_run (vx_runV (As := [.int (z2 (((n : Nat) : Int)))]) (rest := []) ⟨hx, hb, hml, hown, hts⟩ (m_breaks l D ks bx bm hbm (up X 22 0 (0)) _ hM (vs_uf (hV) (by decide)) (n := n) (((n : Nat) : Int)) ⟨by omega, by omega⟩) (cwV 1 hts gX5_press_X5_breaks rfl rfl rfl (by decide +kernel) ⟨Nat.le_of_ble_eq_true rfl, Nat.le_of_ble_eq_true rfl⟩) (g_preV (r := (RX5, TX5, 23)) hG hS (rm_ge hbm) hM.1 rfl) rfl rfl hl.1 rfl (lv_room (Nat.le_of_ble_eq_true rfl)) dX5_press_218 ⟨Nat.le_of_ble_eq_true rfl, Nat.le_of_ble_eq_true rfl⟩) hS (fun _ h => h) (fun _ _ _ _ _ h => h.elim) (fun v H1 locs hp hz9 hk9 hS => ?_)
                          obtain ⟨rfl, hM⟩ := hp
                          have hV : VS (brM (up X 22 0 (0)) n) := vs_br (vs_uf (hV) (by decide)) n
                          refine W.eq (g2 := F0 m 221 ls []) rfl ?_
                          refine b_iconst hx hb dX5_press_221 ?_
                          have e9 : pmS X (up X 22 0 0) n (3 * n + b) k = (brM (up X 22 0 (0)) n) := by
                            unfold pmS plM
                            (repeat' split) <;> first | rfl | omega
                          have e8 : (3 : Int) = pmV X n (3 * n + b) k := by
                            unfold pmV plM
                            (repeat' split) <;> omega
                          exact g_iret hx hb hr hlocks hS ⟨Nat.le_of_ble_eq_true rfl, Nat.le_of_ble_eq_true rfl⟩ (⟨3, (brM (up X 22 0 (0)) n), Or.inl (⟨n, b, k, by omega, e8, e9.symm⟩), rfl, hM⟩) dX5_press_222
                      · skip
                        refine lv_aload_n hx hb dX5_press_185 rfl (lv_at hl 5 rfl) ?_
                        refine g_get (C := RX5) (T := TX5) (N := 23) hx hb hts inX5 hown hG hM.1 rfl 6 (by decide) (by decide +kernel) rfl (v := .ref (bm + 5)) rfl dX5_press_186 ?_
                        refine b_iconst hx hb dX5_press_189 ?_
                        refine lv_iload_n hx hb dX5_press_190 rfl (lv_at hl 6 rfl) ?_
                        refine b_imul hx hb dX5_press_191 ?_
                        refine lv_iload hx hb dX5_press_192 (lv_at hl 0 rfl) ?_
                        refine b_iadd hx hb dX5_press_194 ?_
                        have b_195 : 1 ≤ X 6 (3 * n + 2) ∧ X 6 (3 * n + 2) ≤ 9 := hV.1 6 _ (by decide) rfl
                        refine g_iald (n := 24) hx hb hG (f := fun i => z2 ((up X 22 0 (0)) 6 i)) (show ca D (bm + 5) (iA (ks 0) 24 (fun i => z2 ((up X 22 0 (0)) 6 i))) _ from hM.2.1 6 (sr_of (by decide))) (3 * n + 2) ⟨by omega, by omega, by decide⟩ dX5_press_195 ?_
                        refine W.eq (g2 := F0 m 196 ls (.int (z2 (X 6 (3 * n + 2))) :: [.int (z2 (((X 6 (3 * n + b)) + 0) + 0))])) rfl ?_
                        refine lv_goto (tgt := 200) hx hb dX5_press_196 (by decide) ?_
                        refine b_iadd hx hb dX5_press_200 ?_
                        refine lv_istore (lv' := [(6, .int (z2 ((((X 6 (3 * n + b)) + 0) + 0) + (X 6 (3 * n + 2))))), (7, .int (z2 (2))), (5, .int (z2 (0))), (4, .int (z2 (((12 * ((n : Nat) : Int)) + (X 5 (3 * n + b))) - 1))), (3, .int (z2 ((3 * ((n : Nat) : Int)) + ((b : Nat) : Int)))), (0, .ref bm), (1, .int (z2 (((n : Nat) : Int)))), (2, .int (z2 (((b : Nat) : Int))))]) hx hb dX5_press_201 hl (by decide) rfl (fun ls hl => ?_)
                        refine b_iinc (lv' := [(7, .int (z2 (3))), (6, .int (z2 ((((X 6 (3 * n + b)) + 0) + 0) + (X 6 (3 * n + 2))))), (5, .int (z2 (0))), (4, .int (z2 (((12 * ((n : Nat) : Int)) + (X 5 (3 * n + b))) - 1))), (3, .int (z2 ((3 * ((n : Nat) : Int)) + ((b : Nat) : Int)))), (0, .ref bm), (1, .int (z2 (((n : Nat) : Int)))), (2, .int (z2 (((b : Nat) : Int))))]) hx hb dX5_press_203 hl (k := 1) rfl (by decide) rfl (fun ls hl => ?_)
                        refine lv_goto (tgt := 163) hx hb dX5_press_206 (by decide) ?_
                        refine lv_iload hx hb dX5_press_163 (lv_at hl 0 rfl) ?_
                        refine b_iconst hx hb dX5_press_165 ?_
                        refine b_icmp_ge (tgt := 209) hx hb dX5_press_166 (by decide) ⟨⟨by omega, by omega⟩, ⟨by omega, by omega⟩⟩ (fun _ => ?_) (fun c => absurd c (by omega))
                        refine lv_iload hx hb dX5_press_209 (lv_at hl 1 rfl) ?_
                        refine b_bipush hx hb dX5_press_211 (by decide +kernel) ?_
                        refine b_icmp_le (tgt := 223) hx hb dX5_press_213 (by decide) ⟨⟨by omega, by omega⟩, ⟨by omega, by omega⟩⟩ (fun c_213 => ?_) (fun c_213 => ?_)
                        · skip
                          refine lv_aload_n hx hb dX5_press_223 rfl (lv_at hl 5 rfl) ?_
                          refine g_get (C := RX5) (T := TX5) (N := 23) hx hb hts inX5 hown hG hM.1 rfl 8 (by decide) (by decide +kernel) rfl (v := .ref (bm + 7)) rfl dX5_press_224 ?_
                          refine lv_iload hx hb dX5_press_227 (lv_at hl 3 rfl) ?_
                          refine lv_dup2_11 hx hb dX5_press_229 rfl rfl ?_
                          have b_230 : 0 ≤ X 8 (12 * n + k) ∧ X 8 (12 * n + k) ≤ 1000 := hV.1 8 _ (by decide) rfl
                          refine g_iald (n := 96) hx hb hG (f := fun i => z2 ((up X 22 0 (0)) 8 i)) (show ca D (bm + 7) (iA (ks 0) 96 (fun i => z2 ((up X 22 0 (0)) 8 i))) _ from hM.2.1 8 (sr_of (by decide))) (12 * n + k) ⟨by omega, by omega, by decide⟩ dX5_press_230 ?_
                          refine W.eq (g2 := F0 m 231 ls (.int (z2 (X 8 (12 * n + k))) :: [.int (z2 (((12 * ((n : Nat) : Int)) + (X 5 (3 * n + b))) - 1)), .ref (bm + 7)])) rfl ?_
                          refine lv_iload hx hb dX5_press_231 (lv_at hl 2 rfl) ?_
                          refine b_if_eq (tgt := 240) hx hb dX5_press_233 (by decide) ⟨by omega, by omega⟩ (fun _ => ?_) (fun c => absurd c (by omega))
                          refine b_iconst hx hb dX5_press_240 ?_
                          refine b_isub hx hb dX5_press_241 ?_
                          refine g_iast (n := 96) hx hb hG hS (f := fun i => z2 ((up X 22 0 (0)) 8 i)) (show ca D (bm + 7) (iA (ks 0) 96 (fun i => z2 ((up X 22 0 (0)) 8 i))) _ from hM.2.1 8 (sr_of (by decide))) (Or.inl ⟨by omega, by omega⟩) (12 * n + k) ⟨by omega, by omega, by decide⟩ dX5_press_242 (fun H locs he hz oq hS => ?_)
                          have hM : PM D ks bm (up (up X 22 0 (0)) 8 (12 * n + k) ((X 8 (12 * n + k)) - 1)) H := hM.row (f := 8) (sr_of (by decide)) he oq
                          refine lv_aload_n hx hb dX5_press_243 rfl (lv_at hl 5 rfl) ?_
                          refine lv_iload_n hx hb dX5_press_244 rfl (lv_at hl 4 rfl) ?_
                          refine g_run (vx_runV (As := [.int (z2 ((3 * ((n : Nat) : Int)) + ((b : Nat) : Int)))]) (rest := []) ⟨hx, hb, hml, hown, hts⟩ (m_begins l D ks bx bm hbm (up (up X 22 0 (0)) 8 (12 * n + k) ((X 8 (12 * n + k)) - 1)) _ hM (vs_up (vs_uf hV (by decide)) (by decide) (fun _ _ => by show 0 ≤ _ ∧ _ ≤ (1000 : Int); omega)) (i := 3 * n + b) ((3 * ((n : Nat) : Int)) + ((b : Nat) : Int)) ⟨by omega, by omega⟩ (by show 0 < X 5 (3 * n + b); omega)) (cwV 1 hts gX5_press_X5_begins rfl rfl rfl (by decide +kernel) ⟨Nat.le_of_ble_eq_true rfl, Nat.le_of_ble_eq_true rfl⟩) (g_preV (r := (RX5, TX5, 23)) hG hS (rm_ge hbm) hM.1 rfl) rfl rfl hl.1 rfl (lv_room (Nat.le_of_ble_eq_true rfl)) dX5_press_245 ⟨Nat.le_of_ble_eq_true rfl, Nat.le_of_ble_eq_true rfl⟩) hS (fun _ h => h) (fun _ _ _ _ _ h => h.elim) (fun v H1 locs hp hz9 hk9 hS => ?_)
                          obtain ⟨rfl, hM⟩ := hp
                          refine W.eq (g2 := F0 m 248 ls []) rfl ?_
                          refine b_iconst hx hb dX5_press_248 ?_
                          have e9 : pmS X (up X 22 0 0) n (3 * n + b) k = (beS (up (up X 22 0 (0)) 8 (12 * n + k) ((X 8 (12 * n + k)) - 1)) (3 * n + b)) := by
                            unfold pmS plM
                            (repeat' split) <;> first | rfl | omega
                          have e8 : (1 : Int) = pmV X n (3 * n + b) k := by
                            unfold pmV plM
                            (repeat' split) <;> omega
                          exact g_iret hx hb hr hlocks hS ⟨Nat.le_of_ble_eq_true rfl, Nat.le_of_ble_eq_true rfl⟩ (⟨1, (beS (up (up X 22 0 (0)) 8 (12 * n + k) ((X 8 (12 * n + k)) - 1)) (3 * n + b)), Or.inl (⟨n, b, k, by omega, e8, e9.symm⟩), rfl, hM⟩) dX5_press_249
                        · skip
                          refine lv_aload_n hx hb dX5_press_216 rfl (lv_at hl 5 rfl) ?_
                          refine lv_iload_n hx hb dX5_press_217 rfl (lv_at hl 6 rfl) ?_
                          refine g_run (vx_runV (As := [.int (z2 (((n : Nat) : Int)))]) (rest := []) ⟨hx, hb, hml, hown, hts⟩ (m_breaks l D ks bx bm hbm (up X 22 0 (0)) _ hM (vs_uf (hV) (by decide)) (n := n) (((n : Nat) : Int)) ⟨by omega, by omega⟩) (cwV 1 hts gX5_press_X5_breaks rfl rfl rfl (by decide +kernel) ⟨Nat.le_of_ble_eq_true rfl, Nat.le_of_ble_eq_true rfl⟩) (g_preV (r := (RX5, TX5, 23)) hG hS (rm_ge hbm) hM.1 rfl) rfl rfl hl.1 rfl (lv_room (Nat.le_of_ble_eq_true rfl)) dX5_press_218 ⟨Nat.le_of_ble_eq_true rfl, Nat.le_of_ble_eq_true rfl⟩) hS (fun _ h => h) (fun _ _ _ _ _ h => h.elim) (fun v H1 locs hp hz9 hk9 hS => ?_)
                          obtain ⟨rfl, hM⟩ := hp
                          have hV : VS (brM (up X 22 0 (0)) n) := vs_br (vs_uf (hV) (by decide)) n
                          refine W.eq (g2 := F0 m 221 ls []) rfl ?_
                          refine b_iconst hx hb dX5_press_221 ?_
                          have e9 : pmS X (up X 22 0 0) n (3 * n + b) k = (brM (up X 22 0 (0)) n) := by
                            unfold pmS plM
                            (repeat' split) <;> first | rfl | omega
                          have e8 : (3 : Int) = pmV X n (3 * n + b) k := by
                            unfold pmV plM
                            (repeat' split) <;> omega
                          exact g_iret hx hb hr hlocks hS ⟨Nat.le_of_ble_eq_true rfl, Nat.le_of_ble_eq_true rfl⟩ (⟨3, (brM (up X 22 0 (0)) n), Or.inl (⟨n, b, k, by omega, e8, e9.symm⟩), rfl, hM⟩) dX5_press_222
                    · skip
                      refine lv_aload_n hx hb dX5_press_185 rfl (lv_at hl 5 rfl) ?_
                      refine g_get (C := RX5) (T := TX5) (N := 23) hx hb hts inX5 hown hG hM.1 rfl 6 (by decide) (by decide +kernel) rfl (v := .ref (bm + 5)) rfl dX5_press_186 ?_
                      refine b_iconst hx hb dX5_press_189 ?_
                      refine lv_iload_n hx hb dX5_press_190 rfl (lv_at hl 6 rfl) ?_
                      refine b_imul hx hb dX5_press_191 ?_
                      refine lv_iload hx hb dX5_press_192 (lv_at hl 0 rfl) ?_
                      refine b_iadd hx hb dX5_press_194 ?_
                      have b_195 : 1 ≤ X 6 (3 * n + 1) ∧ X 6 (3 * n + 1) ≤ 9 := hV.1 6 _ (by decide) rfl
                      refine g_iald (n := 24) hx hb hG (f := fun i => z2 ((up X 22 0 (0)) 6 i)) (show ca D (bm + 5) (iA (ks 0) 24 (fun i => z2 ((up X 22 0 (0)) 6 i))) _ from hM.2.1 6 (sr_of (by decide))) (3 * n + 1) ⟨by omega, by omega, by decide⟩ dX5_press_195 ?_
                      refine W.eq (g2 := F0 m 196 ls (.int (z2 (X 6 (3 * n + 1))) :: [.int (z2 ((X 6 (3 * n + b)) + 0))])) rfl ?_
                      refine lv_goto (tgt := 200) hx hb dX5_press_196 (by decide) ?_
                      refine b_iadd hx hb dX5_press_200 ?_
                      refine lv_istore (lv' := [(6, .int (z2 (((X 6 (3 * n + b)) + 0) + (X 6 (3 * n + 1))))), (7, .int (z2 (1))), (5, .int (z2 (0))), (4, .int (z2 (((12 * ((n : Nat) : Int)) + (X 5 (3 * n + b))) - 1))), (3, .int (z2 ((3 * ((n : Nat) : Int)) + ((b : Nat) : Int)))), (0, .ref bm), (1, .int (z2 (((n : Nat) : Int)))), (2, .int (z2 (((b : Nat) : Int))))]) hx hb dX5_press_201 hl (by decide) rfl (fun ls hl => ?_)
                      refine b_iinc (lv' := [(7, .int (z2 (2))), (6, .int (z2 (((X 6 (3 * n + b)) + 0) + (X 6 (3 * n + 1))))), (5, .int (z2 (0))), (4, .int (z2 (((12 * ((n : Nat) : Int)) + (X 5 (3 * n + b))) - 1))), (3, .int (z2 ((3 * ((n : Nat) : Int)) + ((b : Nat) : Int)))), (0, .ref bm), (1, .int (z2 (((n : Nat) : Int)))), (2, .int (z2 (((b : Nat) : Int))))]) hx hb dX5_press_203 hl (k := 1) rfl (by decide) rfl (fun ls hl => ?_)
                      refine lv_goto (tgt := 163) hx hb dX5_press_206 (by decide) ?_
                      refine lv_iload hx hb dX5_press_163 (lv_at hl 0 rfl) ?_
                      refine b_iconst hx hb dX5_press_165 ?_
                      refine b_icmp_ge (tgt := 209) hx hb dX5_press_166 (by decide) ⟨⟨by omega, by omega⟩, ⟨by omega, by omega⟩⟩ (fun c => absurd c (by omega)) (fun _ => ?_)
                      refine lv_iload hx hb dX5_press_169 (lv_at hl 1 rfl) ?_
                      refine lv_aload_n hx hb dX5_press_171 rfl (lv_at hl 5 rfl) ?_
                      refine g_get (C := RX5) (T := TX5) (N := 23) hx hb hts inX5 hown hG hM.1 rfl 7 (by decide) (by decide +kernel) rfl (v := .ref (bm + 6)) rfl dX5_press_172 ?_
                      refine b_iconst hx hb dX5_press_175 ?_
                      refine lv_iload_n hx hb dX5_press_176 rfl (lv_at hl 6 rfl) ?_
                      refine b_imul hx hb dX5_press_177 ?_
                      refine lv_iload hx hb dX5_press_178 (lv_at hl 0 rfl) ?_
                      refine b_iadd hx hb dX5_press_180 ?_
                      have b_181 : 0 ≤ X 7 (3 * n + 2) ∧ X 7 (3 * n + 2) ≤ 1000024 := hV.1 7 _ (by decide) rfl
                      refine g_iald (n := 24) hx hb hG (f := fun i => z2 ((up X 22 0 (0)) 7 i)) (show ca D (bm + 6) (iA (ks 0) 24 (fun i => z2 ((up X 22 0 (0)) 7 i))) _ from hM.2.1 7 (sr_of (by decide))) (3 * n + 2) ⟨by omega, by omega, by decide⟩ dX5_press_181 ?_
                      refine W.eq (g2 := F0 m 182 ls (.int (z2 (X 7 (3 * n + 2))) :: [.int (z2 (((X 6 (3 * n + b)) + 0) + (X 6 (3 * n + 1))))])) rfl ?_
                      refine b_if_le (tgt := 199) hx hb dX5_press_182 (by decide) ⟨by omega, by omega⟩ (fun c_182 => ?_) (fun c_182 => ?_)
                      · skip
                        refine b_iconst hx hb dX5_press_199 ?_
                        refine b_iadd hx hb dX5_press_200 ?_
                        refine lv_istore (lv' := [(6, .int (z2 ((((X 6 (3 * n + b)) + 0) + (X 6 (3 * n + 1))) + 0))), (7, .int (z2 (2))), (5, .int (z2 (0))), (4, .int (z2 (((12 * ((n : Nat) : Int)) + (X 5 (3 * n + b))) - 1))), (3, .int (z2 ((3 * ((n : Nat) : Int)) + ((b : Nat) : Int)))), (0, .ref bm), (1, .int (z2 (((n : Nat) : Int)))), (2, .int (z2 (((b : Nat) : Int))))]) hx hb dX5_press_201 hl (by decide) rfl (fun ls hl => ?_)
                        refine b_iinc (lv' := [(7, .int (z2 (3))), (6, .int (z2 ((((X 6 (3 * n + b)) + 0) + (X 6 (3 * n + 1))) + 0))), (5, .int (z2 (0))), (4, .int (z2 (((12 * ((n : Nat) : Int)) + (X 5 (3 * n + b))) - 1))), (3, .int (z2 ((3 * ((n : Nat) : Int)) + ((b : Nat) : Int)))), (0, .ref bm), (1, .int (z2 (((n : Nat) : Int)))), (2, .int (z2 (((b : Nat) : Int))))]) hx hb dX5_press_203 hl (k := 1) rfl (by decide) rfl (fun ls hl => ?_)
                        refine lv_goto (tgt := 163) hx hb dX5_press_206 (by decide) ?_
                        refine lv_iload hx hb dX5_press_163 (lv_at hl 0 rfl) ?_
                        refine b_iconst hx hb dX5_press_165 ?_
                        refine b_icmp_ge (tgt := 209) hx hb dX5_press_166 (by decide) ⟨⟨by omega, by omega⟩, ⟨by omega, by omega⟩⟩ (fun _ => ?_) (fun c => absurd c (by omega))
                        refine lv_iload hx hb dX5_press_209 (lv_at hl 1 rfl) ?_
                        refine b_bipush hx hb dX5_press_211 (by decide +kernel) ?_
                        refine b_icmp_le (tgt := 223) hx hb dX5_press_213 (by decide) ⟨⟨by omega, by omega⟩, ⟨by omega, by omega⟩⟩ (fun c_213 => ?_) (fun c_213 => ?_)
                        · skip
                          refine lv_aload_n hx hb dX5_press_223 rfl (lv_at hl 5 rfl) ?_
                          refine g_get (C := RX5) (T := TX5) (N := 23) hx hb hts inX5 hown hG hM.1 rfl 8 (by decide) (by decide +kernel) rfl (v := .ref (bm + 7)) rfl dX5_press_224 ?_
                          refine lv_iload hx hb dX5_press_227 (lv_at hl 3 rfl) ?_
                          refine lv_dup2_11 hx hb dX5_press_229 rfl rfl ?_
                          have b_230 : 0 ≤ X 8 (12 * n + k) ∧ X 8 (12 * n + k) ≤ 1000 := hV.1 8 _ (by decide) rfl
                          refine g_iald (n := 96) hx hb hG (f := fun i => z2 ((up X 22 0 (0)) 8 i)) (show ca D (bm + 7) (iA (ks 0) 96 (fun i => z2 ((up X 22 0 (0)) 8 i))) _ from hM.2.1 8 (sr_of (by decide))) (12 * n + k) ⟨by omega, by omega, by decide⟩ dX5_press_230 ?_
                          refine W.eq (g2 := F0 m 231 ls (.int (z2 (X 8 (12 * n + k))) :: [.int (z2 (((12 * ((n : Nat) : Int)) + (X 5 (3 * n + b))) - 1)), .ref (bm + 7)])) rfl ?_
                          refine lv_iload hx hb dX5_press_231 (lv_at hl 2 rfl) ?_
                          refine b_if_eq (tgt := 240) hx hb dX5_press_233 (by decide) ⟨by omega, by omega⟩ (fun _ => ?_) (fun c => absurd c (by omega))
                          refine b_iconst hx hb dX5_press_240 ?_
                          refine b_isub hx hb dX5_press_241 ?_
                          refine g_iast (n := 96) hx hb hG hS (f := fun i => z2 ((up X 22 0 (0)) 8 i)) (show ca D (bm + 7) (iA (ks 0) 96 (fun i => z2 ((up X 22 0 (0)) 8 i))) _ from hM.2.1 8 (sr_of (by decide))) (Or.inl ⟨by omega, by omega⟩) (12 * n + k) ⟨by omega, by omega, by decide⟩ dX5_press_242 (fun H locs he hz oq hS => ?_)
                          have hM : PM D ks bm (up (up X 22 0 (0)) 8 (12 * n + k) ((X 8 (12 * n + k)) - 1)) H := hM.row (f := 8) (sr_of (by decide)) he oq
                          refine lv_aload_n hx hb dX5_press_243 rfl (lv_at hl 5 rfl) ?_
                          refine lv_iload_n hx hb dX5_press_244 rfl (lv_at hl 4 rfl) ?_
                          refine g_run (vx_runV (As := [.int (z2 ((3 * ((n : Nat) : Int)) + ((b : Nat) : Int)))]) (rest := []) ⟨hx, hb, hml, hown, hts⟩ (m_begins l D ks bx bm hbm (up (up X 22 0 (0)) 8 (12 * n + k) ((X 8 (12 * n + k)) - 1)) _ hM (vs_up (vs_uf hV (by decide)) (by decide) (fun _ _ => by show 0 ≤ _ ∧ _ ≤ (1000 : Int); omega)) (i := 3 * n + b) ((3 * ((n : Nat) : Int)) + ((b : Nat) : Int)) ⟨by omega, by omega⟩ (by show 0 < X 5 (3 * n + b); omega)) (cwV 1 hts gX5_press_X5_begins rfl rfl rfl (by decide +kernel) ⟨Nat.le_of_ble_eq_true rfl, Nat.le_of_ble_eq_true rfl⟩) (g_preV (r := (RX5, TX5, 23)) hG hS (rm_ge hbm) hM.1 rfl) rfl rfl hl.1 rfl (lv_room (Nat.le_of_ble_eq_true rfl)) dX5_press_245 ⟨Nat.le_of_ble_eq_true rfl, Nat.le_of_ble_eq_true rfl⟩) hS (fun _ h => h) (fun _ _ _ _ _ h => h.elim) (fun v H1 locs hp hz9 hk9 hS => ?_)
                          obtain ⟨rfl, hM⟩ := hp
                          refine W.eq (g2 := F0 m 248 ls []) rfl ?_
                          refine b_iconst hx hb dX5_press_248 ?_
                          have e9 : pmS X (up X 22 0 0) n (3 * n + b) k = (beS (up (up X 22 0 (0)) 8 (12 * n + k) ((X 8 (12 * n + k)) - 1)) (3 * n + b)) := by
                            unfold pmS plM
                            (repeat' split) <;> first | rfl | omega
                          have e8 : (1 : Int) = pmV X n (3 * n + b) k := by
                            unfold pmV plM
                            (repeat' split) <;> omega
                          exact g_iret hx hb hr hlocks hS ⟨Nat.le_of_ble_eq_true rfl, Nat.le_of_ble_eq_true rfl⟩ (⟨1, (beS (up (up X 22 0 (0)) 8 (12 * n + k) ((X 8 (12 * n + k)) - 1)) (3 * n + b)), Or.inl (⟨n, b, k, by omega, e8, e9.symm⟩), rfl, hM⟩) dX5_press_249
                        · skip
                          refine lv_aload_n hx hb dX5_press_216 rfl (lv_at hl 5 rfl) ?_
                          refine lv_iload_n hx hb dX5_press_217 rfl (lv_at hl 6 rfl) ?_
                          refine g_run (vx_runV (As := [.int (z2 (((n : Nat) : Int)))]) (rest := []) ⟨hx, hb, hml, hown, hts⟩ (m_breaks l D ks bx bm hbm (up X 22 0 (0)) _ hM (vs_uf (hV) (by decide)) (n := n) (((n : Nat) : Int)) ⟨by omega, by omega⟩) (cwV 1 hts gX5_press_X5_breaks rfl rfl rfl (by decide +kernel) ⟨Nat.le_of_ble_eq_true rfl, Nat.le_of_ble_eq_true rfl⟩) (g_preV (r := (RX5, TX5, 23)) hG hS (rm_ge hbm) hM.1 rfl) rfl rfl hl.1 rfl (lv_room (Nat.le_of_ble_eq_true rfl)) dX5_press_218 ⟨Nat.le_of_ble_eq_true rfl, Nat.le_of_ble_eq_true rfl⟩) hS (fun _ h => h) (fun _ _ _ _ _ h => h.elim) (fun v H1 locs hp hz9 hk9 hS => ?_)
                          obtain ⟨rfl, hM⟩ := hp
                          have hV : VS (brM (up X 22 0 (0)) n) := vs_br (vs_uf (hV) (by decide)) n
                          refine W.eq (g2 := F0 m 221 ls []) rfl ?_
                          refine b_iconst hx hb dX5_press_221 ?_
                          have e9 : pmS X (up X 22 0 0) n (3 * n + b) k = (brM (up X 22 0 (0)) n) := by
                            unfold pmS plM
                            (repeat' split) <;> first | rfl | omega
                          have e8 : (3 : Int) = pmV X n (3 * n + b) k := by
                            unfold pmV plM
                            (repeat' split) <;> omega
                          exact g_iret hx hb hr hlocks hS ⟨Nat.le_of_ble_eq_true rfl, Nat.le_of_ble_eq_true rfl⟩ (⟨3, (brM (up X 22 0 (0)) n), Or.inl (⟨n, b, k, by omega, e8, e9.symm⟩), rfl, hM⟩) dX5_press_222
                      · skip
                        refine lv_aload_n hx hb dX5_press_185 rfl (lv_at hl 5 rfl) ?_
                        refine g_get (C := RX5) (T := TX5) (N := 23) hx hb hts inX5 hown hG hM.1 rfl 6 (by decide) (by decide +kernel) rfl (v := .ref (bm + 5)) rfl dX5_press_186 ?_
                        refine b_iconst hx hb dX5_press_189 ?_
                        refine lv_iload_n hx hb dX5_press_190 rfl (lv_at hl 6 rfl) ?_
                        refine b_imul hx hb dX5_press_191 ?_
                        refine lv_iload hx hb dX5_press_192 (lv_at hl 0 rfl) ?_
                        refine b_iadd hx hb dX5_press_194 ?_
                        have b_195 : 1 ≤ X 6 (3 * n + 2) ∧ X 6 (3 * n + 2) ≤ 9 := hV.1 6 _ (by decide) rfl
                        refine g_iald (n := 24) hx hb hG (f := fun i => z2 ((up X 22 0 (0)) 6 i)) (show ca D (bm + 5) (iA (ks 0) 24 (fun i => z2 ((up X 22 0 (0)) 6 i))) _ from hM.2.1 6 (sr_of (by decide))) (3 * n + 2) ⟨by omega, by omega, by decide⟩ dX5_press_195 ?_
                        refine W.eq (g2 := F0 m 196 ls (.int (z2 (X 6 (3 * n + 2))) :: [.int (z2 (((X 6 (3 * n + b)) + 0) + (X 6 (3 * n + 1))))])) rfl ?_
                        refine lv_goto (tgt := 200) hx hb dX5_press_196 (by decide) ?_
                        refine b_iadd hx hb dX5_press_200 ?_
                        refine lv_istore (lv' := [(6, .int (z2 ((((X 6 (3 * n + b)) + 0) + (X 6 (3 * n + 1))) + (X 6 (3 * n + 2))))), (7, .int (z2 (2))), (5, .int (z2 (0))), (4, .int (z2 (((12 * ((n : Nat) : Int)) + (X 5 (3 * n + b))) - 1))), (3, .int (z2 ((3 * ((n : Nat) : Int)) + ((b : Nat) : Int)))), (0, .ref bm), (1, .int (z2 (((n : Nat) : Int)))), (2, .int (z2 (((b : Nat) : Int))))]) hx hb dX5_press_201 hl (by decide) rfl (fun ls hl => ?_)
                        refine b_iinc (lv' := [(7, .int (z2 (3))), (6, .int (z2 ((((X 6 (3 * n + b)) + 0) + (X 6 (3 * n + 1))) + (X 6 (3 * n + 2))))), (5, .int (z2 (0))), (4, .int (z2 (((12 * ((n : Nat) : Int)) + (X 5 (3 * n + b))) - 1))), (3, .int (z2 ((3 * ((n : Nat) : Int)) + ((b : Nat) : Int)))), (0, .ref bm), (1, .int (z2 (((n : Nat) : Int)))), (2, .int (z2 (((b : Nat) : Int))))]) hx hb dX5_press_203 hl (k := 1) rfl (by decide) rfl (fun ls hl => ?_)
                        refine lv_goto (tgt := 163) hx hb dX5_press_206 (by decide) ?_
                        refine lv_iload hx hb dX5_press_163 (lv_at hl 0 rfl) ?_
                        refine b_iconst hx hb dX5_press_165 ?_
                        refine b_icmp_ge (tgt := 209) hx hb dX5_press_166 (by decide) ⟨⟨by omega, by omega⟩, ⟨by omega, by omega⟩⟩ (fun _ => ?_) (fun c => absurd c (by omega))
                        refine lv_iload hx hb dX5_press_209 (lv_at hl 1 rfl) ?_
                        refine b_bipush hx hb dX5_press_211 (by decide +kernel) ?_
                        refine b_icmp_le (tgt := 223) hx hb dX5_press_213 (by decide) ⟨⟨by omega, by omega⟩, ⟨by omega, by omega⟩⟩ (fun c_213 => ?_) (fun c_213 => ?_)
                        · skip
                          refine lv_aload_n hx hb dX5_press_223 rfl (lv_at hl 5 rfl) ?_
                          refine g_get (C := RX5) (T := TX5) (N := 23) hx hb hts inX5 hown hG hM.1 rfl 8 (by decide) (by decide +kernel) rfl (v := .ref (bm + 7)) rfl dX5_press_224 ?_
                          refine lv_iload hx hb dX5_press_227 (lv_at hl 3 rfl) ?_
                          refine lv_dup2_11 hx hb dX5_press_229 rfl rfl ?_
                          have b_230 : 0 ≤ X 8 (12 * n + k) ∧ X 8 (12 * n + k) ≤ 1000 := hV.1 8 _ (by decide) rfl
                          refine g_iald (n := 96) hx hb hG (f := fun i => z2 ((up X 22 0 (0)) 8 i)) (show ca D (bm + 7) (iA (ks 0) 96 (fun i => z2 ((up X 22 0 (0)) 8 i))) _ from hM.2.1 8 (sr_of (by decide))) (12 * n + k) ⟨by omega, by omega, by decide⟩ dX5_press_230 ?_
                          refine W.eq (g2 := F0 m 231 ls (.int (z2 (X 8 (12 * n + k))) :: [.int (z2 (((12 * ((n : Nat) : Int)) + (X 5 (3 * n + b))) - 1)), .ref (bm + 7)])) rfl ?_
                          refine lv_iload hx hb dX5_press_231 (lv_at hl 2 rfl) ?_
                          refine b_if_eq (tgt := 240) hx hb dX5_press_233 (by decide) ⟨by omega, by omega⟩ (fun _ => ?_) (fun c => absurd c (by omega))
                          refine b_iconst hx hb dX5_press_240 ?_
                          refine b_isub hx hb dX5_press_241 ?_
                          refine g_iast (n := 96) hx hb hG hS (f := fun i => z2 ((up X 22 0 (0)) 8 i)) (show ca D (bm + 7) (iA (ks 0) 96 (fun i => z2 ((up X 22 0 (0)) 8 i))) _ from hM.2.1 8 (sr_of (by decide))) (Or.inl ⟨by omega, by omega⟩) (12 * n + k) ⟨by omega, by omega, by decide⟩ dX5_press_242 (fun H locs he hz oq hS => ?_)
                          have hM : PM D ks bm (up (up X 22 0 (0)) 8 (12 * n + k) ((X 8 (12 * n + k)) - 1)) H := hM.row (f := 8) (sr_of (by decide)) he oq
                          refine lv_aload_n hx hb dX5_press_243 rfl (lv_at hl 5 rfl) ?_
                          refine lv_iload_n hx hb dX5_press_244 rfl (lv_at hl 4 rfl) ?_
                          refine g_run (vx_runV (As := [.int (z2 ((3 * ((n : Nat) : Int)) + ((b : Nat) : Int)))]) (rest := []) ⟨hx, hb, hml, hown, hts⟩ (m_begins l D ks bx bm hbm (up (up X 22 0 (0)) 8 (12 * n + k) ((X 8 (12 * n + k)) - 1)) _ hM (vs_up (vs_uf hV (by decide)) (by decide) (fun _ _ => by show 0 ≤ _ ∧ _ ≤ (1000 : Int); omega)) (i := 3 * n + b) ((3 * ((n : Nat) : Int)) + ((b : Nat) : Int)) ⟨by omega, by omega⟩ (by show 0 < X 5 (3 * n + b); omega)) (cwV 1 hts gX5_press_X5_begins rfl rfl rfl (by decide +kernel) ⟨Nat.le_of_ble_eq_true rfl, Nat.le_of_ble_eq_true rfl⟩) (g_preV (r := (RX5, TX5, 23)) hG hS (rm_ge hbm) hM.1 rfl) rfl rfl hl.1 rfl (lv_room (Nat.le_of_ble_eq_true rfl)) dX5_press_245 ⟨Nat.le_of_ble_eq_true rfl, Nat.le_of_ble_eq_true rfl⟩) hS (fun _ h => h) (fun _ _ _ _ _ h => h.elim) (fun v H1 locs hp hz9 hk9 hS => ?_)
                          obtain ⟨rfl, hM⟩ := hp
                          refine W.eq (g2 := F0 m 248 ls []) rfl ?_
                          refine b_iconst hx hb dX5_press_248 ?_
                          have e9 : pmS X (up X 22 0 0) n (3 * n + b) k = (beS (up (up X 22 0 (0)) 8 (12 * n + k) ((X 8 (12 * n + k)) - 1)) (3 * n + b)) := by
                            unfold pmS plM
                            (repeat' split) <;> first | rfl | omega
                          have e8 : (1 : Int) = pmV X n (3 * n + b) k := by
                            unfold pmV plM
                            (repeat' split) <;> omega
                          exact g_iret hx hb hr hlocks hS ⟨Nat.le_of_ble_eq_true rfl, Nat.le_of_ble_eq_true rfl⟩ (⟨1, (beS (up (up X 22 0 (0)) 8 (12 * n + k) ((X 8 (12 * n + k)) - 1)) (3 * n + b)), Or.inl (⟨n, b, k, by omega, e8, e9.symm⟩), rfl, hM⟩) dX5_press_249
                        · skip
                          refine lv_aload_n hx hb dX5_press_216 rfl (lv_at hl 5 rfl) ?_
                          refine lv_iload_n hx hb dX5_press_217 rfl (lv_at hl 6 rfl) ?_
                          refine g_run (vx_runV (As := [.int (z2 (((n : Nat) : Int)))]) (rest := []) ⟨hx, hb, hml, hown, hts⟩ (m_breaks l D ks bx bm hbm (up X 22 0 (0)) _ hM (vs_uf (hV) (by decide)) (n := n) (((n : Nat) : Int)) ⟨by omega, by omega⟩) (cwV 1 hts gX5_press_X5_breaks rfl rfl rfl (by decide +kernel) ⟨Nat.le_of_ble_eq_true rfl, Nat.le_of_ble_eq_true rfl⟩) (g_preV (r := (RX5, TX5, 23)) hG hS (rm_ge hbm) hM.1 rfl) rfl rfl hl.1 rfl (lv_room (Nat.le_of_ble_eq_true rfl)) dX5_press_218 ⟨Nat.le_of_ble_eq_true rfl, Nat.le_of_ble_eq_true rfl⟩) hS (fun _ h => h) (fun _ _ _ _ _ h => h.elim) (fun v H1 locs hp hz9 hk9 hS => ?_)
                          obtain ⟨rfl, hM⟩ := hp
                          have hV : VS (brM (up X 22 0 (0)) n) := vs_br (vs_uf (hV) (by decide)) n
                          refine W.eq (g2 := F0 m 221 ls []) rfl ?_
                          refine b_iconst hx hb dX5_press_221 ?_
                          have e9 : pmS X (up X 22 0 0) n (3 * n + b) k = (brM (up X 22 0 (0)) n) := by
                            unfold pmS plM
                            (repeat' split) <;> first | rfl | omega
                          have e8 : (3 : Int) = pmV X n (3 * n + b) k := by
                            unfold pmV plM
                            (repeat' split) <;> omega
                          exact g_iret hx hb hr hlocks hS ⟨Nat.le_of_ble_eq_true rfl, Nat.le_of_ble_eq_true rfl⟩ (⟨3, (brM (up X 22 0 (0)) n), Or.inl (⟨n, b, k, by omega, e8, e9.symm⟩), rfl, hM⟩) dX5_press_222
                  · skip
                    refine lv_aload_n hx hb dX5_press_185 rfl (lv_at hl 5 rfl) ?_
                    refine g_get (C := RX5) (T := TX5) (N := 23) hx hb hts inX5 hown hG hM.1 rfl 6 (by decide) (by decide +kernel) rfl (v := .ref (bm + 5)) rfl dX5_press_186 ?_
                    refine b_iconst hx hb dX5_press_189 ?_
                    refine lv_iload_n hx hb dX5_press_190 rfl (lv_at hl 6 rfl) ?_
                    refine b_imul hx hb dX5_press_191 ?_
                    refine lv_iload hx hb dX5_press_192 (lv_at hl 0 rfl) ?_
                    refine b_iadd hx hb dX5_press_194 ?_
                    have b_195 : 1 ≤ X 6 (3 * n + 0) ∧ X 6 (3 * n + 0) ≤ 9 := hV.1 6 _ (by decide) rfl
                    refine g_iald (n := 24) hx hb hG (f := fun i => z2 ((up X 22 0 (0)) 6 i)) (show ca D (bm + 5) (iA (ks 0) 24 (fun i => z2 ((up X 22 0 (0)) 6 i))) _ from hM.2.1 6 (sr_of (by decide))) (3 * n + 0) ⟨by omega, by omega, by decide⟩ dX5_press_195 ?_
                    refine W.eq (g2 := F0 m 196 ls (.int (z2 (X 6 (3 * n + 0))) :: [.int (z2 (X 6 (3 * n + b)))])) rfl ?_
                    refine lv_goto (tgt := 200) hx hb dX5_press_196 (by decide) ?_
                    refine b_iadd hx hb dX5_press_200 ?_
                    refine lv_istore (lv' := [(6, .int (z2 ((X 6 (3 * n + b)) + (X 6 (3 * n + 0))))), (7, .int (z2 (0))), (5, .int (z2 (0))), (4, .int (z2 (((12 * ((n : Nat) : Int)) + (X 5 (3 * n + b))) - 1))), (3, .int (z2 ((3 * ((n : Nat) : Int)) + ((b : Nat) : Int)))), (0, .ref bm), (1, .int (z2 (((n : Nat) : Int)))), (2, .int (z2 (((b : Nat) : Int))))]) hx hb dX5_press_201 hl (by decide) rfl (fun ls hl => ?_)
                    refine b_iinc (lv' := [(7, .int (z2 (1))), (6, .int (z2 ((X 6 (3 * n + b)) + (X 6 (3 * n + 0))))), (5, .int (z2 (0))), (4, .int (z2 (((12 * ((n : Nat) : Int)) + (X 5 (3 * n + b))) - 1))), (3, .int (z2 ((3 * ((n : Nat) : Int)) + ((b : Nat) : Int)))), (0, .ref bm), (1, .int (z2 (((n : Nat) : Int)))), (2, .int (z2 (((b : Nat) : Int))))]) hx hb dX5_press_203 hl (k := 1) rfl (by decide) rfl (fun ls hl => ?_)
                    refine lv_goto (tgt := 163) hx hb dX5_press_206 (by decide) ?_
                    refine lv_iload hx hb dX5_press_163 (lv_at hl 0 rfl) ?_
                    refine b_iconst hx hb dX5_press_165 ?_
                    refine b_icmp_ge (tgt := 209) hx hb dX5_press_166 (by decide) ⟨⟨by omega, by omega⟩, ⟨by omega, by omega⟩⟩ (fun c => absurd c (by omega)) (fun _ => ?_)
                    refine lv_iload hx hb dX5_press_169 (lv_at hl 1 rfl) ?_
                    refine lv_aload_n hx hb dX5_press_171 rfl (lv_at hl 5 rfl) ?_
                    refine g_get (C := RX5) (T := TX5) (N := 23) hx hb hts inX5 hown hG hM.1 rfl 7 (by decide) (by decide +kernel) rfl (v := .ref (bm + 6)) rfl dX5_press_172 ?_
                    refine b_iconst hx hb dX5_press_175 ?_
                    refine lv_iload_n hx hb dX5_press_176 rfl (lv_at hl 6 rfl) ?_
                    refine b_imul hx hb dX5_press_177 ?_
                    refine lv_iload hx hb dX5_press_178 (lv_at hl 0 rfl) ?_
                    refine b_iadd hx hb dX5_press_180 ?_
                    have b_181 : 0 ≤ X 7 (3 * n + 1) ∧ X 7 (3 * n + 1) ≤ 1000024 := hV.1 7 _ (by decide) rfl
                    refine g_iald (n := 24) hx hb hG (f := fun i => z2 ((up X 22 0 (0)) 7 i)) (show ca D (bm + 6) (iA (ks 0) 24 (fun i => z2 ((up X 22 0 (0)) 7 i))) _ from hM.2.1 7 (sr_of (by decide))) (3 * n + 1) ⟨by omega, by omega, by decide⟩ dX5_press_181 ?_
                    refine W.eq (g2 := F0 m 182 ls (.int (z2 (X 7 (3 * n + 1))) :: [.int (z2 ((X 6 (3 * n + b)) + (X 6 (3 * n + 0))))])) rfl ?_
                    refine b_if_le (tgt := 199) hx hb dX5_press_182 (by decide) ⟨by omega, by omega⟩ (fun c_182 => ?_) (fun c_182 => ?_)
                    · skip
                      refine b_iconst hx hb dX5_press_199 ?_
                      refine b_iadd hx hb dX5_press_200 ?_
                      refine lv_istore (lv' := [(6, .int (z2 (((X 6 (3 * n + b)) + (X 6 (3 * n + 0))) + 0))), (7, .int (z2 (1))), (5, .int (z2 (0))), (4, .int (z2 (((12 * ((n : Nat) : Int)) + (X 5 (3 * n + b))) - 1))), (3, .int (z2 ((3 * ((n : Nat) : Int)) + ((b : Nat) : Int)))), (0, .ref bm), (1, .int (z2 (((n : Nat) : Int)))), (2, .int (z2 (((b : Nat) : Int))))]) hx hb dX5_press_201 hl (by decide) rfl (fun ls hl => ?_)
                      refine b_iinc (lv' := [(7, .int (z2 (2))), (6, .int (z2 (((X 6 (3 * n + b)) + (X 6 (3 * n + 0))) + 0))), (5, .int (z2 (0))), (4, .int (z2 (((12 * ((n : Nat) : Int)) + (X 5 (3 * n + b))) - 1))), (3, .int (z2 ((3 * ((n : Nat) : Int)) + ((b : Nat) : Int)))), (0, .ref bm), (1, .int (z2 (((n : Nat) : Int)))), (2, .int (z2 (((b : Nat) : Int))))]) hx hb dX5_press_203 hl (k := 1) rfl (by decide) rfl (fun ls hl => ?_)
                      refine lv_goto (tgt := 163) hx hb dX5_press_206 (by decide) ?_
                      refine lv_iload hx hb dX5_press_163 (lv_at hl 0 rfl) ?_
                      refine b_iconst hx hb dX5_press_165 ?_
                      refine b_icmp_ge (tgt := 209) hx hb dX5_press_166 (by decide) ⟨⟨by omega, by omega⟩, ⟨by omega, by omega⟩⟩ (fun c => absurd c (by omega)) (fun _ => ?_)
                      refine lv_iload hx hb dX5_press_169 (lv_at hl 1 rfl) ?_
                      refine lv_aload_n hx hb dX5_press_171 rfl (lv_at hl 5 rfl) ?_
                      refine g_get (C := RX5) (T := TX5) (N := 23) hx hb hts inX5 hown hG hM.1 rfl 7 (by decide) (by decide +kernel) rfl (v := .ref (bm + 6)) rfl dX5_press_172 ?_
                      refine b_iconst hx hb dX5_press_175 ?_
                      refine lv_iload_n hx hb dX5_press_176 rfl (lv_at hl 6 rfl) ?_
                      refine b_imul hx hb dX5_press_177 ?_
                      refine lv_iload hx hb dX5_press_178 (lv_at hl 0 rfl) ?_
                      refine b_iadd hx hb dX5_press_180 ?_
                      have b_181 : 0 ≤ X 7 (3 * n + 2) ∧ X 7 (3 * n + 2) ≤ 1000024 := hV.1 7 _ (by decide) rfl
                      refine g_iald (n := 24) hx hb hG (f := fun i => z2 ((up X 22 0 (0)) 7 i)) (show ca D (bm + 6) (iA (ks 0) 24 (fun i => z2 ((up X 22 0 (0)) 7 i))) _ from hM.2.1 7 (sr_of (by decide))) (3 * n + 2) ⟨by omega, by omega, by decide⟩ dX5_press_181 ?_
                      refine W.eq (g2 := F0 m 182 ls (.int (z2 (X 7 (3 * n + 2))) :: [.int (z2 (((X 6 (3 * n + b)) + (X 6 (3 * n + 0))) + 0))])) rfl ?_
                      refine b_if_le (tgt := 199) hx hb dX5_press_182 (by decide) ⟨by omega, by omega⟩ (fun c_182 => ?_) (fun c_182 => ?_)
                      · skip
                        refine b_iconst hx hb dX5_press_199 ?_
                        refine b_iadd hx hb dX5_press_200 ?_
                        refine lv_istore (lv' := [(6, .int (z2 ((((X 6 (3 * n + b)) + (X 6 (3 * n + 0))) + 0) + 0))), (7, .int (z2 (2))), (5, .int (z2 (0))), (4, .int (z2 (((12 * ((n : Nat) : Int)) + (X 5 (3 * n + b))) - 1))), (3, .int (z2 ((3 * ((n : Nat) : Int)) + ((b : Nat) : Int)))), (0, .ref bm), (1, .int (z2 (((n : Nat) : Int)))), (2, .int (z2 (((b : Nat) : Int))))]) hx hb dX5_press_201 hl (by decide) rfl (fun ls hl => ?_)
                        refine b_iinc (lv' := [(7, .int (z2 (3))), (6, .int (z2 ((((X 6 (3 * n + b)) + (X 6 (3 * n + 0))) + 0) + 0))), (5, .int (z2 (0))), (4, .int (z2 (((12 * ((n : Nat) : Int)) + (X 5 (3 * n + b))) - 1))), (3, .int (z2 ((3 * ((n : Nat) : Int)) + ((b : Nat) : Int)))), (0, .ref bm), (1, .int (z2 (((n : Nat) : Int)))), (2, .int (z2 (((b : Nat) : Int))))]) hx hb dX5_press_203 hl (k := 1) rfl (by decide) rfl (fun ls hl => ?_)
                        refine lv_goto (tgt := 163) hx hb dX5_press_206 (by decide) ?_
                        refine lv_iload hx hb dX5_press_163 (lv_at hl 0 rfl) ?_
                        refine b_iconst hx hb dX5_press_165 ?_
                        refine b_icmp_ge (tgt := 209) hx hb dX5_press_166 (by decide) ⟨⟨by omega, by omega⟩, ⟨by omega, by omega⟩⟩ (fun _ => ?_) (fun c => absurd c (by omega))
                        refine lv_iload hx hb dX5_press_209 (lv_at hl 1 rfl) ?_
                        refine b_bipush hx hb dX5_press_211 (by decide +kernel) ?_
                        refine b_icmp_le (tgt := 223) hx hb dX5_press_213 (by decide) ⟨⟨by omega, by omega⟩, ⟨by omega, by omega⟩⟩ (fun c_213 => ?_) (fun c_213 => ?_)
                        · skip
                          refine lv_aload_n hx hb dX5_press_223 rfl (lv_at hl 5 rfl) ?_
                          refine g_get (C := RX5) (T := TX5) (N := 23) hx hb hts inX5 hown hG hM.1 rfl 8 (by decide) (by decide +kernel) rfl (v := .ref (bm + 7)) rfl dX5_press_224 ?_
                          refine lv_iload hx hb dX5_press_227 (lv_at hl 3 rfl) ?_
                          refine lv_dup2_11 hx hb dX5_press_229 rfl rfl ?_
                          have b_230 : 0 ≤ X 8 (12 * n + k) ∧ X 8 (12 * n + k) ≤ 1000 := hV.1 8 _ (by decide) rfl
                          refine g_iald (n := 96) hx hb hG (f := fun i => z2 ((up X 22 0 (0)) 8 i)) (show ca D (bm + 7) (iA (ks 0) 96 (fun i => z2 ((up X 22 0 (0)) 8 i))) _ from hM.2.1 8 (sr_of (by decide))) (12 * n + k) ⟨by omega, by omega, by decide⟩ dX5_press_230 ?_
                          refine W.eq (g2 := F0 m 231 ls (.int (z2 (X 8 (12 * n + k))) :: [.int (z2 (((12 * ((n : Nat) : Int)) + (X 5 (3 * n + b))) - 1)), .ref (bm + 7)])) rfl ?_
                          refine lv_iload hx hb dX5_press_231 (lv_at hl 2 rfl) ?_
                          refine b_if_eq (tgt := 240) hx hb dX5_press_233 (by decide) ⟨by omega, by omega⟩ (fun _ => ?_) (fun c => absurd c (by omega))
                          refine b_iconst hx hb dX5_press_240 ?_
                          refine b_isub hx hb dX5_press_241 ?_
                          refine g_iast (n := 96) hx hb hG hS (f := fun i => z2 ((up X 22 0 (0)) 8 i)) (show ca D (bm + 7) (iA (ks 0) 96 (fun i => z2 ((up X 22 0 (0)) 8 i))) _ from hM.2.1 8 (sr_of (by decide))) (Or.inl ⟨by omega, by omega⟩) (12 * n + k) ⟨by omega, by omega, by decide⟩ dX5_press_242 (fun H locs he hz oq hS => ?_)
                          have hM : PM D ks bm (up (up X 22 0 (0)) 8 (12 * n + k) ((X 8 (12 * n + k)) - 1)) H := hM.row (f := 8) (sr_of (by decide)) he oq
                          refine lv_aload_n hx hb dX5_press_243 rfl (lv_at hl 5 rfl) ?_
                          refine lv_iload_n hx hb dX5_press_244 rfl (lv_at hl 4 rfl) ?_
                          refine g_run (vx_runV (As := [.int (z2 ((3 * ((n : Nat) : Int)) + ((b : Nat) : Int)))]) (rest := []) ⟨hx, hb, hml, hown, hts⟩ (m_begins l D ks bx bm hbm (up (up X 22 0 (0)) 8 (12 * n + k) ((X 8 (12 * n + k)) - 1)) _ hM (vs_up (vs_uf hV (by decide)) (by decide) (fun _ _ => by show 0 ≤ _ ∧ _ ≤ (1000 : Int); omega)) (i := 3 * n + b) ((3 * ((n : Nat) : Int)) + ((b : Nat) : Int)) ⟨by omega, by omega⟩ (by show 0 < X 5 (3 * n + b); omega)) (cwV 1 hts gX5_press_X5_begins rfl rfl rfl (by decide +kernel) ⟨Nat.le_of_ble_eq_true rfl, Nat.le_of_ble_eq_true rfl⟩) (g_preV (r := (RX5, TX5, 23)) hG hS (rm_ge hbm) hM.1 rfl) rfl rfl hl.1 rfl (lv_room (Nat.le_of_ble_eq_true rfl)) dX5_press_245 ⟨Nat.le_of_ble_eq_true rfl, Nat.le_of_ble_eq_true rfl⟩) hS (fun _ h => h) (fun _ _ _ _ _ h => h.elim) (fun v H1 locs hp hz9 hk9 hS => ?_)
                          obtain ⟨rfl, hM⟩ := hp
                          refine W.eq (g2 := F0 m 248 ls []) rfl ?_
                          refine b_iconst hx hb dX5_press_248 ?_
                          have e9 : pmS X (up X 22 0 0) n (3 * n + b) k = (beS (up (up X 22 0 (0)) 8 (12 * n + k) ((X 8 (12 * n + k)) - 1)) (3 * n + b)) := by
                            unfold pmS plM
                            (repeat' split) <;> first | rfl | omega
                          have e8 : (1 : Int) = pmV X n (3 * n + b) k := by
                            unfold pmV plM
                            (repeat' split) <;> omega
                          exact g_iret hx hb hr hlocks hS ⟨Nat.le_of_ble_eq_true rfl, Nat.le_of_ble_eq_true rfl⟩ (⟨1, (beS (up (up X 22 0 (0)) 8 (12 * n + k) ((X 8 (12 * n + k)) - 1)) (3 * n + b)), Or.inl (⟨n, b, k, by omega, e8, e9.symm⟩), rfl, hM⟩) dX5_press_249
                        · skip
                          refine lv_aload_n hx hb dX5_press_216 rfl (lv_at hl 5 rfl) ?_
                          refine lv_iload_n hx hb dX5_press_217 rfl (lv_at hl 6 rfl) ?_
                          refine g_run (vx_runV (As := [.int (z2 (((n : Nat) : Int)))]) (rest := []) ⟨hx, hb, hml, hown, hts⟩ (m_breaks l D ks bx bm hbm (up X 22 0 (0)) _ hM (vs_uf (hV) (by decide)) (n := n) (((n : Nat) : Int)) ⟨by omega, by omega⟩) (cwV 1 hts gX5_press_X5_breaks rfl rfl rfl (by decide +kernel) ⟨Nat.le_of_ble_eq_true rfl, Nat.le_of_ble_eq_true rfl⟩) (g_preV (r := (RX5, TX5, 23)) hG hS (rm_ge hbm) hM.1 rfl) rfl rfl hl.1 rfl (lv_room (Nat.le_of_ble_eq_true rfl)) dX5_press_218 ⟨Nat.le_of_ble_eq_true rfl, Nat.le_of_ble_eq_true rfl⟩) hS (fun _ h => h) (fun _ _ _ _ _ h => h.elim) (fun v H1 locs hp hz9 hk9 hS => ?_)
                          obtain ⟨rfl, hM⟩ := hp
                          have hV : VS (brM (up X 22 0 (0)) n) := vs_br (vs_uf (hV) (by decide)) n
                          refine W.eq (g2 := F0 m 221 ls []) rfl ?_
                          refine b_iconst hx hb dX5_press_221 ?_
                          have e9 : pmS X (up X 22 0 0) n (3 * n + b) k = (brM (up X 22 0 (0)) n) := by
                            unfold pmS plM
                            (repeat' split) <;> first | rfl | omega
                          have e8 : (3 : Int) = pmV X n (3 * n + b) k := by
                            unfold pmV plM
                            (repeat' split) <;> omega
                          exact g_iret hx hb hr hlocks hS ⟨Nat.le_of_ble_eq_true rfl, Nat.le_of_ble_eq_true rfl⟩ (⟨3, (brM (up X 22 0 (0)) n), Or.inl (⟨n, b, k, by omega, e8, e9.symm⟩), rfl, hM⟩) dX5_press_222
                      · skip
                        refine lv_aload_n hx hb dX5_press_185 rfl (lv_at hl 5 rfl) ?_
                        refine g_get (C := RX5) (T := TX5) (N := 23) hx hb hts inX5 hown hG hM.1 rfl 6 (by decide) (by decide +kernel) rfl (v := .ref (bm + 5)) rfl dX5_press_186 ?_
                        refine b_iconst hx hb dX5_press_189 ?_
                        refine lv_iload_n hx hb dX5_press_190 rfl (lv_at hl 6 rfl) ?_
                        refine b_imul hx hb dX5_press_191 ?_
                        refine lv_iload hx hb dX5_press_192 (lv_at hl 0 rfl) ?_
                        refine b_iadd hx hb dX5_press_194 ?_
                        have b_195 : 1 ≤ X 6 (3 * n + 2) ∧ X 6 (3 * n + 2) ≤ 9 := hV.1 6 _ (by decide) rfl
                        refine g_iald (n := 24) hx hb hG (f := fun i => z2 ((up X 22 0 (0)) 6 i)) (show ca D (bm + 5) (iA (ks 0) 24 (fun i => z2 ((up X 22 0 (0)) 6 i))) _ from hM.2.1 6 (sr_of (by decide))) (3 * n + 2) ⟨by omega, by omega, by decide⟩ dX5_press_195 ?_
                        refine W.eq (g2 := F0 m 196 ls (.int (z2 (X 6 (3 * n + 2))) :: [.int (z2 (((X 6 (3 * n + b)) + (X 6 (3 * n + 0))) + 0))])) rfl ?_
                        refine lv_goto (tgt := 200) hx hb dX5_press_196 (by decide) ?_
                        refine b_iadd hx hb dX5_press_200 ?_
                        refine lv_istore (lv' := [(6, .int (z2 ((((X 6 (3 * n + b)) + (X 6 (3 * n + 0))) + 0) + (X 6 (3 * n + 2))))), (7, .int (z2 (2))), (5, .int (z2 (0))), (4, .int (z2 (((12 * ((n : Nat) : Int)) + (X 5 (3 * n + b))) - 1))), (3, .int (z2 ((3 * ((n : Nat) : Int)) + ((b : Nat) : Int)))), (0, .ref bm), (1, .int (z2 (((n : Nat) : Int)))), (2, .int (z2 (((b : Nat) : Int))))]) hx hb dX5_press_201 hl (by decide) rfl (fun ls hl => ?_)
                        refine b_iinc (lv' := [(7, .int (z2 (3))), (6, .int (z2 ((((X 6 (3 * n + b)) + (X 6 (3 * n + 0))) + 0) + (X 6 (3 * n + 2))))), (5, .int (z2 (0))), (4, .int (z2 (((12 * ((n : Nat) : Int)) + (X 5 (3 * n + b))) - 1))), (3, .int (z2 ((3 * ((n : Nat) : Int)) + ((b : Nat) : Int)))), (0, .ref bm), (1, .int (z2 (((n : Nat) : Int)))), (2, .int (z2 (((b : Nat) : Int))))]) hx hb dX5_press_203 hl (k := 1) rfl (by decide) rfl (fun ls hl => ?_)
                        refine lv_goto (tgt := 163) hx hb dX5_press_206 (by decide) ?_
                        refine lv_iload hx hb dX5_press_163 (lv_at hl 0 rfl) ?_
                        refine b_iconst hx hb dX5_press_165 ?_
                        refine b_icmp_ge (tgt := 209) hx hb dX5_press_166 (by decide) ⟨⟨by omega, by omega⟩, ⟨by omega, by omega⟩⟩ (fun _ => ?_) (fun c => absurd c (by omega))
                        refine lv_iload hx hb dX5_press_209 (lv_at hl 1 rfl) ?_
                        refine b_bipush hx hb dX5_press_211 (by decide +kernel) ?_
                        refine b_icmp_le (tgt := 223) hx hb dX5_press_213 (by decide) ⟨⟨by omega, by omega⟩, ⟨by omega, by omega⟩⟩ (fun c_213 => ?_) (fun c_213 => ?_)
                        · skip
                          refine lv_aload_n hx hb dX5_press_223 rfl (lv_at hl 5 rfl) ?_
                          refine g_get (C := RX5) (T := TX5) (N := 23) hx hb hts inX5 hown hG hM.1 rfl 8 (by decide) (by decide +kernel) rfl (v := .ref (bm + 7)) rfl dX5_press_224 ?_
                          refine lv_iload hx hb dX5_press_227 (lv_at hl 3 rfl) ?_
                          refine lv_dup2_11 hx hb dX5_press_229 rfl rfl ?_
                          have b_230 : 0 ≤ X 8 (12 * n + k) ∧ X 8 (12 * n + k) ≤ 1000 := hV.1 8 _ (by decide) rfl
                          refine g_iald (n := 96) hx hb hG (f := fun i => z2 ((up X 22 0 (0)) 8 i)) (show ca D (bm + 7) (iA (ks 0) 96 (fun i => z2 ((up X 22 0 (0)) 8 i))) _ from hM.2.1 8 (sr_of (by decide))) (12 * n + k) ⟨by omega, by omega, by decide⟩ dX5_press_230 ?_
                          refine W.eq (g2 := F0 m 231 ls (.int (z2 (X 8 (12 * n + k))) :: [.int (z2 (((12 * ((n : Nat) : Int)) + (X 5 (3 * n + b))) - 1)), .ref (bm + 7)])) rfl ?_
                          refine lv_iload hx hb dX5_press_231 (lv_at hl 2 rfl) ?_
                          refine b_if_eq (tgt := 240) hx hb dX5_press_233 (by decide) ⟨by omega, by omega⟩ (fun _ => ?_) (fun c => absurd c (by omega))
                          refine b_iconst hx hb dX5_press_240 ?_
                          refine b_isub hx hb dX5_press_241 ?_
                          refine g_iast (n := 96) hx hb hG hS (f := fun i => z2 ((up X 22 0 (0)) 8 i)) (show ca D (bm + 7) (iA (ks 0) 96 (fun i => z2 ((up X 22 0 (0)) 8 i))) _ from hM.2.1 8 (sr_of (by decide))) (Or.inl ⟨by omega, by omega⟩) (12 * n + k) ⟨by omega, by omega, by decide⟩ dX5_press_242 (fun H locs he hz oq hS => ?_)
                          have hM : PM D ks bm (up (up X 22 0 (0)) 8 (12 * n + k) ((X 8 (12 * n + k)) - 1)) H := hM.row (f := 8) (sr_of (by decide)) he oq
                          refine lv_aload_n hx hb dX5_press_243 rfl (lv_at hl 5 rfl) ?_
                          refine lv_iload_n hx hb dX5_press_244 rfl (lv_at hl 4 rfl) ?_
                          refine g_run (vx_runV (As := [.int (z2 ((3 * ((n : Nat) : Int)) + ((b : Nat) : Int)))]) (rest := []) ⟨hx, hb, hml, hown, hts⟩ (m_begins l D ks bx bm hbm (up (up X 22 0 (0)) 8 (12 * n + k) ((X 8 (12 * n + k)) - 1)) _ hM (vs_up (vs_uf hV (by decide)) (by decide) (fun _ _ => by show 0 ≤ _ ∧ _ ≤ (1000 : Int); omega)) (i := 3 * n + b) ((3 * ((n : Nat) : Int)) + ((b : Nat) : Int)) ⟨by omega, by omega⟩ (by show 0 < X 5 (3 * n + b); omega)) (cwV 1 hts gX5_press_X5_begins rfl rfl rfl (by decide +kernel) ⟨Nat.le_of_ble_eq_true rfl, Nat.le_of_ble_eq_true rfl⟩) (g_preV (r := (RX5, TX5, 23)) hG hS (rm_ge hbm) hM.1 rfl) rfl rfl hl.1 rfl (lv_room (Nat.le_of_ble_eq_true rfl)) dX5_press_245 ⟨Nat.le_of_ble_eq_true rfl, Nat.le_of_ble_eq_true rfl⟩) hS (fun _ h => h) (fun _ _ _ _ _ h => h.elim) (fun v H1 locs hp hz9 hk9 hS => ?_)
                          obtain ⟨rfl, hM⟩ := hp
                          refine W.eq (g2 := F0 m 248 ls []) rfl ?_
                          refine b_iconst hx hb dX5_press_248 ?_
                          have e9 : pmS X (up X 22 0 0) n (3 * n + b) k = (beS (up (up X 22 0 (0)) 8 (12 * n + k) ((X 8 (12 * n + k)) - 1)) (3 * n + b)) := by
                            unfold pmS plM
                            (repeat' split) <;> first | rfl | omega
                          have e8 : (1 : Int) = pmV X n (3 * n + b) k := by
                            unfold pmV plM
                            (repeat' split) <;> omega
                          exact g_iret hx hb hr hlocks hS ⟨Nat.le_of_ble_eq_true rfl, Nat.le_of_ble_eq_true rfl⟩ (⟨1, (beS (up (up X 22 0 (0)) 8 (12 * n + k) ((X 8 (12 * n + k)) - 1)) (3 * n + b)), Or.inl (⟨n, b, k, by omega, e8, e9.symm⟩), rfl, hM⟩) dX5_press_249
                        · skip
                          refine lv_aload_n hx hb dX5_press_216 rfl (lv_at hl 5 rfl) ?_
                          refine lv_iload_n hx hb dX5_press_217 rfl (lv_at hl 6 rfl) ?_
                          refine g_run (vx_runV (As := [.int (z2 (((n : Nat) : Int)))]) (rest := []) ⟨hx, hb, hml, hown, hts⟩ (m_breaks l D ks bx bm hbm (up X 22 0 (0)) _ hM (vs_uf (hV) (by decide)) (n := n) (((n : Nat) : Int)) ⟨by omega, by omega⟩) (cwV 1 hts gX5_press_X5_breaks rfl rfl rfl (by decide +kernel) ⟨Nat.le_of_ble_eq_true rfl, Nat.le_of_ble_eq_true rfl⟩) (g_preV (r := (RX5, TX5, 23)) hG hS (rm_ge hbm) hM.1 rfl) rfl rfl hl.1 rfl (lv_room (Nat.le_of_ble_eq_true rfl)) dX5_press_218 ⟨Nat.le_of_ble_eq_true rfl, Nat.le_of_ble_eq_true rfl⟩) hS (fun _ h => h) (fun _ _ _ _ _ h => h.elim) (fun v H1 locs hp hz9 hk9 hS => ?_)
                          obtain ⟨rfl, hM⟩ := hp
                          have hV : VS (brM (up X 22 0 (0)) n) := vs_br (vs_uf (hV) (by decide)) n
                          refine W.eq (g2 := F0 m 221 ls []) rfl ?_
                          refine b_iconst hx hb dX5_press_221 ?_
                          have e9 : pmS X (up X 22 0 0) n (3 * n + b) k = (brM (up X 22 0 (0)) n) := by
                            unfold pmS plM
                            (repeat' split) <;> first | rfl | omega
                          have e8 : (3 : Int) = pmV X n (3 * n + b) k := by
                            unfold pmV plM
                            (repeat' split) <;> omega
                          exact g_iret hx hb hr hlocks hS ⟨Nat.le_of_ble_eq_true rfl, Nat.le_of_ble_eq_true rfl⟩ (⟨3, (brM (up X 22 0 (0)) n), Or.inl (⟨n, b, k, by omega, e8, e9.symm⟩), rfl, hM⟩) dX5_press_222
                    · skip
                      refine lv_aload_n hx hb dX5_press_185 rfl (lv_at hl 5 rfl) ?_
                      refine g_get (C := RX5) (T := TX5) (N := 23) hx hb hts inX5 hown hG hM.1 rfl 6 (by decide) (by decide +kernel) rfl (v := .ref (bm + 5)) rfl dX5_press_186 ?_
                      refine b_iconst hx hb dX5_press_189 ?_
                      refine lv_iload_n hx hb dX5_press_190 rfl (lv_at hl 6 rfl) ?_
                      refine b_imul hx hb dX5_press_191 ?_
                      refine lv_iload hx hb dX5_press_192 (lv_at hl 0 rfl) ?_
                      refine b_iadd hx hb dX5_press_194 ?_
                      have b_195 : 1 ≤ X 6 (3 * n + 1) ∧ X 6 (3 * n + 1) ≤ 9 := hV.1 6 _ (by decide) rfl
                      refine g_iald (n := 24) hx hb hG (f := fun i => z2 ((up X 22 0 (0)) 6 i)) (show ca D (bm + 5) (iA (ks 0) 24 (fun i => z2 ((up X 22 0 (0)) 6 i))) _ from hM.2.1 6 (sr_of (by decide))) (3 * n + 1) ⟨by omega, by omega, by decide⟩ dX5_press_195 ?_
                      refine W.eq (g2 := F0 m 196 ls (.int (z2 (X 6 (3 * n + 1))) :: [.int (z2 ((X 6 (3 * n + b)) + (X 6 (3 * n + 0))))])) rfl ?_
                      refine lv_goto (tgt := 200) hx hb dX5_press_196 (by decide) ?_
                      refine b_iadd hx hb dX5_press_200 ?_
                      refine lv_istore (lv' := [(6, .int (z2 (((X 6 (3 * n + b)) + (X 6 (3 * n + 0))) + (X 6 (3 * n + 1))))), (7, .int (z2 (1))), (5, .int (z2 (0))), (4, .int (z2 (((12 * ((n : Nat) : Int)) + (X 5 (3 * n + b))) - 1))), (3, .int (z2 ((3 * ((n : Nat) : Int)) + ((b : Nat) : Int)))), (0, .ref bm), (1, .int (z2 (((n : Nat) : Int)))), (2, .int (z2 (((b : Nat) : Int))))]) hx hb dX5_press_201 hl (by decide) rfl (fun ls hl => ?_)
                      refine b_iinc (lv' := [(7, .int (z2 (2))), (6, .int (z2 (((X 6 (3 * n + b)) + (X 6 (3 * n + 0))) + (X 6 (3 * n + 1))))), (5, .int (z2 (0))), (4, .int (z2 (((12 * ((n : Nat) : Int)) + (X 5 (3 * n + b))) - 1))), (3, .int (z2 ((3 * ((n : Nat) : Int)) + ((b : Nat) : Int)))), (0, .ref bm), (1, .int (z2 (((n : Nat) : Int)))), (2, .int (z2 (((b : Nat) : Int))))]) hx hb dX5_press_203 hl (k := 1) rfl (by decide) rfl (fun ls hl => ?_)
                      refine lv_goto (tgt := 163) hx hb dX5_press_206 (by decide) ?_
                      refine lv_iload hx hb dX5_press_163 (lv_at hl 0 rfl) ?_
                      refine b_iconst hx hb dX5_press_165 ?_
                      refine b_icmp_ge (tgt := 209) hx hb dX5_press_166 (by decide) ⟨⟨by omega, by omega⟩, ⟨by omega, by omega⟩⟩ (fun c => absurd c (by omega)) (fun _ => ?_)
                      refine lv_iload hx hb dX5_press_169 (lv_at hl 1 rfl) ?_
                      refine lv_aload_n hx hb dX5_press_171 rfl (lv_at hl 5 rfl) ?_
                      refine g_get (C := RX5) (T := TX5) (N := 23) hx hb hts inX5 hown hG hM.1 rfl 7 (by decide) (by decide +kernel) rfl (v := .ref (bm + 6)) rfl dX5_press_172 ?_
                      refine b_iconst hx hb dX5_press_175 ?_
                      refine lv_iload_n hx hb dX5_press_176 rfl (lv_at hl 6 rfl) ?_
                      refine b_imul hx hb dX5_press_177 ?_
                      refine lv_iload hx hb dX5_press_178 (lv_at hl 0 rfl) ?_
                      refine b_iadd hx hb dX5_press_180 ?_
                      have b_181 : 0 ≤ X 7 (3 * n + 2) ∧ X 7 (3 * n + 2) ≤ 1000024 := hV.1 7 _ (by decide) rfl
                      refine g_iald (n := 24) hx hb hG (f := fun i => z2 ((up X 22 0 (0)) 7 i)) (show ca D (bm + 6) (iA (ks 0) 24 (fun i => z2 ((up X 22 0 (0)) 7 i))) _ from hM.2.1 7 (sr_of (by decide))) (3 * n + 2) ⟨by omega, by omega, by decide⟩ dX5_press_181 ?_
                      refine W.eq (g2 := F0 m 182 ls (.int (z2 (X 7 (3 * n + 2))) :: [.int (z2 (((X 6 (3 * n + b)) + (X 6 (3 * n + 0))) + (X 6 (3 * n + 1))))])) rfl ?_
                      refine b_if_le (tgt := 199) hx hb dX5_press_182 (by decide) ⟨by omega, by omega⟩ (fun c_182 => ?_) (fun c_182 => ?_)
                      · skip
                        refine b_iconst hx hb dX5_press_199 ?_
                        refine b_iadd hx hb dX5_press_200 ?_
                        refine lv_istore (lv' := [(6, .int (z2 ((((X 6 (3 * n + b)) + (X 6 (3 * n + 0))) + (X 6 (3 * n + 1))) + 0))), (7, .int (z2 (2))), (5, .int (z2 (0))), (4, .int (z2 (((12 * ((n : Nat) : Int)) + (X 5 (3 * n + b))) - 1))), (3, .int (z2 ((3 * ((n : Nat) : Int)) + ((b : Nat) : Int)))), (0, .ref bm), (1, .int (z2 (((n : Nat) : Int)))), (2, .int (z2 (((b : Nat) : Int))))]) hx hb dX5_press_201 hl (by decide) rfl (fun ls hl => ?_)
                        refine b_iinc (lv' := [(7, .int (z2 (3))), (6, .int (z2 ((((X 6 (3 * n + b)) + (X 6 (3 * n + 0))) + (X 6 (3 * n + 1))) + 0))), (5, .int (z2 (0))), (4, .int (z2 (((12 * ((n : Nat) : Int)) + (X 5 (3 * n + b))) - 1))), (3, .int (z2 ((3 * ((n : Nat) : Int)) + ((b : Nat) : Int)))), (0, .ref bm), (1, .int (z2 (((n : Nat) : Int)))), (2, .int (z2 (((b : Nat) : Int))))]) hx hb dX5_press_203 hl (k := 1) rfl (by decide) rfl (fun ls hl => ?_)
                        refine lv_goto (tgt := 163) hx hb dX5_press_206 (by decide) ?_
                        refine lv_iload hx hb dX5_press_163 (lv_at hl 0 rfl) ?_
                        refine b_iconst hx hb dX5_press_165 ?_
                        refine b_icmp_ge (tgt := 209) hx hb dX5_press_166 (by decide) ⟨⟨by omega, by omega⟩, ⟨by omega, by omega⟩⟩ (fun _ => ?_) (fun c => absurd c (by omega))
                        refine lv_iload hx hb dX5_press_209 (lv_at hl 1 rfl) ?_
                        refine b_bipush hx hb dX5_press_211 (by decide +kernel) ?_
                        refine b_icmp_le (tgt := 223) hx hb dX5_press_213 (by decide) ⟨⟨by omega, by omega⟩, ⟨by omega, by omega⟩⟩ (fun c_213 => ?_) (fun c_213 => ?_)
                        · skip
                          refine lv_aload_n hx hb dX5_press_223 rfl (lv_at hl 5 rfl) ?_
                          refine g_get (C := RX5) (T := TX5) (N := 23) hx hb hts inX5 hown hG hM.1 rfl 8 (by decide) (by decide +kernel) rfl (v := .ref (bm + 7)) rfl dX5_press_224 ?_
                          refine lv_iload hx hb dX5_press_227 (lv_at hl 3 rfl) ?_
                          refine lv_dup2_11 hx hb dX5_press_229 rfl rfl ?_
                          have b_230 : 0 ≤ X 8 (12 * n + k) ∧ X 8 (12 * n + k) ≤ 1000 := hV.1 8 _ (by decide) rfl
                          refine g_iald (n := 96) hx hb hG (f := fun i => z2 ((up X 22 0 (0)) 8 i)) (show ca D (bm + 7) (iA (ks 0) 96 (fun i => z2 ((up X 22 0 (0)) 8 i))) _ from hM.2.1 8 (sr_of (by decide))) (12 * n + k) ⟨by omega, by omega, by decide⟩ dX5_press_230 ?_
                          refine W.eq (g2 := F0 m 231 ls (.int (z2 (X 8 (12 * n + k))) :: [.int (z2 (((12 * ((n : Nat) : Int)) + (X 5 (3 * n + b))) - 1)), .ref (bm + 7)])) rfl ?_
                          refine lv_iload hx hb dX5_press_231 (lv_at hl 2 rfl) ?_
                          refine b_if_eq (tgt := 240) hx hb dX5_press_233 (by decide) ⟨by omega, by omega⟩ (fun _ => ?_) (fun c => absurd c (by omega))
                          refine b_iconst hx hb dX5_press_240 ?_
                          refine b_isub hx hb dX5_press_241 ?_
                          refine g_iast (n := 96) hx hb hG hS (f := fun i => z2 ((up X 22 0 (0)) 8 i)) (show ca D (bm + 7) (iA (ks 0) 96 (fun i => z2 ((up X 22 0 (0)) 8 i))) _ from hM.2.1 8 (sr_of (by decide))) (Or.inl ⟨by omega, by omega⟩) (12 * n + k) ⟨by omega, by omega, by decide⟩ dX5_press_242 (fun H locs he hz oq hS => ?_)
                          have hM : PM D ks bm (up (up X 22 0 (0)) 8 (12 * n + k) ((X 8 (12 * n + k)) - 1)) H := hM.row (f := 8) (sr_of (by decide)) he oq
                          refine lv_aload_n hx hb dX5_press_243 rfl (lv_at hl 5 rfl) ?_
                          refine lv_iload_n hx hb dX5_press_244 rfl (lv_at hl 4 rfl) ?_
                          refine g_run (vx_runV (As := [.int (z2 ((3 * ((n : Nat) : Int)) + ((b : Nat) : Int)))]) (rest := []) ⟨hx, hb, hml, hown, hts⟩ (m_begins l D ks bx bm hbm (up (up X 22 0 (0)) 8 (12 * n + k) ((X 8 (12 * n + k)) - 1)) _ hM (vs_up (vs_uf hV (by decide)) (by decide) (fun _ _ => by show 0 ≤ _ ∧ _ ≤ (1000 : Int); omega)) (i := 3 * n + b) ((3 * ((n : Nat) : Int)) + ((b : Nat) : Int)) ⟨by omega, by omega⟩ (by show 0 < X 5 (3 * n + b); omega)) (cwV 1 hts gX5_press_X5_begins rfl rfl rfl (by decide +kernel) ⟨Nat.le_of_ble_eq_true rfl, Nat.le_of_ble_eq_true rfl⟩) (g_preV (r := (RX5, TX5, 23)) hG hS (rm_ge hbm) hM.1 rfl) rfl rfl hl.1 rfl (lv_room (Nat.le_of_ble_eq_true rfl)) dX5_press_245 ⟨Nat.le_of_ble_eq_true rfl, Nat.le_of_ble_eq_true rfl⟩) hS (fun _ h => h) (fun _ _ _ _ _ h => h.elim) (fun v H1 locs hp hz9 hk9 hS => ?_)
                          obtain ⟨rfl, hM⟩ := hp
                          refine W.eq (g2 := F0 m 248 ls []) rfl ?_
                          refine b_iconst hx hb dX5_press_248 ?_
                          have e9 : pmS X (up X 22 0 0) n (3 * n + b) k = (beS (up (up X 22 0 (0)) 8 (12 * n + k) ((X 8 (12 * n + k)) - 1)) (3 * n + b)) := by
                            unfold pmS plM
                            (repeat' split) <;> first | rfl | omega
                          have e8 : (1 : Int) = pmV X n (3 * n + b) k := by
                            unfold pmV plM
                            (repeat' split) <;> omega
                          exact g_iret hx hb hr hlocks hS ⟨Nat.le_of_ble_eq_true rfl, Nat.le_of_ble_eq_true rfl⟩ (⟨1, (beS (up (up X 22 0 (0)) 8 (12 * n + k) ((X 8 (12 * n + k)) - 1)) (3 * n + b)), Or.inl (⟨n, b, k, by omega, e8, e9.symm⟩), rfl, hM⟩) dX5_press_249
                        · skip
                          refine lv_aload_n hx hb dX5_press_216 rfl (lv_at hl 5 rfl) ?_
                          refine lv_iload_n hx hb dX5_press_217 rfl (lv_at hl 6 rfl) ?_
                          refine g_run (vx_runV (As := [.int (z2 (((n : Nat) : Int)))]) (rest := []) ⟨hx, hb, hml, hown, hts⟩ (m_breaks l D ks bx bm hbm (up X 22 0 (0)) _ hM (vs_uf (hV) (by decide)) (n := n) (((n : Nat) : Int)) ⟨by omega, by omega⟩) (cwV 1 hts gX5_press_X5_breaks rfl rfl rfl (by decide +kernel) ⟨Nat.le_of_ble_eq_true rfl, Nat.le_of_ble_eq_true rfl⟩) (g_preV (r := (RX5, TX5, 23)) hG hS (rm_ge hbm) hM.1 rfl) rfl rfl hl.1 rfl (lv_room (Nat.le_of_ble_eq_true rfl)) dX5_press_218 ⟨Nat.le_of_ble_eq_true rfl, Nat.le_of_ble_eq_true rfl⟩) hS (fun _ h => h) (fun _ _ _ _ _ h => h.elim) (fun v H1 locs hp hz9 hk9 hS => ?_)
                          obtain ⟨rfl, hM⟩ := hp
                          have hV : VS (brM (up X 22 0 (0)) n) := vs_br (vs_uf (hV) (by decide)) n
                          refine W.eq (g2 := F0 m 221 ls []) rfl ?_
                          refine b_iconst hx hb dX5_press_221 ?_
                          have e9 : pmS X (up X 22 0 0) n (3 * n + b) k = (brM (up X 22 0 (0)) n) := by
                            unfold pmS plM
                            (repeat' split) <;> first | rfl | omega
                          have e8 : (3 : Int) = pmV X n (3 * n + b) k := by
                            unfold pmV plM
                            (repeat' split) <;> omega
                          exact g_iret hx hb hr hlocks hS ⟨Nat.le_of_ble_eq_true rfl, Nat.le_of_ble_eq_true rfl⟩ (⟨3, (brM (up X 22 0 (0)) n), Or.inl (⟨n, b, k, by omega, e8, e9.symm⟩), rfl, hM⟩) dX5_press_222
                      · skip
                        refine lv_aload_n hx hb dX5_press_185 rfl (lv_at hl 5 rfl) ?_
                        refine g_get (C := RX5) (T := TX5) (N := 23) hx hb hts inX5 hown hG hM.1 rfl 6 (by decide) (by decide +kernel) rfl (v := .ref (bm + 5)) rfl dX5_press_186 ?_
                        refine b_iconst hx hb dX5_press_189 ?_
                        refine lv_iload_n hx hb dX5_press_190 rfl (lv_at hl 6 rfl) ?_
                        refine b_imul hx hb dX5_press_191 ?_
                        refine lv_iload hx hb dX5_press_192 (lv_at hl 0 rfl) ?_
                        refine b_iadd hx hb dX5_press_194 ?_
                        have b_195 : 1 ≤ X 6 (3 * n + 2) ∧ X 6 (3 * n + 2) ≤ 9 := hV.1 6 _ (by decide) rfl
                        refine g_iald (n := 24) hx hb hG (f := fun i => z2 ((up X 22 0 (0)) 6 i)) (show ca D (bm + 5) (iA (ks 0) 24 (fun i => z2 ((up X 22 0 (0)) 6 i))) _ from hM.2.1 6 (sr_of (by decide))) (3 * n + 2) ⟨by omega, by omega, by decide⟩ dX5_press_195 ?_
                        refine W.eq (g2 := F0 m 196 ls (.int (z2 (X 6 (3 * n + 2))) :: [.int (z2 (((X 6 (3 * n + b)) + (X 6 (3 * n + 0))) + (X 6 (3 * n + 1))))])) rfl ?_
                        refine lv_goto (tgt := 200) hx hb dX5_press_196 (by decide) ?_
                        refine b_iadd hx hb dX5_press_200 ?_
                        refine lv_istore (lv' := [(6, .int (z2 ((((X 6 (3 * n + b)) + (X 6 (3 * n + 0))) + (X 6 (3 * n + 1))) + (X 6 (3 * n + 2))))), (7, .int (z2 (2))), (5, .int (z2 (0))), (4, .int (z2 (((12 * ((n : Nat) : Int)) + (X 5 (3 * n + b))) - 1))), (3, .int (z2 ((3 * ((n : Nat) : Int)) + ((b : Nat) : Int)))), (0, .ref bm), (1, .int (z2 (((n : Nat) : Int)))), (2, .int (z2 (((b : Nat) : Int))))]) hx hb dX5_press_201 hl (by decide) rfl (fun ls hl => ?_)
                        refine b_iinc (lv' := [(7, .int (z2 (3))), (6, .int (z2 ((((X 6 (3 * n + b)) + (X 6 (3 * n + 0))) + (X 6 (3 * n + 1))) + (X 6 (3 * n + 2))))), (5, .int (z2 (0))), (4, .int (z2 (((12 * ((n : Nat) : Int)) + (X 5 (3 * n + b))) - 1))), (3, .int (z2 ((3 * ((n : Nat) : Int)) + ((b : Nat) : Int)))), (0, .ref bm), (1, .int (z2 (((n : Nat) : Int)))), (2, .int (z2 (((b : Nat) : Int))))]) hx hb dX5_press_203 hl (k := 1) rfl (by decide) rfl (fun ls hl => ?_)
                        refine lv_goto (tgt := 163) hx hb dX5_press_206 (by decide) ?_
                        refine lv_iload hx hb dX5_press_163 (lv_at hl 0 rfl) ?_
                        refine b_iconst hx hb dX5_press_165 ?_
                        refine b_icmp_ge (tgt := 209) hx hb dX5_press_166 (by decide) ⟨⟨by omega, by omega⟩, ⟨by omega, by omega⟩⟩ (fun _ => ?_) (fun c => absurd c (by omega))
                        refine lv_iload hx hb dX5_press_209 (lv_at hl 1 rfl) ?_
                        refine b_bipush hx hb dX5_press_211 (by decide +kernel) ?_
                        refine b_icmp_le (tgt := 223) hx hb dX5_press_213 (by decide) ⟨⟨by omega, by omega⟩, ⟨by omega, by omega⟩⟩ (fun c_213 => ?_) (fun c_213 => ?_)
                        · skip
                          refine lv_aload_n hx hb dX5_press_223 rfl (lv_at hl 5 rfl) ?_
                          refine g_get (C := RX5) (T := TX5) (N := 23) hx hb hts inX5 hown hG hM.1 rfl 8 (by decide) (by decide +kernel) rfl (v := .ref (bm + 7)) rfl dX5_press_224 ?_
                          refine lv_iload hx hb dX5_press_227 (lv_at hl 3 rfl) ?_
                          refine lv_dup2_11 hx hb dX5_press_229 rfl rfl ?_
                          have b_230 : 0 ≤ X 8 (12 * n + k) ∧ X 8 (12 * n + k) ≤ 1000 := hV.1 8 _ (by decide) rfl
                          refine g_iald (n := 96) hx hb hG (f := fun i => z2 ((up X 22 0 (0)) 8 i)) (show ca D (bm + 7) (iA (ks 0) 96 (fun i => z2 ((up X 22 0 (0)) 8 i))) _ from hM.2.1 8 (sr_of (by decide))) (12 * n + k) ⟨by omega, by omega, by decide⟩ dX5_press_230 ?_
                          refine W.eq (g2 := F0 m 231 ls (.int (z2 (X 8 (12 * n + k))) :: [.int (z2 (((12 * ((n : Nat) : Int)) + (X 5 (3 * n + b))) - 1)), .ref (bm + 7)])) rfl ?_
                          refine lv_iload hx hb dX5_press_231 (lv_at hl 2 rfl) ?_
                          refine b_if_eq (tgt := 240) hx hb dX5_press_233 (by decide) ⟨by omega, by omega⟩ (fun _ => ?_) (fun c => absurd c (by omega))
                          refine b_iconst hx hb dX5_press_240 ?_
                          refine b_isub hx hb dX5_press_241 ?_
                          refine g_iast (n := 96) hx hb hG hS (f := fun i => z2 ((up X 22 0 (0)) 8 i)) (show ca D (bm + 7) (iA (ks 0) 96 (fun i => z2 ((up X 22 0 (0)) 8 i))) _ from hM.2.1 8 (sr_of (by decide))) (Or.inl ⟨by omega, by omega⟩) (12 * n + k) ⟨by omega, by omega, by decide⟩ dX5_press_242 (fun H locs he hz oq hS => ?_)
                          have hM : PM D ks bm (up (up X 22 0 (0)) 8 (12 * n + k) ((X 8 (12 * n + k)) - 1)) H := hM.row (f := 8) (sr_of (by decide)) he oq
                          refine lv_aload_n hx hb dX5_press_243 rfl (lv_at hl 5 rfl) ?_
                          refine lv_iload_n hx hb dX5_press_244 rfl (lv_at hl 4 rfl) ?_
                          refine g_run (vx_runV (As := [.int (z2 ((3 * ((n : Nat) : Int)) + ((b : Nat) : Int)))]) (rest := []) ⟨hx, hb, hml, hown, hts⟩ (m_begins l D ks bx bm hbm (up (up X 22 0 (0)) 8 (12 * n + k) ((X 8 (12 * n + k)) - 1)) _ hM (vs_up (vs_uf hV (by decide)) (by decide) (fun _ _ => by show 0 ≤ _ ∧ _ ≤ (1000 : Int); omega)) (i := 3 * n + b) ((3 * ((n : Nat) : Int)) + ((b : Nat) : Int)) ⟨by omega, by omega⟩ (by show 0 < X 5 (3 * n + b); omega)) (cwV 1 hts gX5_press_X5_begins rfl rfl rfl (by decide +kernel) ⟨Nat.le_of_ble_eq_true rfl, Nat.le_of_ble_eq_true rfl⟩) (g_preV (r := (RX5, TX5, 23)) hG hS (rm_ge hbm) hM.1 rfl) rfl rfl hl.1 rfl (lv_room (Nat.le_of_ble_eq_true rfl)) dX5_press_245 ⟨Nat.le_of_ble_eq_true rfl, Nat.le_of_ble_eq_true rfl⟩) hS (fun _ h => h) (fun _ _ _ _ _ h => h.elim) (fun v H1 locs hp hz9 hk9 hS => ?_)
                          obtain ⟨rfl, hM⟩ := hp
                          refine W.eq (g2 := F0 m 248 ls []) rfl ?_
                          refine b_iconst hx hb dX5_press_248 ?_
                          have e9 : pmS X (up X 22 0 0) n (3 * n + b) k = (beS (up (up X 22 0 (0)) 8 (12 * n + k) ((X 8 (12 * n + k)) - 1)) (3 * n + b)) := by
                            unfold pmS plM
                            (repeat' split) <;> first | rfl | omega
                          have e8 : (1 : Int) = pmV X n (3 * n + b) k := by
                            unfold pmV plM
                            (repeat' split) <;> omega
                          exact g_iret hx hb hr hlocks hS ⟨Nat.le_of_ble_eq_true rfl, Nat.le_of_ble_eq_true rfl⟩ (⟨1, (beS (up (up X 22 0 (0)) 8 (12 * n + k) ((X 8 (12 * n + k)) - 1)) (3 * n + b)), Or.inl (⟨n, b, k, by omega, e8, e9.symm⟩), rfl, hM⟩) dX5_press_249
                        · skip
                          refine lv_aload_n hx hb dX5_press_216 rfl (lv_at hl 5 rfl) ?_
                          refine lv_iload_n hx hb dX5_press_217 rfl (lv_at hl 6 rfl) ?_
                          refine g_run (vx_runV (As := [.int (z2 (((n : Nat) : Int)))]) (rest := []) ⟨hx, hb, hml, hown, hts⟩ (m_breaks l D ks bx bm hbm (up X 22 0 (0)) _ hM (vs_uf (hV) (by decide)) (n := n) (((n : Nat) : Int)) ⟨by omega, by omega⟩) (cwV 1 hts gX5_press_X5_breaks rfl rfl rfl (by decide +kernel) ⟨Nat.le_of_ble_eq_true rfl, Nat.le_of_ble_eq_true rfl⟩) (g_preV (r := (RX5, TX5, 23)) hG hS (rm_ge hbm) hM.1 rfl) rfl rfl hl.1 rfl (lv_room (Nat.le_of_ble_eq_true rfl)) dX5_press_218 ⟨Nat.le_of_ble_eq_true rfl, Nat.le_of_ble_eq_true rfl⟩) hS (fun _ h => h) (fun _ _ _ _ _ h => h.elim) (fun v H1 locs hp hz9 hk9 hS => ?_)
                          obtain ⟨rfl, hM⟩ := hp
                          have hV : VS (brM (up X 22 0 (0)) n) := vs_br (vs_uf (hV) (by decide)) n
                          refine W.eq (g2 := F0 m 221 ls []) rfl ?_
                          refine b_iconst hx hb dX5_press_221 ?_
                          have e9 : pmS X (up X 22 0 0) n (3 * n + b) k = (brM (up X 22 0 (0)) n) := by
                            unfold pmS plM
                            (repeat' split) <;> first | rfl | omega
                          have e8 : (3 : Int) = pmV X n (3 * n + b) k := by
                            unfold pmV plM
                            (repeat' split) <;> omega
                          exact g_iret hx hb hr hlocks hS ⟨Nat.le_of_ble_eq_true rfl, Nat.le_of_ble_eq_true rfl⟩ (⟨3, (brM (up X 22 0 (0)) n), Or.inl (⟨n, b, k, by omega, e8, e9.symm⟩), rfl, hM⟩) dX5_press_222
                · skip
                  refine b_iconst hx hb dX5_press_150 ?_
                  have e9 : pmS X (up X 22 0 0) n (3 * n + b) k = up X 22 0 (0) := by
                    unfold pmS plM
                    (repeat' split) <;> first | rfl | omega
                  have e8 : (0 : Int) = pmV X n (3 * n + b) k := by
                    unfold pmV plM
                    (repeat' split) <;> omega
                  exact g_iret hx hb hr hlocks hS ⟨Nat.le_of_ble_eq_true rfl, Nat.le_of_ble_eq_true rfl⟩ (⟨0, up X 22 0 (0), Or.inl (⟨n, b, k, by omega, e8, e9.symm⟩), rfl, hM⟩) dX5_press_151
              · skip
                refine b_iconst hx hb dX5_press_128 ?_
                refine lv_goto (tgt := 133) hx hb dX5_press_129 (by decide) ?_
                refine lv_istore (lv' := [(5, .int (z2 (1))), (4, .int (z2 (((12 * ((n : Nat) : Int)) + (X 5 (3 * n + b))) - 1))), (3, .int (z2 ((3 * ((n : Nat) : Int)) + ((b : Nat) : Int)))), (0, .ref bm), (1, .int (z2 (((n : Nat) : Int)))), (2, .int (z2 (((b : Nat) : Int))))]) hx hb dX5_press_133 hl (by decide) rfl (fun ls hl => ?_)
                refine lv_iload hx hb dX5_press_135 (lv_at hl 0 rfl) ?_
                refine b_if_ne (tgt := 152) hx hb dX5_press_137 (by decide) ⟨by omega, by omega⟩ (fun _ => ?_) (fun c => absurd c (by omega))
                refine lv_aload_n hx hb dX5_press_152 rfl (lv_at hl 3 rfl) ?_
                refine g_get (C := RX5) (T := TX5) (N := 23) hx hb hts inX5 hown hG hM.1 rfl 6 (by decide) (by decide +kernel) rfl (v := .ref (bm + 5)) rfl dX5_press_153 ?_
                refine lv_iload_n hx hb dX5_press_156 rfl (lv_at hl 2 rfl) ?_
                have b_157 : 1 ≤ X 6 (3 * n + b) ∧ X 6 (3 * n + b) ≤ 9 := hV.1 6 _ (by decide) rfl
                refine g_iald (n := 24) hx hb hG (f := fun i => z2 ((up X 22 0 (0)) 6 i)) (show ca D (bm + 5) (iA (ks 0) 24 (fun i => z2 ((up X 22 0 (0)) 6 i))) _ from hM.2.1 6 (sr_of (by decide))) (3 * n + b) ⟨by omega, by omega, by decide⟩ dX5_press_157 ?_
                refine W.eq (g2 := F0 m 158 ls (.int (z2 (X 6 (3 * n + b))) :: [])) rfl ?_
                refine lv_istore (lv' := [(6, .int (z2 (X 6 (3 * n + b)))), (5, .int (z2 (1))), (4, .int (z2 (((12 * ((n : Nat) : Int)) + (X 5 (3 * n + b))) - 1))), (3, .int (z2 ((3 * ((n : Nat) : Int)) + ((b : Nat) : Int)))), (0, .ref bm), (1, .int (z2 (((n : Nat) : Int)))), (2, .int (z2 (((b : Nat) : Int))))]) hx hb dX5_press_158 hl (by decide) rfl (fun ls hl => ?_)
                refine b_iconst hx hb dX5_press_160 ?_
                refine lv_istore (lv' := [(7, .int (z2 (0))), (6, .int (z2 (X 6 (3 * n + b)))), (5, .int (z2 (1))), (4, .int (z2 (((12 * ((n : Nat) : Int)) + (X 5 (3 * n + b))) - 1))), (3, .int (z2 ((3 * ((n : Nat) : Int)) + ((b : Nat) : Int)))), (0, .ref bm), (1, .int (z2 (((n : Nat) : Int)))), (2, .int (z2 (((b : Nat) : Int))))]) hx hb dX5_press_161 hl (by decide) rfl (fun ls hl => ?_)
                refine lv_iload hx hb dX5_press_163 (lv_at hl 0 rfl) ?_
                refine b_iconst hx hb dX5_press_165 ?_
                refine b_icmp_ge (tgt := 209) hx hb dX5_press_166 (by decide) ⟨⟨by omega, by omega⟩, ⟨by omega, by omega⟩⟩ (fun c => absurd c (by omega)) (fun _ => ?_)
                refine lv_iload hx hb dX5_press_169 (lv_at hl 1 rfl) ?_
                refine lv_aload_n hx hb dX5_press_171 rfl (lv_at hl 5 rfl) ?_
                refine g_get (C := RX5) (T := TX5) (N := 23) hx hb hts inX5 hown hG hM.1 rfl 7 (by decide) (by decide +kernel) rfl (v := .ref (bm + 6)) rfl dX5_press_172 ?_
                refine b_iconst hx hb dX5_press_175 ?_
                refine lv_iload_n hx hb dX5_press_176 rfl (lv_at hl 6 rfl) ?_
                refine b_imul hx hb dX5_press_177 ?_
                refine lv_iload hx hb dX5_press_178 (lv_at hl 0 rfl) ?_
                refine b_iadd hx hb dX5_press_180 ?_
                have b_181 : 0 ≤ X 7 (3 * n + 0) ∧ X 7 (3 * n + 0) ≤ 1000024 := hV.1 7 _ (by decide) rfl
                refine g_iald (n := 24) hx hb hG (f := fun i => z2 ((up X 22 0 (0)) 7 i)) (show ca D (bm + 6) (iA (ks 0) 24 (fun i => z2 ((up X 22 0 (0)) 7 i))) _ from hM.2.1 7 (sr_of (by decide))) (3 * n + 0) ⟨by omega, by omega, by decide⟩ dX5_press_181 ?_
                refine W.eq (g2 := F0 m 182 ls (.int (z2 (X 7 (3 * n + 0))) :: [.int (z2 (X 6 (3 * n + b)))])) rfl ?_
                refine b_if_le (tgt := 199) hx hb dX5_press_182 (by decide) ⟨by omega, by omega⟩ (fun c_182 => ?_) (fun c_182 => ?_)
                · skip
                  refine b_iconst hx hb dX5_press_199 ?_
                  refine b_iadd hx hb dX5_press_200 ?_
                  refine lv_istore (lv' := [(6, .int (z2 ((X 6 (3 * n + b)) + 0))), (7, .int (z2 (0))), (5, .int (z2 (1))), (4, .int (z2 (((12 * ((n : Nat) : Int)) + (X 5 (3 * n + b))) - 1))), (3, .int (z2 ((3 * ((n : Nat) : Int)) + ((b : Nat) : Int)))), (0, .ref bm), (1, .int (z2 (((n : Nat) : Int)))), (2, .int (z2 (((b : Nat) : Int))))]) hx hb dX5_press_201 hl (by decide) rfl (fun ls hl => ?_)
                  refine b_iinc (lv' := [(7, .int (z2 (1))), (6, .int (z2 ((X 6 (3 * n + b)) + 0))), (5, .int (z2 (1))), (4, .int (z2 (((12 * ((n : Nat) : Int)) + (X 5 (3 * n + b))) - 1))), (3, .int (z2 ((3 * ((n : Nat) : Int)) + ((b : Nat) : Int)))), (0, .ref bm), (1, .int (z2 (((n : Nat) : Int)))), (2, .int (z2 (((b : Nat) : Int))))]) hx hb dX5_press_203 hl (k := 1) rfl (by decide) rfl (fun ls hl => ?_)
                  refine lv_goto (tgt := 163) hx hb dX5_press_206 (by decide) ?_
                  refine lv_iload hx hb dX5_press_163 (lv_at hl 0 rfl) ?_
                  refine b_iconst hx hb dX5_press_165 ?_
                  refine b_icmp_ge (tgt := 209) hx hb dX5_press_166 (by decide) ⟨⟨by omega, by omega⟩, ⟨by omega, by omega⟩⟩ (fun c => absurd c (by omega)) (fun _ => ?_)
                  refine lv_iload hx hb dX5_press_169 (lv_at hl 1 rfl) ?_
                  refine lv_aload_n hx hb dX5_press_171 rfl (lv_at hl 5 rfl) ?_
                  refine g_get (C := RX5) (T := TX5) (N := 23) hx hb hts inX5 hown hG hM.1 rfl 7 (by decide) (by decide +kernel) rfl (v := .ref (bm + 6)) rfl dX5_press_172 ?_
                  refine b_iconst hx hb dX5_press_175 ?_
                  refine lv_iload_n hx hb dX5_press_176 rfl (lv_at hl 6 rfl) ?_
                  refine b_imul hx hb dX5_press_177 ?_
                  refine lv_iload hx hb dX5_press_178 (lv_at hl 0 rfl) ?_
                  refine b_iadd hx hb dX5_press_180 ?_
                  have b_181 : 0 ≤ X 7 (3 * n + 1) ∧ X 7 (3 * n + 1) ≤ 1000024 := hV.1 7 _ (by decide) rfl
                  refine g_iald (n := 24) hx hb hG (f := fun i => z2 ((up X 22 0 (0)) 7 i)) (show ca D (bm + 6) (iA (ks 0) 24 (fun i => z2 ((up X 22 0 (0)) 7 i))) _ from hM.2.1 7 (sr_of (by decide))) (3 * n + 1) ⟨by omega, by omega, by decide⟩ dX5_press_181 ?_
                  refine W.eq (g2 := F0 m 182 ls (.int (z2 (X 7 (3 * n + 1))) :: [.int (z2 ((X 6 (3 * n + b)) + 0))])) rfl ?_
                  refine b_if_le (tgt := 199) hx hb dX5_press_182 (by decide) ⟨by omega, by omega⟩ (fun c_182 => ?_) (fun c_182 => ?_)
                  · skip
                    refine b_iconst hx hb dX5_press_199 ?_
                    refine b_iadd hx hb dX5_press_200 ?_
                    refine lv_istore (lv' := [(6, .int (z2 (((X 6 (3 * n + b)) + 0) + 0))), (7, .int (z2 (1))), (5, .int (z2 (1))), (4, .int (z2 (((12 * ((n : Nat) : Int)) + (X 5 (3 * n + b))) - 1))), (3, .int (z2 ((3 * ((n : Nat) : Int)) + ((b : Nat) : Int)))), (0, .ref bm), (1, .int (z2 (((n : Nat) : Int)))), (2, .int (z2 (((b : Nat) : Int))))]) hx hb dX5_press_201 hl (by decide) rfl (fun ls hl => ?_)
                    refine b_iinc (lv' := [(7, .int (z2 (2))), (6, .int (z2 (((X 6 (3 * n + b)) + 0) + 0))), (5, .int (z2 (1))), (4, .int (z2 (((12 * ((n : Nat) : Int)) + (X 5 (3 * n + b))) - 1))), (3, .int (z2 ((3 * ((n : Nat) : Int)) + ((b : Nat) : Int)))), (0, .ref bm), (1, .int (z2 (((n : Nat) : Int)))), (2, .int (z2 (((b : Nat) : Int))))]) hx hb dX5_press_203 hl (k := 1) rfl (by decide) rfl (fun ls hl => ?_)
                    refine lv_goto (tgt := 163) hx hb dX5_press_206 (by decide) ?_
                    refine lv_iload hx hb dX5_press_163 (lv_at hl 0 rfl) ?_
                    refine b_iconst hx hb dX5_press_165 ?_
                    refine b_icmp_ge (tgt := 209) hx hb dX5_press_166 (by decide) ⟨⟨by omega, by omega⟩, ⟨by omega, by omega⟩⟩ (fun c => absurd c (by omega)) (fun _ => ?_)
                    refine lv_iload hx hb dX5_press_169 (lv_at hl 1 rfl) ?_
                    refine lv_aload_n hx hb dX5_press_171 rfl (lv_at hl 5 rfl) ?_
                    refine g_get (C := RX5) (T := TX5) (N := 23) hx hb hts inX5 hown hG hM.1 rfl 7 (by decide) (by decide +kernel) rfl (v := .ref (bm + 6)) rfl dX5_press_172 ?_
                    refine b_iconst hx hb dX5_press_175 ?_
                    refine lv_iload_n hx hb dX5_press_176 rfl (lv_at hl 6 rfl) ?_
                    refine b_imul hx hb dX5_press_177 ?_
                    refine lv_iload hx hb dX5_press_178 (lv_at hl 0 rfl) ?_
                    refine b_iadd hx hb dX5_press_180 ?_
                    have b_181 : 0 ≤ X 7 (3 * n + 2) ∧ X 7 (3 * n + 2) ≤ 1000024 := hV.1 7 _ (by decide) rfl
                    refine g_iald (n := 24) hx hb hG (f := fun i => z2 ((up X 22 0 (0)) 7 i)) (show ca D (bm + 6) (iA (ks 0) 24 (fun i => z2 ((up X 22 0 (0)) 7 i))) _ from hM.2.1 7 (sr_of (by decide))) (3 * n + 2) ⟨by omega, by omega, by decide⟩ dX5_press_181 ?_
                    refine W.eq (g2 := F0 m 182 ls (.int (z2 (X 7 (3 * n + 2))) :: [.int (z2 (((X 6 (3 * n + b)) + 0) + 0))])) rfl ?_
                    refine b_if_le (tgt := 199) hx hb dX5_press_182 (by decide) ⟨by omega, by omega⟩ (fun c_182 => ?_) (fun c_182 => ?_)
                    · skip
                      refine b_iconst hx hb dX5_press_199 ?_
                      refine b_iadd hx hb dX5_press_200 ?_
                      refine lv_istore (lv' := [(6, .int (z2 ((((X 6 (3 * n + b)) + 0) + 0) + 0))), (7, .int (z2 (2))), (5, .int (z2 (1))), (4, .int (z2 (((12 * ((n : Nat) : Int)) + (X 5 (3 * n + b))) - 1))), (3, .int (z2 ((3 * ((n : Nat) : Int)) + ((b : Nat) : Int)))), (0, .ref bm), (1, .int (z2 (((n : Nat) : Int)))), (2, .int (z2 (((b : Nat) : Int))))]) hx hb dX5_press_201 hl (by decide) rfl (fun ls hl => ?_)
                      refine b_iinc (lv' := [(7, .int (z2 (3))), (6, .int (z2 ((((X 6 (3 * n + b)) + 0) + 0) + 0))), (5, .int (z2 (1))), (4, .int (z2 (((12 * ((n : Nat) : Int)) + (X 5 (3 * n + b))) - 1))), (3, .int (z2 ((3 * ((n : Nat) : Int)) + ((b : Nat) : Int)))), (0, .ref bm), (1, .int (z2 (((n : Nat) : Int)))), (2, .int (z2 (((b : Nat) : Int))))]) hx hb dX5_press_203 hl (k := 1) rfl (by decide) rfl (fun ls hl => ?_)
                      refine lv_goto (tgt := 163) hx hb dX5_press_206 (by decide) ?_
                      refine lv_iload hx hb dX5_press_163 (lv_at hl 0 rfl) ?_
                      refine b_iconst hx hb dX5_press_165 ?_
                      refine b_icmp_ge (tgt := 209) hx hb dX5_press_166 (by decide) ⟨⟨by omega, by omega⟩, ⟨by omega, by omega⟩⟩ (fun _ => ?_) (fun c => absurd c (by omega))
                      refine lv_iload hx hb dX5_press_209 (lv_at hl 1 rfl) ?_
                      refine b_bipush hx hb dX5_press_211 (by decide +kernel) ?_
                      refine b_icmp_le (tgt := 223) hx hb dX5_press_213 (by decide) ⟨⟨by omega, by omega⟩, ⟨by omega, by omega⟩⟩ (fun c_213 => ?_) (fun c_213 => ?_)
                      · skip
                        refine lv_aload_n hx hb dX5_press_223 rfl (lv_at hl 5 rfl) ?_
                        refine g_get (C := RX5) (T := TX5) (N := 23) hx hb hts inX5 hown hG hM.1 rfl 8 (by decide) (by decide +kernel) rfl (v := .ref (bm + 7)) rfl dX5_press_224 ?_
                        refine lv_iload hx hb dX5_press_227 (lv_at hl 3 rfl) ?_
                        refine lv_dup2_11 hx hb dX5_press_229 rfl rfl ?_
                        have b_230 : 0 ≤ X 8 (12 * n + k) ∧ X 8 (12 * n + k) ≤ 1000 := hV.1 8 _ (by decide) rfl
                        refine g_iald (n := 96) hx hb hG (f := fun i => z2 ((up X 22 0 (0)) 8 i)) (show ca D (bm + 7) (iA (ks 0) 96 (fun i => z2 ((up X 22 0 (0)) 8 i))) _ from hM.2.1 8 (sr_of (by decide))) (12 * n + k) ⟨by omega, by omega, by decide⟩ dX5_press_230 ?_
                        refine W.eq (g2 := F0 m 231 ls (.int (z2 (X 8 (12 * n + k))) :: [.int (z2 (((12 * ((n : Nat) : Int)) + (X 5 (3 * n + b))) - 1)), .ref (bm + 7)])) rfl ?_
                        refine lv_iload hx hb dX5_press_231 (lv_at hl 2 rfl) ?_
                        refine b_if_eq (tgt := 240) hx hb dX5_press_233 (by decide) ⟨by omega, by omega⟩ (fun c => absurd c (by omega)) (fun _ => ?_)
                        refine b_iconst hx hb dX5_press_236 ?_
                        refine lv_goto (tgt := 241) hx hb dX5_press_237 (by decide) ?_
                        refine b_isub hx hb dX5_press_241 ?_
                        refine g_iast (n := 96) hx hb hG hS (f := fun i => z2 ((up X 22 0 (0)) 8 i)) (show ca D (bm + 7) (iA (ks 0) 96 (fun i => z2 ((up X 22 0 (0)) 8 i))) _ from hM.2.1 8 (sr_of (by decide))) (Or.inl ⟨by omega, by omega⟩) (12 * n + k) ⟨by omega, by omega, by decide⟩ dX5_press_242 (fun H locs he hz oq hS => ?_)
                        have hM : PM D ks bm (up (up X 22 0 (0)) 8 (12 * n + k) ((X 8 (12 * n + k)) - 0)) H := hM.row (f := 8) (sr_of (by decide)) he oq
                        refine lv_aload_n hx hb dX5_press_243 rfl (lv_at hl 5 rfl) ?_
                        refine lv_iload_n hx hb dX5_press_244 rfl (lv_at hl 4 rfl) ?_
                        refine g_run (vx_runV (As := [.int (z2 ((3 * ((n : Nat) : Int)) + ((b : Nat) : Int)))]) (rest := []) ⟨hx, hb, hml, hown, hts⟩ (m_begins l D ks bx bm hbm (up (up X 22 0 (0)) 8 (12 * n + k) ((X 8 (12 * n + k)) - 0)) _ hM (vs_up (vs_uf hV (by decide)) (by decide) (fun _ _ => by show 0 ≤ _ ∧ _ ≤ (1000 : Int); omega)) (i := 3 * n + b) ((3 * ((n : Nat) : Int)) + ((b : Nat) : Int)) ⟨by omega, by omega⟩ (by show 0 < X 5 (3 * n + b); omega)) (cwV 1 hts gX5_press_X5_begins rfl rfl rfl (by decide +kernel) ⟨Nat.le_of_ble_eq_true rfl, Nat.le_of_ble_eq_true rfl⟩) (g_preV (r := (RX5, TX5, 23)) hG hS (rm_ge hbm) hM.1 rfl) rfl rfl hl.1 rfl (lv_room (Nat.le_of_ble_eq_true rfl)) dX5_press_245 ⟨Nat.le_of_ble_eq_true rfl, Nat.le_of_ble_eq_true rfl⟩) hS (fun _ h => h) (fun _ _ _ _ _ h => h.elim) (fun v H1 locs hp hz9 hk9 hS => ?_)
                        obtain ⟨rfl, hM⟩ := hp
                        refine W.eq (g2 := F0 m 248 ls []) rfl ?_
                        refine b_iconst hx hb dX5_press_248 ?_
                        have e9 : pmS X (up X 22 0 0) n (3 * n + b) k = (beS (up (up X 22 0 (0)) 8 (12 * n + k) ((X 8 (12 * n + k)) - 0)) (3 * n + b)) := by
                          unfold pmS plM
                          (repeat' split) <;> first | rfl | omega
                        have e8 : (1 : Int) = pmV X n (3 * n + b) k := by
                          unfold pmV plM
                          (repeat' split) <;> omega
                        exact g_iret hx hb hr hlocks hS ⟨Nat.le_of_ble_eq_true rfl, Nat.le_of_ble_eq_true rfl⟩ (⟨1, (beS (up (up X 22 0 (0)) 8 (12 * n + k) ((X 8 (12 * n + k)) - 0)) (3 * n + b)), Or.inl (⟨n, b, k, by omega, e8, e9.symm⟩), rfl, hM⟩) dX5_press_249
                      · skip
                        refine lv_aload_n hx hb dX5_press_216 rfl (lv_at hl 5 rfl) ?_
                        refine lv_iload_n hx hb dX5_press_217 rfl (lv_at hl 6 rfl) ?_
                        refine g_run (vx_runV (As := [.int (z2 (((n : Nat) : Int)))]) (rest := []) ⟨hx, hb, hml, hown, hts⟩ (m_breaks l D ks bx bm hbm (up X 22 0 (0)) _ hM (vs_uf (hV) (by decide)) (n := n) (((n : Nat) : Int)) ⟨by omega, by omega⟩) (cwV 1 hts gX5_press_X5_breaks rfl rfl rfl (by decide +kernel) ⟨Nat.le_of_ble_eq_true rfl, Nat.le_of_ble_eq_true rfl⟩) (g_preV (r := (RX5, TX5, 23)) hG hS (rm_ge hbm) hM.1 rfl) rfl rfl hl.1 rfl (lv_room (Nat.le_of_ble_eq_true rfl)) dX5_press_218 ⟨Nat.le_of_ble_eq_true rfl, Nat.le_of_ble_eq_true rfl⟩) hS (fun _ h => h) (fun _ _ _ _ _ h => h.elim) (fun v H1 locs hp hz9 hk9 hS => ?_)
                        obtain ⟨rfl, hM⟩ := hp
                        have hV : VS (brM (up X 22 0 (0)) n) := vs_br (vs_uf (hV) (by decide)) n
                        refine W.eq (g2 := F0 m 221 ls []) rfl ?_
                        refine b_iconst hx hb dX5_press_221 ?_
                        have e9 : pmS X (up X 22 0 0) n (3 * n + b) k = (brM (up X 22 0 (0)) n) := by
                          unfold pmS plM
                          (repeat' split) <;> first | rfl | omega
                        have e8 : (3 : Int) = pmV X n (3 * n + b) k := by
                          unfold pmV plM
                          (repeat' split) <;> omega
                        exact g_iret hx hb hr hlocks hS ⟨Nat.le_of_ble_eq_true rfl, Nat.le_of_ble_eq_true rfl⟩ (⟨3, (brM (up X 22 0 (0)) n), Or.inl (⟨n, b, k, by omega, e8, e9.symm⟩), rfl, hM⟩) dX5_press_222
                    · skip
                      refine lv_aload_n hx hb dX5_press_185 rfl (lv_at hl 5 rfl) ?_
                      refine g_get (C := RX5) (T := TX5) (N := 23) hx hb hts inX5 hown hG hM.1 rfl 6 (by decide) (by decide +kernel) rfl (v := .ref (bm + 5)) rfl dX5_press_186 ?_
                      refine b_iconst hx hb dX5_press_189 ?_
                      refine lv_iload_n hx hb dX5_press_190 rfl (lv_at hl 6 rfl) ?_
                      refine b_imul hx hb dX5_press_191 ?_
                      refine lv_iload hx hb dX5_press_192 (lv_at hl 0 rfl) ?_
                      refine b_iadd hx hb dX5_press_194 ?_
                      have b_195 : 1 ≤ X 6 (3 * n + 2) ∧ X 6 (3 * n + 2) ≤ 9 := hV.1 6 _ (by decide) rfl
                      refine g_iald (n := 24) hx hb hG (f := fun i => z2 ((up X 22 0 (0)) 6 i)) (show ca D (bm + 5) (iA (ks 0) 24 (fun i => z2 ((up X 22 0 (0)) 6 i))) _ from hM.2.1 6 (sr_of (by decide))) (3 * n + 2) ⟨by omega, by omega, by decide⟩ dX5_press_195 ?_
                      refine W.eq (g2 := F0 m 196 ls (.int (z2 (X 6 (3 * n + 2))) :: [.int (z2 (((X 6 (3 * n + b)) + 0) + 0))])) rfl ?_
                      refine lv_goto (tgt := 200) hx hb dX5_press_196 (by decide) ?_
                      refine b_iadd hx hb dX5_press_200 ?_
                      refine lv_istore (lv' := [(6, .int (z2 ((((X 6 (3 * n + b)) + 0) + 0) + (X 6 (3 * n + 2))))), (7, .int (z2 (2))), (5, .int (z2 (1))), (4, .int (z2 (((12 * ((n : Nat) : Int)) + (X 5 (3 * n + b))) - 1))), (3, .int (z2 ((3 * ((n : Nat) : Int)) + ((b : Nat) : Int)))), (0, .ref bm), (1, .int (z2 (((n : Nat) : Int)))), (2, .int (z2 (((b : Nat) : Int))))]) hx hb dX5_press_201 hl (by decide) rfl (fun ls hl => ?_)
                      refine b_iinc (lv' := [(7, .int (z2 (3))), (6, .int (z2 ((((X 6 (3 * n + b)) + 0) + 0) + (X 6 (3 * n + 2))))), (5, .int (z2 (1))), (4, .int (z2 (((12 * ((n : Nat) : Int)) + (X 5 (3 * n + b))) - 1))), (3, .int (z2 ((3 * ((n : Nat) : Int)) + ((b : Nat) : Int)))), (0, .ref bm), (1, .int (z2 (((n : Nat) : Int)))), (2, .int (z2 (((b : Nat) : Int))))]) hx hb dX5_press_203 hl (k := 1) rfl (by decide) rfl (fun ls hl => ?_)
                      refine lv_goto (tgt := 163) hx hb dX5_press_206 (by decide) ?_
                      refine lv_iload hx hb dX5_press_163 (lv_at hl 0 rfl) ?_
                      refine b_iconst hx hb dX5_press_165 ?_
                      refine b_icmp_ge (tgt := 209) hx hb dX5_press_166 (by decide) ⟨⟨by omega, by omega⟩, ⟨by omega, by omega⟩⟩ (fun _ => ?_) (fun c => absurd c (by omega))
                      refine lv_iload hx hb dX5_press_209 (lv_at hl 1 rfl) ?_
                      refine b_bipush hx hb dX5_press_211 (by decide +kernel) ?_
                      refine b_icmp_le (tgt := 223) hx hb dX5_press_213 (by decide) ⟨⟨by omega, by omega⟩, ⟨by omega, by omega⟩⟩ (fun c_213 => ?_) (fun c_213 => ?_)
                      · skip
                        refine lv_aload_n hx hb dX5_press_223 rfl (lv_at hl 5 rfl) ?_
                        refine g_get (C := RX5) (T := TX5) (N := 23) hx hb hts inX5 hown hG hM.1 rfl 8 (by decide) (by decide +kernel) rfl (v := .ref (bm + 7)) rfl dX5_press_224 ?_
                        refine lv_iload hx hb dX5_press_227 (lv_at hl 3 rfl) ?_
                        refine lv_dup2_11 hx hb dX5_press_229 rfl rfl ?_
                        have b_230 : 0 ≤ X 8 (12 * n + k) ∧ X 8 (12 * n + k) ≤ 1000 := hV.1 8 _ (by decide) rfl
                        refine g_iald (n := 96) hx hb hG (f := fun i => z2 ((up X 22 0 (0)) 8 i)) (show ca D (bm + 7) (iA (ks 0) 96 (fun i => z2 ((up X 22 0 (0)) 8 i))) _ from hM.2.1 8 (sr_of (by decide))) (12 * n + k) ⟨by omega, by omega, by decide⟩ dX5_press_230 ?_
                        refine W.eq (g2 := F0 m 231 ls (.int (z2 (X 8 (12 * n + k))) :: [.int (z2 (((12 * ((n : Nat) : Int)) + (X 5 (3 * n + b))) - 1)), .ref (bm + 7)])) rfl ?_
                        refine lv_iload hx hb dX5_press_231 (lv_at hl 2 rfl) ?_
                        refine b_if_eq (tgt := 240) hx hb dX5_press_233 (by decide) ⟨by omega, by omega⟩ (fun c => absurd c (by omega)) (fun _ => ?_)
                        refine b_iconst hx hb dX5_press_236 ?_
                        refine lv_goto (tgt := 241) hx hb dX5_press_237 (by decide) ?_
                        refine b_isub hx hb dX5_press_241 ?_
                        refine g_iast (n := 96) hx hb hG hS (f := fun i => z2 ((up X 22 0 (0)) 8 i)) (show ca D (bm + 7) (iA (ks 0) 96 (fun i => z2 ((up X 22 0 (0)) 8 i))) _ from hM.2.1 8 (sr_of (by decide))) (Or.inl ⟨by omega, by omega⟩) (12 * n + k) ⟨by omega, by omega, by decide⟩ dX5_press_242 (fun H locs he hz oq hS => ?_)
                        have hM : PM D ks bm (up (up X 22 0 (0)) 8 (12 * n + k) ((X 8 (12 * n + k)) - 0)) H := hM.row (f := 8) (sr_of (by decide)) he oq
                        refine lv_aload_n hx hb dX5_press_243 rfl (lv_at hl 5 rfl) ?_
                        refine lv_iload_n hx hb dX5_press_244 rfl (lv_at hl 4 rfl) ?_
                        refine g_run (vx_runV (As := [.int (z2 ((3 * ((n : Nat) : Int)) + ((b : Nat) : Int)))]) (rest := []) ⟨hx, hb, hml, hown, hts⟩ (m_begins l D ks bx bm hbm (up (up X 22 0 (0)) 8 (12 * n + k) ((X 8 (12 * n + k)) - 0)) _ hM (vs_up (vs_uf hV (by decide)) (by decide) (fun _ _ => by show 0 ≤ _ ∧ _ ≤ (1000 : Int); omega)) (i := 3 * n + b) ((3 * ((n : Nat) : Int)) + ((b : Nat) : Int)) ⟨by omega, by omega⟩ (by show 0 < X 5 (3 * n + b); omega)) (cwV 1 hts gX5_press_X5_begins rfl rfl rfl (by decide +kernel) ⟨Nat.le_of_ble_eq_true rfl, Nat.le_of_ble_eq_true rfl⟩) (g_preV (r := (RX5, TX5, 23)) hG hS (rm_ge hbm) hM.1 rfl) rfl rfl hl.1 rfl (lv_room (Nat.le_of_ble_eq_true rfl)) dX5_press_245 ⟨Nat.le_of_ble_eq_true rfl, Nat.le_of_ble_eq_true rfl⟩) hS (fun _ h => h) (fun _ _ _ _ _ h => h.elim) (fun v H1 locs hp hz9 hk9 hS => ?_)
                        obtain ⟨rfl, hM⟩ := hp
                        refine W.eq (g2 := F0 m 248 ls []) rfl ?_
                        refine b_iconst hx hb dX5_press_248 ?_
                        have e9 : pmS X (up X 22 0 0) n (3 * n + b) k = (beS (up (up X 22 0 (0)) 8 (12 * n + k) ((X 8 (12 * n + k)) - 0)) (3 * n + b)) := by
                          unfold pmS plM
                          (repeat' split) <;> first | rfl | omega
                        have e8 : (1 : Int) = pmV X n (3 * n + b) k := by
                          unfold pmV plM
                          (repeat' split) <;> omega
                        exact g_iret hx hb hr hlocks hS ⟨Nat.le_of_ble_eq_true rfl, Nat.le_of_ble_eq_true rfl⟩ (⟨1, (beS (up (up X 22 0 (0)) 8 (12 * n + k) ((X 8 (12 * n + k)) - 0)) (3 * n + b)), Or.inl (⟨n, b, k, by omega, e8, e9.symm⟩), rfl, hM⟩) dX5_press_249
                      · skip
                        refine lv_aload_n hx hb dX5_press_216 rfl (lv_at hl 5 rfl) ?_
                        refine lv_iload_n hx hb dX5_press_217 rfl (lv_at hl 6 rfl) ?_
                        refine g_run (vx_runV (As := [.int (z2 (((n : Nat) : Int)))]) (rest := []) ⟨hx, hb, hml, hown, hts⟩ (m_breaks l D ks bx bm hbm (up X 22 0 (0)) _ hM (vs_uf (hV) (by decide)) (n := n) (((n : Nat) : Int)) ⟨by omega, by omega⟩) (cwV 1 hts gX5_press_X5_breaks rfl rfl rfl (by decide +kernel) ⟨Nat.le_of_ble_eq_true rfl, Nat.le_of_ble_eq_true rfl⟩) (g_preV (r := (RX5, TX5, 23)) hG hS (rm_ge hbm) hM.1 rfl) rfl rfl hl.1 rfl (lv_room (Nat.le_of_ble_eq_true rfl)) dX5_press_218 ⟨Nat.le_of_ble_eq_true rfl, Nat.le_of_ble_eq_true rfl⟩) hS (fun _ h => h) (fun _ _ _ _ _ h => h.elim) (fun v H1 locs hp hz9 hk9 hS => ?_)
                        obtain ⟨rfl, hM⟩ := hp
                        have hV : VS (brM (up X 22 0 (0)) n) := vs_br (vs_uf (hV) (by decide)) n
                        refine W.eq (g2 := F0 m 221 ls []) rfl ?_
                        refine b_iconst hx hb dX5_press_221 ?_
                        have e9 : pmS X (up X 22 0 0) n (3 * n + b) k = (brM (up X 22 0 (0)) n) := by
                          unfold pmS plM
                          (repeat' split) <;> first | rfl | omega
                        have e8 : (3 : Int) = pmV X n (3 * n + b) k := by
                          unfold pmV plM
                          (repeat' split) <;> omega
                        exact g_iret hx hb hr hlocks hS ⟨Nat.le_of_ble_eq_true rfl, Nat.le_of_ble_eq_true rfl⟩ (⟨3, (brM (up X 22 0 (0)) n), Or.inl (⟨n, b, k, by omega, e8, e9.symm⟩), rfl, hM⟩) dX5_press_222
                  · skip
                    refine lv_aload_n hx hb dX5_press_185 rfl (lv_at hl 5 rfl) ?_
                    refine g_get (C := RX5) (T := TX5) (N := 23) hx hb hts inX5 hown hG hM.1 rfl 6 (by decide) (by decide +kernel) rfl (v := .ref (bm + 5)) rfl dX5_press_186 ?_
                    refine b_iconst hx hb dX5_press_189 ?_
                    refine lv_iload_n hx hb dX5_press_190 rfl (lv_at hl 6 rfl) ?_
                    refine b_imul hx hb dX5_press_191 ?_
                    refine lv_iload hx hb dX5_press_192 (lv_at hl 0 rfl) ?_
                    refine b_iadd hx hb dX5_press_194 ?_
                    have b_195 : 1 ≤ X 6 (3 * n + 1) ∧ X 6 (3 * n + 1) ≤ 9 := hV.1 6 _ (by decide) rfl
                    refine g_iald (n := 24) hx hb hG (f := fun i => z2 ((up X 22 0 (0)) 6 i)) (show ca D (bm + 5) (iA (ks 0) 24 (fun i => z2 ((up X 22 0 (0)) 6 i))) _ from hM.2.1 6 (sr_of (by decide))) (3 * n + 1) ⟨by omega, by omega, by decide⟩ dX5_press_195 ?_
                    refine W.eq (g2 := F0 m 196 ls (.int (z2 (X 6 (3 * n + 1))) :: [.int (z2 ((X 6 (3 * n + b)) + 0))])) rfl ?_
                    refine lv_goto (tgt := 200) hx hb dX5_press_196 (by decide) ?_
                    refine b_iadd hx hb dX5_press_200 ?_
                    refine lv_istore (lv' := [(6, .int (z2 (((X 6 (3 * n + b)) + 0) + (X 6 (3 * n + 1))))), (7, .int (z2 (1))), (5, .int (z2 (1))), (4, .int (z2 (((12 * ((n : Nat) : Int)) + (X 5 (3 * n + b))) - 1))), (3, .int (z2 ((3 * ((n : Nat) : Int)) + ((b : Nat) : Int)))), (0, .ref bm), (1, .int (z2 (((n : Nat) : Int)))), (2, .int (z2 (((b : Nat) : Int))))]) hx hb dX5_press_201 hl (by decide) rfl (fun ls hl => ?_)
                    refine b_iinc (lv' := [(7, .int (z2 (2))), (6, .int (z2 (((X 6 (3 * n + b)) + 0) + (X 6 (3 * n + 1))))), (5, .int (z2 (1))), (4, .int (z2 (((12 * ((n : Nat) : Int)) + (X 5 (3 * n + b))) - 1))), (3, .int (z2 ((3 * ((n : Nat) : Int)) + ((b : Nat) : Int)))), (0, .ref bm), (1, .int (z2 (((n : Nat) : Int)))), (2, .int (z2 (((b : Nat) : Int))))]) hx hb dX5_press_203 hl (k := 1) rfl (by decide) rfl (fun ls hl => ?_)
                    refine lv_goto (tgt := 163) hx hb dX5_press_206 (by decide) ?_
                    refine lv_iload hx hb dX5_press_163 (lv_at hl 0 rfl) ?_
                    refine b_iconst hx hb dX5_press_165 ?_
                    refine b_icmp_ge (tgt := 209) hx hb dX5_press_166 (by decide) ⟨⟨by omega, by omega⟩, ⟨by omega, by omega⟩⟩ (fun c => absurd c (by omega)) (fun _ => ?_)
                    refine lv_iload hx hb dX5_press_169 (lv_at hl 1 rfl) ?_
                    refine lv_aload_n hx hb dX5_press_171 rfl (lv_at hl 5 rfl) ?_
                    refine g_get (C := RX5) (T := TX5) (N := 23) hx hb hts inX5 hown hG hM.1 rfl 7 (by decide) (by decide +kernel) rfl (v := .ref (bm + 6)) rfl dX5_press_172 ?_
                    refine b_iconst hx hb dX5_press_175 ?_
                    refine lv_iload_n hx hb dX5_press_176 rfl (lv_at hl 6 rfl) ?_
                    refine b_imul hx hb dX5_press_177 ?_
                    refine lv_iload hx hb dX5_press_178 (lv_at hl 0 rfl) ?_
                    refine b_iadd hx hb dX5_press_180 ?_
                    have b_181 : 0 ≤ X 7 (3 * n + 2) ∧ X 7 (3 * n + 2) ≤ 1000024 := hV.1 7 _ (by decide) rfl
                    refine g_iald (n := 24) hx hb hG (f := fun i => z2 ((up X 22 0 (0)) 7 i)) (show ca D (bm + 6) (iA (ks 0) 24 (fun i => z2 ((up X 22 0 (0)) 7 i))) _ from hM.2.1 7 (sr_of (by decide))) (3 * n + 2) ⟨by omega, by omega, by decide⟩ dX5_press_181 ?_
                    refine W.eq (g2 := F0 m 182 ls (.int (z2 (X 7 (3 * n + 2))) :: [.int (z2 (((X 6 (3 * n + b)) + 0) + (X 6 (3 * n + 1))))])) rfl ?_
                    refine b_if_le (tgt := 199) hx hb dX5_press_182 (by decide) ⟨by omega, by omega⟩ (fun c_182 => ?_) (fun c_182 => ?_)
                    · skip
                      refine b_iconst hx hb dX5_press_199 ?_
                      refine b_iadd hx hb dX5_press_200 ?_
                      refine lv_istore (lv' := [(6, .int (z2 ((((X 6 (3 * n + b)) + 0) + (X 6 (3 * n + 1))) + 0))), (7, .int (z2 (2))), (5, .int (z2 (1))), (4, .int (z2 (((12 * ((n : Nat) : Int)) + (X 5 (3 * n + b))) - 1))), (3, .int (z2 ((3 * ((n : Nat) : Int)) + ((b : Nat) : Int)))), (0, .ref bm), (1, .int (z2 (((n : Nat) : Int)))), (2, .int (z2 (((b : Nat) : Int))))]) hx hb dX5_press_201 hl (by decide) rfl (fun ls hl => ?_)
                      refine b_iinc (lv' := [(7, .int (z2 (3))), (6, .int (z2 ((((X 6 (3 * n + b)) + 0) + (X 6 (3 * n + 1))) + 0))), (5, .int (z2 (1))), (4, .int (z2 (((12 * ((n : Nat) : Int)) + (X 5 (3 * n + b))) - 1))), (3, .int (z2 ((3 * ((n : Nat) : Int)) + ((b : Nat) : Int)))), (0, .ref bm), (1, .int (z2 (((n : Nat) : Int)))), (2, .int (z2 (((b : Nat) : Int))))]) hx hb dX5_press_203 hl (k := 1) rfl (by decide) rfl (fun ls hl => ?_)
                      refine lv_goto (tgt := 163) hx hb dX5_press_206 (by decide) ?_
                      refine lv_iload hx hb dX5_press_163 (lv_at hl 0 rfl) ?_
                      refine b_iconst hx hb dX5_press_165 ?_
                      refine b_icmp_ge (tgt := 209) hx hb dX5_press_166 (by decide) ⟨⟨by omega, by omega⟩, ⟨by omega, by omega⟩⟩ (fun _ => ?_) (fun c => absurd c (by omega))
                      refine lv_iload hx hb dX5_press_209 (lv_at hl 1 rfl) ?_
                      refine b_bipush hx hb dX5_press_211 (by decide +kernel) ?_
                      refine b_icmp_le (tgt := 223) hx hb dX5_press_213 (by decide) ⟨⟨by omega, by omega⟩, ⟨by omega, by omega⟩⟩ (fun c_213 => ?_) (fun c_213 => ?_)
                      · skip
                        refine lv_aload_n hx hb dX5_press_223 rfl (lv_at hl 5 rfl) ?_
                        refine g_get (C := RX5) (T := TX5) (N := 23) hx hb hts inX5 hown hG hM.1 rfl 8 (by decide) (by decide +kernel) rfl (v := .ref (bm + 7)) rfl dX5_press_224 ?_
                        refine lv_iload hx hb dX5_press_227 (lv_at hl 3 rfl) ?_
                        refine lv_dup2_11 hx hb dX5_press_229 rfl rfl ?_
                        have b_230 : 0 ≤ X 8 (12 * n + k) ∧ X 8 (12 * n + k) ≤ 1000 := hV.1 8 _ (by decide) rfl
                        refine g_iald (n := 96) hx hb hG (f := fun i => z2 ((up X 22 0 (0)) 8 i)) (show ca D (bm + 7) (iA (ks 0) 96 (fun i => z2 ((up X 22 0 (0)) 8 i))) _ from hM.2.1 8 (sr_of (by decide))) (12 * n + k) ⟨by omega, by omega, by decide⟩ dX5_press_230 ?_
                        refine W.eq (g2 := F0 m 231 ls (.int (z2 (X 8 (12 * n + k))) :: [.int (z2 (((12 * ((n : Nat) : Int)) + (X 5 (3 * n + b))) - 1)), .ref (bm + 7)])) rfl ?_
                        refine lv_iload hx hb dX5_press_231 (lv_at hl 2 rfl) ?_
                        refine b_if_eq (tgt := 240) hx hb dX5_press_233 (by decide) ⟨by omega, by omega⟩ (fun c => absurd c (by omega)) (fun _ => ?_)
                        refine b_iconst hx hb dX5_press_236 ?_
                        refine lv_goto (tgt := 241) hx hb dX5_press_237 (by decide) ?_
                        refine b_isub hx hb dX5_press_241 ?_
                        refine g_iast (n := 96) hx hb hG hS (f := fun i => z2 ((up X 22 0 (0)) 8 i)) (show ca D (bm + 7) (iA (ks 0) 96 (fun i => z2 ((up X 22 0 (0)) 8 i))) _ from hM.2.1 8 (sr_of (by decide))) (Or.inl ⟨by omega, by omega⟩) (12 * n + k) ⟨by omega, by omega, by decide⟩ dX5_press_242 (fun H locs he hz oq hS => ?_)
                        have hM : PM D ks bm (up (up X 22 0 (0)) 8 (12 * n + k) ((X 8 (12 * n + k)) - 0)) H := hM.row (f := 8) (sr_of (by decide)) he oq
                        refine lv_aload_n hx hb dX5_press_243 rfl (lv_at hl 5 rfl) ?_
                        refine lv_iload_n hx hb dX5_press_244 rfl (lv_at hl 4 rfl) ?_
                        refine g_run (vx_runV (As := [.int (z2 ((3 * ((n : Nat) : Int)) + ((b : Nat) : Int)))]) (rest := []) ⟨hx, hb, hml, hown, hts⟩ (m_begins l D ks bx bm hbm (up (up X 22 0 (0)) 8 (12 * n + k) ((X 8 (12 * n + k)) - 0)) _ hM (vs_up (vs_uf hV (by decide)) (by decide) (fun _ _ => by show 0 ≤ _ ∧ _ ≤ (1000 : Int); omega)) (i := 3 * n + b) ((3 * ((n : Nat) : Int)) + ((b : Nat) : Int)) ⟨by omega, by omega⟩ (by show 0 < X 5 (3 * n + b); omega)) (cwV 1 hts gX5_press_X5_begins rfl rfl rfl (by decide +kernel) ⟨Nat.le_of_ble_eq_true rfl, Nat.le_of_ble_eq_true rfl⟩) (g_preV (r := (RX5, TX5, 23)) hG hS (rm_ge hbm) hM.1 rfl) rfl rfl hl.1 rfl (lv_room (Nat.le_of_ble_eq_true rfl)) dX5_press_245 ⟨Nat.le_of_ble_eq_true rfl, Nat.le_of_ble_eq_true rfl⟩) hS (fun _ h => h) (fun _ _ _ _ _ h => h.elim) (fun v H1 locs hp hz9 hk9 hS => ?_)
                        obtain ⟨rfl, hM⟩ := hp
                        refine W.eq (g2 := F0 m 248 ls []) rfl ?_
                        refine b_iconst hx hb dX5_press_248 ?_
                        have e9 : pmS X (up X 22 0 0) n (3 * n + b) k = (beS (up (up X 22 0 (0)) 8 (12 * n + k) ((X 8 (12 * n + k)) - 0)) (3 * n + b)) := by
                          unfold pmS plM
                          (repeat' split) <;> first | rfl | omega
                        have e8 : (1 : Int) = pmV X n (3 * n + b) k := by
                          unfold pmV plM
                          (repeat' split) <;> omega
                        exact g_iret hx hb hr hlocks hS ⟨Nat.le_of_ble_eq_true rfl, Nat.le_of_ble_eq_true rfl⟩ (⟨1, (beS (up (up X 22 0 (0)) 8 (12 * n + k) ((X 8 (12 * n + k)) - 0)) (3 * n + b)), Or.inl (⟨n, b, k, by omega, e8, e9.symm⟩), rfl, hM⟩) dX5_press_249
                      · skip
                        refine lv_aload_n hx hb dX5_press_216 rfl (lv_at hl 5 rfl) ?_
                        refine lv_iload_n hx hb dX5_press_217 rfl (lv_at hl 6 rfl) ?_
                        refine g_run (vx_runV (As := [.int (z2 (((n : Nat) : Int)))]) (rest := []) ⟨hx, hb, hml, hown, hts⟩ (m_breaks l D ks bx bm hbm (up X 22 0 (0)) _ hM (vs_uf (hV) (by decide)) (n := n) (((n : Nat) : Int)) ⟨by omega, by omega⟩) (cwV 1 hts gX5_press_X5_breaks rfl rfl rfl (by decide +kernel) ⟨Nat.le_of_ble_eq_true rfl, Nat.le_of_ble_eq_true rfl⟩) (g_preV (r := (RX5, TX5, 23)) hG hS (rm_ge hbm) hM.1 rfl) rfl rfl hl.1 rfl (lv_room (Nat.le_of_ble_eq_true rfl)) dX5_press_218 ⟨Nat.le_of_ble_eq_true rfl, Nat.le_of_ble_eq_true rfl⟩) hS (fun _ h => h) (fun _ _ _ _ _ h => h.elim) (fun v H1 locs hp hz9 hk9 hS => ?_)
                        obtain ⟨rfl, hM⟩ := hp
                        have hV : VS (brM (up X 22 0 (0)) n) := vs_br (vs_uf (hV) (by decide)) n
                        refine W.eq (g2 := F0 m 221 ls []) rfl ?_
                        refine b_iconst hx hb dX5_press_221 ?_
                        have e9 : pmS X (up X 22 0 0) n (3 * n + b) k = (brM (up X 22 0 (0)) n) := by
                          unfold pmS plM
                          (repeat' split) <;> first | rfl | omega
                        have e8 : (3 : Int) = pmV X n (3 * n + b) k := by
                          unfold pmV plM
                          (repeat' split) <;> omega
                        exact g_iret hx hb hr hlocks hS ⟨Nat.le_of_ble_eq_true rfl, Nat.le_of_ble_eq_true rfl⟩ (⟨3, (brM (up X 22 0 (0)) n), Or.inl (⟨n, b, k, by omega, e8, e9.symm⟩), rfl, hM⟩) dX5_press_222
                    · skip
                      refine lv_aload_n hx hb dX5_press_185 rfl (lv_at hl 5 rfl) ?_
                      refine g_get (C := RX5) (T := TX5) (N := 23) hx hb hts inX5 hown hG hM.1 rfl 6 (by decide) (by decide +kernel) rfl (v := .ref (bm + 5)) rfl dX5_press_186 ?_
                      refine b_iconst hx hb dX5_press_189 ?_
                      refine lv_iload_n hx hb dX5_press_190 rfl (lv_at hl 6 rfl) ?_
                      refine b_imul hx hb dX5_press_191 ?_
                      refine lv_iload hx hb dX5_press_192 (lv_at hl 0 rfl) ?_
                      refine b_iadd hx hb dX5_press_194 ?_
                      have b_195 : 1 ≤ X 6 (3 * n + 2) ∧ X 6 (3 * n + 2) ≤ 9 := hV.1 6 _ (by decide) rfl
                      refine g_iald (n := 24) hx hb hG (f := fun i => z2 ((up X 22 0 (0)) 6 i)) (show ca D (bm + 5) (iA (ks 0) 24 (fun i => z2 ((up X 22 0 (0)) 6 i))) _ from hM.2.1 6 (sr_of (by decide))) (3 * n + 2) ⟨by omega, by omega, by decide⟩ dX5_press_195 ?_
                      refine W.eq (g2 := F0 m 196 ls (.int (z2 (X 6 (3 * n + 2))) :: [.int (z2 (((X 6 (3 * n + b)) + 0) + (X 6 (3 * n + 1))))])) rfl ?_
                      refine lv_goto (tgt := 200) hx hb dX5_press_196 (by decide) ?_
                      refine b_iadd hx hb dX5_press_200 ?_
                      refine lv_istore (lv' := [(6, .int (z2 ((((X 6 (3 * n + b)) + 0) + (X 6 (3 * n + 1))) + (X 6 (3 * n + 2))))), (7, .int (z2 (2))), (5, .int (z2 (1))), (4, .int (z2 (((12 * ((n : Nat) : Int)) + (X 5 (3 * n + b))) - 1))), (3, .int (z2 ((3 * ((n : Nat) : Int)) + ((b : Nat) : Int)))), (0, .ref bm), (1, .int (z2 (((n : Nat) : Int)))), (2, .int (z2 (((b : Nat) : Int))))]) hx hb dX5_press_201 hl (by decide) rfl (fun ls hl => ?_)
                      refine b_iinc (lv' := [(7, .int (z2 (3))), (6, .int (z2 ((((X 6 (3 * n + b)) + 0) + (X 6 (3 * n + 1))) + (X 6 (3 * n + 2))))), (5, .int (z2 (1))), (4, .int (z2 (((12 * ((n : Nat) : Int)) + (X 5 (3 * n + b))) - 1))), (3, .int (z2 ((3 * ((n : Nat) : Int)) + ((b : Nat) : Int)))), (0, .ref bm), (1, .int (z2 (((n : Nat) : Int)))), (2, .int (z2 (((b : Nat) : Int))))]) hx hb dX5_press_203 hl (k := 1) rfl (by decide) rfl (fun ls hl => ?_)
                      refine lv_goto (tgt := 163) hx hb dX5_press_206 (by decide) ?_
                      refine lv_iload hx hb dX5_press_163 (lv_at hl 0 rfl) ?_
                      refine b_iconst hx hb dX5_press_165 ?_
                      refine b_icmp_ge (tgt := 209) hx hb dX5_press_166 (by decide) ⟨⟨by omega, by omega⟩, ⟨by omega, by omega⟩⟩ (fun _ => ?_) (fun c => absurd c (by omega))
                      refine lv_iload hx hb dX5_press_209 (lv_at hl 1 rfl) ?_
                      refine b_bipush hx hb dX5_press_211 (by decide +kernel) ?_
                      refine b_icmp_le (tgt := 223) hx hb dX5_press_213 (by decide) ⟨⟨by omega, by omega⟩, ⟨by omega, by omega⟩⟩ (fun c_213 => ?_) (fun c_213 => ?_)
                      · skip
                        refine lv_aload_n hx hb dX5_press_223 rfl (lv_at hl 5 rfl) ?_
                        refine g_get (C := RX5) (T := TX5) (N := 23) hx hb hts inX5 hown hG hM.1 rfl 8 (by decide) (by decide +kernel) rfl (v := .ref (bm + 7)) rfl dX5_press_224 ?_
                        refine lv_iload hx hb dX5_press_227 (lv_at hl 3 rfl) ?_
                        refine lv_dup2_11 hx hb dX5_press_229 rfl rfl ?_
                        have b_230 : 0 ≤ X 8 (12 * n + k) ∧ X 8 (12 * n + k) ≤ 1000 := hV.1 8 _ (by decide) rfl
                        refine g_iald (n := 96) hx hb hG (f := fun i => z2 ((up X 22 0 (0)) 8 i)) (show ca D (bm + 7) (iA (ks 0) 96 (fun i => z2 ((up X 22 0 (0)) 8 i))) _ from hM.2.1 8 (sr_of (by decide))) (12 * n + k) ⟨by omega, by omega, by decide⟩ dX5_press_230 ?_
                        refine W.eq (g2 := F0 m 231 ls (.int (z2 (X 8 (12 * n + k))) :: [.int (z2 (((12 * ((n : Nat) : Int)) + (X 5 (3 * n + b))) - 1)), .ref (bm + 7)])) rfl ?_
                        refine lv_iload hx hb dX5_press_231 (lv_at hl 2 rfl) ?_
                        refine b_if_eq (tgt := 240) hx hb dX5_press_233 (by decide) ⟨by omega, by omega⟩ (fun c => absurd c (by omega)) (fun _ => ?_)
                        refine b_iconst hx hb dX5_press_236 ?_
                        refine lv_goto (tgt := 241) hx hb dX5_press_237 (by decide) ?_
                        refine b_isub hx hb dX5_press_241 ?_
                        refine g_iast (n := 96) hx hb hG hS (f := fun i => z2 ((up X 22 0 (0)) 8 i)) (show ca D (bm + 7) (iA (ks 0) 96 (fun i => z2 ((up X 22 0 (0)) 8 i))) _ from hM.2.1 8 (sr_of (by decide))) (Or.inl ⟨by omega, by omega⟩) (12 * n + k) ⟨by omega, by omega, by decide⟩ dX5_press_242 (fun H locs he hz oq hS => ?_)
                        have hM : PM D ks bm (up (up X 22 0 (0)) 8 (12 * n + k) ((X 8 (12 * n + k)) - 0)) H := hM.row (f := 8) (sr_of (by decide)) he oq
                        refine lv_aload_n hx hb dX5_press_243 rfl (lv_at hl 5 rfl) ?_
                        refine lv_iload_n hx hb dX5_press_244 rfl (lv_at hl 4 rfl) ?_
                        refine g_run (vx_runV (As := [.int (z2 ((3 * ((n : Nat) : Int)) + ((b : Nat) : Int)))]) (rest := []) ⟨hx, hb, hml, hown, hts⟩ (m_begins l D ks bx bm hbm (up (up X 22 0 (0)) 8 (12 * n + k) ((X 8 (12 * n + k)) - 0)) _ hM (vs_up (vs_uf hV (by decide)) (by decide) (fun _ _ => by show 0 ≤ _ ∧ _ ≤ (1000 : Int); omega)) (i := 3 * n + b) ((3 * ((n : Nat) : Int)) + ((b : Nat) : Int)) ⟨by omega, by omega⟩ (by show 0 < X 5 (3 * n + b); omega)) (cwV 1 hts gX5_press_X5_begins rfl rfl rfl (by decide +kernel) ⟨Nat.le_of_ble_eq_true rfl, Nat.le_of_ble_eq_true rfl⟩) (g_preV (r := (RX5, TX5, 23)) hG hS (rm_ge hbm) hM.1 rfl) rfl rfl hl.1 rfl (lv_room (Nat.le_of_ble_eq_true rfl)) dX5_press_245 ⟨Nat.le_of_ble_eq_true rfl, Nat.le_of_ble_eq_true rfl⟩) hS (fun _ h => h) (fun _ _ _ _ _ h => h.elim) (fun v H1 locs hp hz9 hk9 hS => ?_)
                        obtain ⟨rfl, hM⟩ := hp
                        refine W.eq (g2 := F0 m 248 ls []) rfl ?_
                        refine b_iconst hx hb dX5_press_248 ?_
                        have e9 : pmS X (up X 22 0 0) n (3 * n + b) k = (beS (up (up X 22 0 (0)) 8 (12 * n + k) ((X 8 (12 * n + k)) - 0)) (3 * n + b)) := by
                          unfold pmS plM
                          (repeat' split) <;> first | rfl | omega
                        have e8 : (1 : Int) = pmV X n (3 * n + b) k := by
                          unfold pmV plM
                          (repeat' split) <;> omega
                        exact g_iret hx hb hr hlocks hS ⟨Nat.le_of_ble_eq_true rfl, Nat.le_of_ble_eq_true rfl⟩ (⟨1, (beS (up (up X 22 0 (0)) 8 (12 * n + k) ((X 8 (12 * n + k)) - 0)) (3 * n + b)), Or.inl (⟨n, b, k, by omega, e8, e9.symm⟩), rfl, hM⟩) dX5_press_249
                      · skip
                        refine lv_aload_n hx hb dX5_press_216 rfl (lv_at hl 5 rfl) ?_
                        refine lv_iload_n hx hb dX5_press_217 rfl (lv_at hl 6 rfl) ?_
                        refine g_run (vx_runV (As := [.int (z2 (((n : Nat) : Int)))]) (rest := []) ⟨hx, hb, hml, hown, hts⟩ (m_breaks l D ks bx bm hbm (up X 22 0 (0)) _ hM (vs_uf (hV) (by decide)) (n := n) (((n : Nat) : Int)) ⟨by omega, by omega⟩) (cwV 1 hts gX5_press_X5_breaks rfl rfl rfl (by decide +kernel) ⟨Nat.le_of_ble_eq_true rfl, Nat.le_of_ble_eq_true rfl⟩) (g_preV (r := (RX5, TX5, 23)) hG hS (rm_ge hbm) hM.1 rfl) rfl rfl hl.1 rfl (lv_room (Nat.le_of_ble_eq_true rfl)) dX5_press_218 ⟨Nat.le_of_ble_eq_true rfl, Nat.le_of_ble_eq_true rfl⟩) hS (fun _ h => h) (fun _ _ _ _ _ h => h.elim) (fun v H1 locs hp hz9 hk9 hS => ?_)
                        obtain ⟨rfl, hM⟩ := hp
                        have hV : VS (brM (up X 22 0 (0)) n) := vs_br (vs_uf (hV) (by decide)) n
                        refine W.eq (g2 := F0 m 221 ls []) rfl ?_
                        refine b_iconst hx hb dX5_press_221 ?_
                        have e9 : pmS X (up X 22 0 0) n (3 * n + b) k = (brM (up X 22 0 (0)) n) := by
                          unfold pmS plM
                          (repeat' split) <;> first | rfl | omega
                        have e8 : (3 : Int) = pmV X n (3 * n + b) k := by
                          unfold pmV plM
                          (repeat' split) <;> omega
                        exact g_iret hx hb hr hlocks hS ⟨Nat.le_of_ble_eq_true rfl, Nat.le_of_ble_eq_true rfl⟩ (⟨3, (brM (up X 22 0 (0)) n), Or.inl (⟨n, b, k, by omega, e8, e9.symm⟩), rfl, hM⟩) dX5_press_222
                · skip
                  refine lv_aload_n hx hb dX5_press_185 rfl (lv_at hl 5 rfl) ?_
                  refine g_get (C := RX5) (T := TX5) (N := 23) hx hb hts inX5 hown hG hM.1 rfl 6 (by decide) (by decide +kernel) rfl (v := .ref (bm + 5)) rfl dX5_press_186 ?_
                  refine b_iconst hx hb dX5_press_189 ?_
                  refine lv_iload_n hx hb dX5_press_190 rfl (lv_at hl 6 rfl) ?_
                  refine b_imul hx hb dX5_press_191 ?_
                  refine lv_iload hx hb dX5_press_192 (lv_at hl 0 rfl) ?_
                  refine b_iadd hx hb dX5_press_194 ?_
                  have b_195 : 1 ≤ X 6 (3 * n + 0) ∧ X 6 (3 * n + 0) ≤ 9 := hV.1 6 _ (by decide) rfl
                  refine g_iald (n := 24) hx hb hG (f := fun i => z2 ((up X 22 0 (0)) 6 i)) (show ca D (bm + 5) (iA (ks 0) 24 (fun i => z2 ((up X 22 0 (0)) 6 i))) _ from hM.2.1 6 (sr_of (by decide))) (3 * n + 0) ⟨by omega, by omega, by decide⟩ dX5_press_195 ?_
                  refine W.eq (g2 := F0 m 196 ls (.int (z2 (X 6 (3 * n + 0))) :: [.int (z2 (X 6 (3 * n + b)))])) rfl ?_
                  refine lv_goto (tgt := 200) hx hb dX5_press_196 (by decide) ?_
                  refine b_iadd hx hb dX5_press_200 ?_
                  refine lv_istore (lv' := [(6, .int (z2 ((X 6 (3 * n + b)) + (X 6 (3 * n + 0))))), (7, .int (z2 (0))), (5, .int (z2 (1))), (4, .int (z2 (((12 * ((n : Nat) : Int)) + (X 5 (3 * n + b))) - 1))), (3, .int (z2 ((3 * ((n : Nat) : Int)) + ((b : Nat) : Int)))), (0, .ref bm), (1, .int (z2 (((n : Nat) : Int)))), (2, .int (z2 (((b : Nat) : Int))))]) hx hb dX5_press_201 hl (by decide) rfl (fun ls hl => ?_)
                  refine b_iinc (lv' := [(7, .int (z2 (1))), (6, .int (z2 ((X 6 (3 * n + b)) + (X 6 (3 * n + 0))))), (5, .int (z2 (1))), (4, .int (z2 (((12 * ((n : Nat) : Int)) + (X 5 (3 * n + b))) - 1))), (3, .int (z2 ((3 * ((n : Nat) : Int)) + ((b : Nat) : Int)))), (0, .ref bm), (1, .int (z2 (((n : Nat) : Int)))), (2, .int (z2 (((b : Nat) : Int))))]) hx hb dX5_press_203 hl (k := 1) rfl (by decide) rfl (fun ls hl => ?_)
                  refine lv_goto (tgt := 163) hx hb dX5_press_206 (by decide) ?_
                  refine lv_iload hx hb dX5_press_163 (lv_at hl 0 rfl) ?_
                  refine b_iconst hx hb dX5_press_165 ?_
                  refine b_icmp_ge (tgt := 209) hx hb dX5_press_166 (by decide) ⟨⟨by omega, by omega⟩, ⟨by omega, by omega⟩⟩ (fun c => absurd c (by omega)) (fun _ => ?_)
                  refine lv_iload hx hb dX5_press_169 (lv_at hl 1 rfl) ?_
                  refine lv_aload_n hx hb dX5_press_171 rfl (lv_at hl 5 rfl) ?_
                  refine g_get (C := RX5) (T := TX5) (N := 23) hx hb hts inX5 hown hG hM.1 rfl 7 (by decide) (by decide +kernel) rfl (v := .ref (bm + 6)) rfl dX5_press_172 ?_
                  refine b_iconst hx hb dX5_press_175 ?_
                  refine lv_iload_n hx hb dX5_press_176 rfl (lv_at hl 6 rfl) ?_
                  refine b_imul hx hb dX5_press_177 ?_
                  refine lv_iload hx hb dX5_press_178 (lv_at hl 0 rfl) ?_
                  refine b_iadd hx hb dX5_press_180 ?_
                  have b_181 : 0 ≤ X 7 (3 * n + 1) ∧ X 7 (3 * n + 1) ≤ 1000024 := hV.1 7 _ (by decide) rfl
                  refine g_iald (n := 24) hx hb hG (f := fun i => z2 ((up X 22 0 (0)) 7 i)) (show ca D (bm + 6) (iA (ks 0) 24 (fun i => z2 ((up X 22 0 (0)) 7 i))) _ from hM.2.1 7 (sr_of (by decide))) (3 * n + 1) ⟨by omega, by omega, by decide⟩ dX5_press_181 ?_
                  refine W.eq (g2 := F0 m 182 ls (.int (z2 (X 7 (3 * n + 1))) :: [.int (z2 ((X 6 (3 * n + b)) + (X 6 (3 * n + 0))))])) rfl ?_
                  refine b_if_le (tgt := 199) hx hb dX5_press_182 (by decide) ⟨by omega, by omega⟩ (fun c_182 => ?_) (fun c_182 => ?_)
                  · skip
                    refine b_iconst hx hb dX5_press_199 ?_
                    refine b_iadd hx hb dX5_press_200 ?_
                    refine lv_istore (lv' := [(6, .int (z2 (((X 6 (3 * n + b)) + (X 6 (3 * n + 0))) + 0))), (7, .int (z2 (1))), (5, .int (z2 (1))), (4, .int (z2 (((12 * ((n : Nat) : Int)) + (X 5 (3 * n + b))) - 1))), (3, .int (z2 ((3 * ((n : Nat) : Int)) + ((b : Nat) : Int)))), (0, .ref bm), (1, .int (z2 (((n : Nat) : Int)))), (2, .int (z2 (((b : Nat) : Int))))]) hx hb dX5_press_201 hl (by decide) rfl (fun ls hl => ?_)
                    refine b_iinc (lv' := [(7, .int (z2 (2))), (6, .int (z2 (((X 6 (3 * n + b)) + (X 6 (3 * n + 0))) + 0))), (5, .int (z2 (1))), (4, .int (z2 (((12 * ((n : Nat) : Int)) + (X 5 (3 * n + b))) - 1))), (3, .int (z2 ((3 * ((n : Nat) : Int)) + ((b : Nat) : Int)))), (0, .ref bm), (1, .int (z2 (((n : Nat) : Int)))), (2, .int (z2 (((b : Nat) : Int))))]) hx hb dX5_press_203 hl (k := 1) rfl (by decide) rfl (fun ls hl => ?_)
                    refine lv_goto (tgt := 163) hx hb dX5_press_206 (by decide) ?_
                    refine lv_iload hx hb dX5_press_163 (lv_at hl 0 rfl) ?_
                    refine b_iconst hx hb dX5_press_165 ?_
                    refine b_icmp_ge (tgt := 209) hx hb dX5_press_166 (by decide) ⟨⟨by omega, by omega⟩, ⟨by omega, by omega⟩⟩ (fun c => absurd c (by omega)) (fun _ => ?_)
                    refine lv_iload hx hb dX5_press_169 (lv_at hl 1 rfl) ?_
                    refine lv_aload_n hx hb dX5_press_171 rfl (lv_at hl 5 rfl) ?_
                    refine g_get (C := RX5) (T := TX5) (N := 23) hx hb hts inX5 hown hG hM.1 rfl 7 (by decide) (by decide +kernel) rfl (v := .ref (bm + 6)) rfl dX5_press_172 ?_
                    refine b_iconst hx hb dX5_press_175 ?_
                    refine lv_iload_n hx hb dX5_press_176 rfl (lv_at hl 6 rfl) ?_
                    refine b_imul hx hb dX5_press_177 ?_
                    refine lv_iload hx hb dX5_press_178 (lv_at hl 0 rfl) ?_
                    refine b_iadd hx hb dX5_press_180 ?_
                    have b_181 : 0 ≤ X 7 (3 * n + 2) ∧ X 7 (3 * n + 2) ≤ 1000024 := hV.1 7 _ (by decide) rfl
                    refine g_iald (n := 24) hx hb hG (f := fun i => z2 ((up X 22 0 (0)) 7 i)) (show ca D (bm + 6) (iA (ks 0) 24 (fun i => z2 ((up X 22 0 (0)) 7 i))) _ from hM.2.1 7 (sr_of (by decide))) (3 * n + 2) ⟨by omega, by omega, by decide⟩ dX5_press_181 ?_
                    refine W.eq (g2 := F0 m 182 ls (.int (z2 (X 7 (3 * n + 2))) :: [.int (z2 (((X 6 (3 * n + b)) + (X 6 (3 * n + 0))) + 0))])) rfl ?_
                    refine b_if_le (tgt := 199) hx hb dX5_press_182 (by decide) ⟨by omega, by omega⟩ (fun c_182 => ?_) (fun c_182 => ?_)
                    · skip
                      refine b_iconst hx hb dX5_press_199 ?_
                      refine b_iadd hx hb dX5_press_200 ?_
                      refine lv_istore (lv' := [(6, .int (z2 ((((X 6 (3 * n + b)) + (X 6 (3 * n + 0))) + 0) + 0))), (7, .int (z2 (2))), (5, .int (z2 (1))), (4, .int (z2 (((12 * ((n : Nat) : Int)) + (X 5 (3 * n + b))) - 1))), (3, .int (z2 ((3 * ((n : Nat) : Int)) + ((b : Nat) : Int)))), (0, .ref bm), (1, .int (z2 (((n : Nat) : Int)))), (2, .int (z2 (((b : Nat) : Int))))]) hx hb dX5_press_201 hl (by decide) rfl (fun ls hl => ?_)
                      refine b_iinc (lv' := [(7, .int (z2 (3))), (6, .int (z2 ((((X 6 (3 * n + b)) + (X 6 (3 * n + 0))) + 0) + 0))), (5, .int (z2 (1))), (4, .int (z2 (((12 * ((n : Nat) : Int)) + (X 5 (3 * n + b))) - 1))), (3, .int (z2 ((3 * ((n : Nat) : Int)) + ((b : Nat) : Int)))), (0, .ref bm), (1, .int (z2 (((n : Nat) : Int)))), (2, .int (z2 (((b : Nat) : Int))))]) hx hb dX5_press_203 hl (k := 1) rfl (by decide) rfl (fun ls hl => ?_)
                      refine lv_goto (tgt := 163) hx hb dX5_press_206 (by decide) ?_
                      refine lv_iload hx hb dX5_press_163 (lv_at hl 0 rfl) ?_
                      refine b_iconst hx hb dX5_press_165 ?_
                      refine b_icmp_ge (tgt := 209) hx hb dX5_press_166 (by decide) ⟨⟨by omega, by omega⟩, ⟨by omega, by omega⟩⟩ (fun _ => ?_) (fun c => absurd c (by omega))
                      refine lv_iload hx hb dX5_press_209 (lv_at hl 1 rfl) ?_
                      refine b_bipush hx hb dX5_press_211 (by decide +kernel) ?_
                      refine b_icmp_le (tgt := 223) hx hb dX5_press_213 (by decide) ⟨⟨by omega, by omega⟩, ⟨by omega, by omega⟩⟩ (fun c_213 => ?_) (fun c_213 => ?_)
                      · skip
                        refine lv_aload_n hx hb dX5_press_223 rfl (lv_at hl 5 rfl) ?_
                        refine g_get (C := RX5) (T := TX5) (N := 23) hx hb hts inX5 hown hG hM.1 rfl 8 (by decide) (by decide +kernel) rfl (v := .ref (bm + 7)) rfl dX5_press_224 ?_
                        refine lv_iload hx hb dX5_press_227 (lv_at hl 3 rfl) ?_
                        refine lv_dup2_11 hx hb dX5_press_229 rfl rfl ?_
                        have b_230 : 0 ≤ X 8 (12 * n + k) ∧ X 8 (12 * n + k) ≤ 1000 := hV.1 8 _ (by decide) rfl
                        refine g_iald (n := 96) hx hb hG (f := fun i => z2 ((up X 22 0 (0)) 8 i)) (show ca D (bm + 7) (iA (ks 0) 96 (fun i => z2 ((up X 22 0 (0)) 8 i))) _ from hM.2.1 8 (sr_of (by decide))) (12 * n + k) ⟨by omega, by omega, by decide⟩ dX5_press_230 ?_
                        refine W.eq (g2 := F0 m 231 ls (.int (z2 (X 8 (12 * n + k))) :: [.int (z2 (((12 * ((n : Nat) : Int)) + (X 5 (3 * n + b))) - 1)), .ref (bm + 7)])) rfl ?_
                        refine lv_iload hx hb dX5_press_231 (lv_at hl 2 rfl) ?_
                        refine b_if_eq (tgt := 240) hx hb dX5_press_233 (by decide) ⟨by omega, by omega⟩ (fun c => absurd c (by omega)) (fun _ => ?_)
                        refine b_iconst hx hb dX5_press_236 ?_
                        refine lv_goto (tgt := 241) hx hb dX5_press_237 (by decide) ?_
                        refine b_isub hx hb dX5_press_241 ?_
                        refine g_iast (n := 96) hx hb hG hS (f := fun i => z2 ((up X 22 0 (0)) 8 i)) (show ca D (bm + 7) (iA (ks 0) 96 (fun i => z2 ((up X 22 0 (0)) 8 i))) _ from hM.2.1 8 (sr_of (by decide))) (Or.inl ⟨by omega, by omega⟩) (12 * n + k) ⟨by omega, by omega, by decide⟩ dX5_press_242 (fun H locs he hz oq hS => ?_)
                        have hM : PM D ks bm (up (up X 22 0 (0)) 8 (12 * n + k) ((X 8 (12 * n + k)) - 0)) H := hM.row (f := 8) (sr_of (by decide)) he oq
                        refine lv_aload_n hx hb dX5_press_243 rfl (lv_at hl 5 rfl) ?_
                        refine lv_iload_n hx hb dX5_press_244 rfl (lv_at hl 4 rfl) ?_
                        refine g_run (vx_runV (As := [.int (z2 ((3 * ((n : Nat) : Int)) + ((b : Nat) : Int)))]) (rest := []) ⟨hx, hb, hml, hown, hts⟩ (m_begins l D ks bx bm hbm (up (up X 22 0 (0)) 8 (12 * n + k) ((X 8 (12 * n + k)) - 0)) _ hM (vs_up (vs_uf hV (by decide)) (by decide) (fun _ _ => by show 0 ≤ _ ∧ _ ≤ (1000 : Int); omega)) (i := 3 * n + b) ((3 * ((n : Nat) : Int)) + ((b : Nat) : Int)) ⟨by omega, by omega⟩ (by show 0 < X 5 (3 * n + b); omega)) (cwV 1 hts gX5_press_X5_begins rfl rfl rfl (by decide +kernel) ⟨Nat.le_of_ble_eq_true rfl, Nat.le_of_ble_eq_true rfl⟩) (g_preV (r := (RX5, TX5, 23)) hG hS (rm_ge hbm) hM.1 rfl) rfl rfl hl.1 rfl (lv_room (Nat.le_of_ble_eq_true rfl)) dX5_press_245 ⟨Nat.le_of_ble_eq_true rfl, Nat.le_of_ble_eq_true rfl⟩) hS (fun _ h => h) (fun _ _ _ _ _ h => h.elim) (fun v H1 locs hp hz9 hk9 hS => ?_)
                        obtain ⟨rfl, hM⟩ := hp
                        refine W.eq (g2 := F0 m 248 ls []) rfl ?_
                        refine b_iconst hx hb dX5_press_248 ?_
                        have e9 : pmS X (up X 22 0 0) n (3 * n + b) k = (beS (up (up X 22 0 (0)) 8 (12 * n + k) ((X 8 (12 * n + k)) - 0)) (3 * n + b)) := by
                          unfold pmS plM
                          (repeat' split) <;> first | rfl | omega
                        have e8 : (1 : Int) = pmV X n (3 * n + b) k := by
                          unfold pmV plM
                          (repeat' split) <;> omega
                        exact g_iret hx hb hr hlocks hS ⟨Nat.le_of_ble_eq_true rfl, Nat.le_of_ble_eq_true rfl⟩ (⟨1, (beS (up (up X 22 0 (0)) 8 (12 * n + k) ((X 8 (12 * n + k)) - 0)) (3 * n + b)), Or.inl (⟨n, b, k, by omega, e8, e9.symm⟩), rfl, hM⟩) dX5_press_249
                      · skip
                        refine lv_aload_n hx hb dX5_press_216 rfl (lv_at hl 5 rfl) ?_
                        refine lv_iload_n hx hb dX5_press_217 rfl (lv_at hl 6 rfl) ?_
                        refine g_run (vx_runV (As := [.int (z2 (((n : Nat) : Int)))]) (rest := []) ⟨hx, hb, hml, hown, hts⟩ (m_breaks l D ks bx bm hbm (up X 22 0 (0)) _ hM (vs_uf (hV) (by decide)) (n := n) (((n : Nat) : Int)) ⟨by omega, by omega⟩) (cwV 1 hts gX5_press_X5_breaks rfl rfl rfl (by decide +kernel) ⟨Nat.le_of_ble_eq_true rfl, Nat.le_of_ble_eq_true rfl⟩) (g_preV (r := (RX5, TX5, 23)) hG hS (rm_ge hbm) hM.1 rfl) rfl rfl hl.1 rfl (lv_room (Nat.le_of_ble_eq_true rfl)) dX5_press_218 ⟨Nat.le_of_ble_eq_true rfl, Nat.le_of_ble_eq_true rfl⟩) hS (fun _ h => h) (fun _ _ _ _ _ h => h.elim) (fun v H1 locs hp hz9 hk9 hS => ?_)
                        obtain ⟨rfl, hM⟩ := hp
                        have hV : VS (brM (up X 22 0 (0)) n) := vs_br (vs_uf (hV) (by decide)) n
                        refine W.eq (g2 := F0 m 221 ls []) rfl ?_
                        refine b_iconst hx hb dX5_press_221 ?_
                        have e9 : pmS X (up X 22 0 0) n (3 * n + b) k = (brM (up X 22 0 (0)) n) := by
                          unfold pmS plM
                          (repeat' split) <;> first | rfl | omega
                        have e8 : (3 : Int) = pmV X n (3 * n + b) k := by
                          unfold pmV plM
                          (repeat' split) <;> omega
                        exact g_iret hx hb hr hlocks hS ⟨Nat.le_of_ble_eq_true rfl, Nat.le_of_ble_eq_true rfl⟩ (⟨3, (brM (up X 22 0 (0)) n), Or.inl (⟨n, b, k, by omega, e8, e9.symm⟩), rfl, hM⟩) dX5_press_222
                    · skip
                      refine lv_aload_n hx hb dX5_press_185 rfl (lv_at hl 5 rfl) ?_
                      refine g_get (C := RX5) (T := TX5) (N := 23) hx hb hts inX5 hown hG hM.1 rfl 6 (by decide) (by decide +kernel) rfl (v := .ref (bm + 5)) rfl dX5_press_186 ?_
                      refine b_iconst hx hb dX5_press_189 ?_
                      refine lv_iload_n hx hb dX5_press_190 rfl (lv_at hl 6 rfl) ?_
                      refine b_imul hx hb dX5_press_191 ?_
                      refine lv_iload hx hb dX5_press_192 (lv_at hl 0 rfl) ?_
                      refine b_iadd hx hb dX5_press_194 ?_
                      have b_195 : 1 ≤ X 6 (3 * n + 2) ∧ X 6 (3 * n + 2) ≤ 9 := hV.1 6 _ (by decide) rfl
                      refine g_iald (n := 24) hx hb hG (f := fun i => z2 ((up X 22 0 (0)) 6 i)) (show ca D (bm + 5) (iA (ks 0) 24 (fun i => z2 ((up X 22 0 (0)) 6 i))) _ from hM.2.1 6 (sr_of (by decide))) (3 * n + 2) ⟨by omega, by omega, by decide⟩ dX5_press_195 ?_
                      refine W.eq (g2 := F0 m 196 ls (.int (z2 (X 6 (3 * n + 2))) :: [.int (z2 (((X 6 (3 * n + b)) + (X 6 (3 * n + 0))) + 0))])) rfl ?_
                      refine lv_goto (tgt := 200) hx hb dX5_press_196 (by decide) ?_
                      refine b_iadd hx hb dX5_press_200 ?_
                      refine lv_istore (lv' := [(6, .int (z2 ((((X 6 (3 * n + b)) + (X 6 (3 * n + 0))) + 0) + (X 6 (3 * n + 2))))), (7, .int (z2 (2))), (5, .int (z2 (1))), (4, .int (z2 (((12 * ((n : Nat) : Int)) + (X 5 (3 * n + b))) - 1))), (3, .int (z2 ((3 * ((n : Nat) : Int)) + ((b : Nat) : Int)))), (0, .ref bm), (1, .int (z2 (((n : Nat) : Int)))), (2, .int (z2 (((b : Nat) : Int))))]) hx hb dX5_press_201 hl (by decide) rfl (fun ls hl => ?_)
                      refine b_iinc (lv' := [(7, .int (z2 (3))), (6, .int (z2 ((((X 6 (3 * n + b)) + (X 6 (3 * n + 0))) + 0) + (X 6 (3 * n + 2))))), (5, .int (z2 (1))), (4, .int (z2 (((12 * ((n : Nat) : Int)) + (X 5 (3 * n + b))) - 1))), (3, .int (z2 ((3 * ((n : Nat) : Int)) + ((b : Nat) : Int)))), (0, .ref bm), (1, .int (z2 (((n : Nat) : Int)))), (2, .int (z2 (((b : Nat) : Int))))]) hx hb dX5_press_203 hl (k := 1) rfl (by decide) rfl (fun ls hl => ?_)
                      refine lv_goto (tgt := 163) hx hb dX5_press_206 (by decide) ?_
                      refine lv_iload hx hb dX5_press_163 (lv_at hl 0 rfl) ?_
                      refine b_iconst hx hb dX5_press_165 ?_
                      refine b_icmp_ge (tgt := 209) hx hb dX5_press_166 (by decide) ⟨⟨by omega, by omega⟩, ⟨by omega, by omega⟩⟩ (fun _ => ?_) (fun c => absurd c (by omega))
                      refine lv_iload hx hb dX5_press_209 (lv_at hl 1 rfl) ?_
                      refine b_bipush hx hb dX5_press_211 (by decide +kernel) ?_
                      refine b_icmp_le (tgt := 223) hx hb dX5_press_213 (by decide) ⟨⟨by omega, by omega⟩, ⟨by omega, by omega⟩⟩ (fun c_213 => ?_) (fun c_213 => ?_)
                      · skip
                        refine lv_aload_n hx hb dX5_press_223 rfl (lv_at hl 5 rfl) ?_
                        refine g_get (C := RX5) (T := TX5) (N := 23) hx hb hts inX5 hown hG hM.1 rfl 8 (by decide) (by decide +kernel) rfl (v := .ref (bm + 7)) rfl dX5_press_224 ?_
                        refine lv_iload hx hb dX5_press_227 (lv_at hl 3 rfl) ?_
                        refine lv_dup2_11 hx hb dX5_press_229 rfl rfl ?_
                        have b_230 : 0 ≤ X 8 (12 * n + k) ∧ X 8 (12 * n + k) ≤ 1000 := hV.1 8 _ (by decide) rfl
                        refine g_iald (n := 96) hx hb hG (f := fun i => z2 ((up X 22 0 (0)) 8 i)) (show ca D (bm + 7) (iA (ks 0) 96 (fun i => z2 ((up X 22 0 (0)) 8 i))) _ from hM.2.1 8 (sr_of (by decide))) (12 * n + k) ⟨by omega, by omega, by decide⟩ dX5_press_230 ?_
                        refine W.eq (g2 := F0 m 231 ls (.int (z2 (X 8 (12 * n + k))) :: [.int (z2 (((12 * ((n : Nat) : Int)) + (X 5 (3 * n + b))) - 1)), .ref (bm + 7)])) rfl ?_
                        refine lv_iload hx hb dX5_press_231 (lv_at hl 2 rfl) ?_
                        refine b_if_eq (tgt := 240) hx hb dX5_press_233 (by decide) ⟨by omega, by omega⟩ (fun c => absurd c (by omega)) (fun _ => ?_)
                        refine b_iconst hx hb dX5_press_236 ?_
                        refine lv_goto (tgt := 241) hx hb dX5_press_237 (by decide) ?_
                        refine b_isub hx hb dX5_press_241 ?_
                        refine g_iast (n := 96) hx hb hG hS (f := fun i => z2 ((up X 22 0 (0)) 8 i)) (show ca D (bm + 7) (iA (ks 0) 96 (fun i => z2 ((up X 22 0 (0)) 8 i))) _ from hM.2.1 8 (sr_of (by decide))) (Or.inl ⟨by omega, by omega⟩) (12 * n + k) ⟨by omega, by omega, by decide⟩ dX5_press_242 (fun H locs he hz oq hS => ?_)
                        have hM : PM D ks bm (up (up X 22 0 (0)) 8 (12 * n + k) ((X 8 (12 * n + k)) - 0)) H := hM.row (f := 8) (sr_of (by decide)) he oq
                        refine lv_aload_n hx hb dX5_press_243 rfl (lv_at hl 5 rfl) ?_
                        refine lv_iload_n hx hb dX5_press_244 rfl (lv_at hl 4 rfl) ?_
                        refine g_run (vx_runV (As := [.int (z2 ((3 * ((n : Nat) : Int)) + ((b : Nat) : Int)))]) (rest := []) ⟨hx, hb, hml, hown, hts⟩ (m_begins l D ks bx bm hbm (up (up X 22 0 (0)) 8 (12 * n + k) ((X 8 (12 * n + k)) - 0)) _ hM (vs_up (vs_uf hV (by decide)) (by decide) (fun _ _ => by show 0 ≤ _ ∧ _ ≤ (1000 : Int); omega)) (i := 3 * n + b) ((3 * ((n : Nat) : Int)) + ((b : Nat) : Int)) ⟨by omega, by omega⟩ (by show 0 < X 5 (3 * n + b); omega)) (cwV 1 hts gX5_press_X5_begins rfl rfl rfl (by decide +kernel) ⟨Nat.le_of_ble_eq_true rfl, Nat.le_of_ble_eq_true rfl⟩) (g_preV (r := (RX5, TX5, 23)) hG hS (rm_ge hbm) hM.1 rfl) rfl rfl hl.1 rfl (lv_room (Nat.le_of_ble_eq_true rfl)) dX5_press_245 ⟨Nat.le_of_ble_eq_true rfl, Nat.le_of_ble_eq_true rfl⟩) hS (fun _ h => h) (fun _ _ _ _ _ h => h.elim) (fun v H1 locs hp hz9 hk9 hS => ?_)
                        obtain ⟨rfl, hM⟩ := hp
                        refine W.eq (g2 := F0 m 248 ls []) rfl ?_
                        refine b_iconst hx hb dX5_press_248 ?_
                        have e9 : pmS X (up X 22 0 0) n (3 * n + b) k = (beS (up (up X 22 0 (0)) 8 (12 * n + k) ((X 8 (12 * n + k)) - 0)) (3 * n + b)) := by
                          unfold pmS plM
                          (repeat' split) <;> first | rfl | omega
                        have e8 : (1 : Int) = pmV X n (3 * n + b) k := by
                          unfold pmV plM
                          (repeat' split) <;> omega
                        exact g_iret hx hb hr hlocks hS ⟨Nat.le_of_ble_eq_true rfl, Nat.le_of_ble_eq_true rfl⟩ (⟨1, (beS (up (up X 22 0 (0)) 8 (12 * n + k) ((X 8 (12 * n + k)) - 0)) (3 * n + b)), Or.inl (⟨n, b, k, by omega, e8, e9.symm⟩), rfl, hM⟩) dX5_press_249
                      · skip
                        refine lv_aload_n hx hb dX5_press_216 rfl (lv_at hl 5 rfl) ?_
                        refine lv_iload_n hx hb dX5_press_217 rfl (lv_at hl 6 rfl) ?_
                        refine g_run (vx_runV (As := [.int (z2 (((n : Nat) : Int)))]) (rest := []) ⟨hx, hb, hml, hown, hts⟩ (m_breaks l D ks bx bm hbm (up X 22 0 (0)) _ hM (vs_uf (hV) (by decide)) (n := n) (((n : Nat) : Int)) ⟨by omega, by omega⟩) (cwV 1 hts gX5_press_X5_breaks rfl rfl rfl (by decide +kernel) ⟨Nat.le_of_ble_eq_true rfl, Nat.le_of_ble_eq_true rfl⟩) (g_preV (r := (RX5, TX5, 23)) hG hS (rm_ge hbm) hM.1 rfl) rfl rfl hl.1 rfl (lv_room (Nat.le_of_ble_eq_true rfl)) dX5_press_218 ⟨Nat.le_of_ble_eq_true rfl, Nat.le_of_ble_eq_true rfl⟩) hS (fun _ h => h) (fun _ _ _ _ _ h => h.elim) (fun v H1 locs hp hz9 hk9 hS => ?_)
                        obtain ⟨rfl, hM⟩ := hp
                        have hV : VS (brM (up X 22 0 (0)) n) := vs_br (vs_uf (hV) (by decide)) n
                        refine W.eq (g2 := F0 m 221 ls []) rfl ?_
                        refine b_iconst hx hb dX5_press_221 ?_
                        have e9 : pmS X (up X 22 0 0) n (3 * n + b) k = (brM (up X 22 0 (0)) n) := by
                          unfold pmS plM
                          (repeat' split) <;> first | rfl | omega
                        have e8 : (3 : Int) = pmV X n (3 * n + b) k := by
                          unfold pmV plM
                          (repeat' split) <;> omega
                        exact g_iret hx hb hr hlocks hS ⟨Nat.le_of_ble_eq_true rfl, Nat.le_of_ble_eq_true rfl⟩ (⟨3, (brM (up X 22 0 (0)) n), Or.inl (⟨n, b, k, by omega, e8, e9.symm⟩), rfl, hM⟩) dX5_press_222
                  · skip
                    refine lv_aload_n hx hb dX5_press_185 rfl (lv_at hl 5 rfl) ?_
                    refine g_get (C := RX5) (T := TX5) (N := 23) hx hb hts inX5 hown hG hM.1 rfl 6 (by decide) (by decide +kernel) rfl (v := .ref (bm + 5)) rfl dX5_press_186 ?_
                    refine b_iconst hx hb dX5_press_189 ?_
                    refine lv_iload_n hx hb dX5_press_190 rfl (lv_at hl 6 rfl) ?_
                    refine b_imul hx hb dX5_press_191 ?_
                    refine lv_iload hx hb dX5_press_192 (lv_at hl 0 rfl) ?_
                    refine b_iadd hx hb dX5_press_194 ?_
                    have b_195 : 1 ≤ X 6 (3 * n + 1) ∧ X 6 (3 * n + 1) ≤ 9 := hV.1 6 _ (by decide) rfl
                    refine g_iald (n := 24) hx hb hG (f := fun i => z2 ((up X 22 0 (0)) 6 i)) (show ca D (bm + 5) (iA (ks 0) 24 (fun i => z2 ((up X 22 0 (0)) 6 i))) _ from hM.2.1 6 (sr_of (by decide))) (3 * n + 1) ⟨by omega, by omega, by decide⟩ dX5_press_195 ?_
                    refine W.eq (g2 := F0 m 196 ls (.int (z2 (X 6 (3 * n + 1))) :: [.int (z2 ((X 6 (3 * n + b)) + (X 6 (3 * n + 0))))])) rfl ?_
                    refine lv_goto (tgt := 200) hx hb dX5_press_196 (by decide) ?_
                    refine b_iadd hx hb dX5_press_200 ?_
                    refine lv_istore (lv' := [(6, .int (z2 (((X 6 (3 * n + b)) + (X 6 (3 * n + 0))) + (X 6 (3 * n + 1))))), (7, .int (z2 (1))), (5, .int (z2 (1))), (4, .int (z2 (((12 * ((n : Nat) : Int)) + (X 5 (3 * n + b))) - 1))), (3, .int (z2 ((3 * ((n : Nat) : Int)) + ((b : Nat) : Int)))), (0, .ref bm), (1, .int (z2 (((n : Nat) : Int)))), (2, .int (z2 (((b : Nat) : Int))))]) hx hb dX5_press_201 hl (by decide) rfl (fun ls hl => ?_)
                    refine b_iinc (lv' := [(7, .int (z2 (2))), (6, .int (z2 (((X 6 (3 * n + b)) + (X 6 (3 * n + 0))) + (X 6 (3 * n + 1))))), (5, .int (z2 (1))), (4, .int (z2 (((12 * ((n : Nat) : Int)) + (X 5 (3 * n + b))) - 1))), (3, .int (z2 ((3 * ((n : Nat) : Int)) + ((b : Nat) : Int)))), (0, .ref bm), (1, .int (z2 (((n : Nat) : Int)))), (2, .int (z2 (((b : Nat) : Int))))]) hx hb dX5_press_203 hl (k := 1) rfl (by decide) rfl (fun ls hl => ?_)
                    refine lv_goto (tgt := 163) hx hb dX5_press_206 (by decide) ?_
                    refine lv_iload hx hb dX5_press_163 (lv_at hl 0 rfl) ?_
                    refine b_iconst hx hb dX5_press_165 ?_
                    refine b_icmp_ge (tgt := 209) hx hb dX5_press_166 (by decide) ⟨⟨by omega, by omega⟩, ⟨by omega, by omega⟩⟩ (fun c => absurd c (by omega)) (fun _ => ?_)
                    refine lv_iload hx hb dX5_press_169 (lv_at hl 1 rfl) ?_
                    refine lv_aload_n hx hb dX5_press_171 rfl (lv_at hl 5 rfl) ?_
                    refine g_get (C := RX5) (T := TX5) (N := 23) hx hb hts inX5 hown hG hM.1 rfl 7 (by decide) (by decide +kernel) rfl (v := .ref (bm + 6)) rfl dX5_press_172 ?_
                    refine b_iconst hx hb dX5_press_175 ?_
                    refine lv_iload_n hx hb dX5_press_176 rfl (lv_at hl 6 rfl) ?_
                    refine b_imul hx hb dX5_press_177 ?_
                    refine lv_iload hx hb dX5_press_178 (lv_at hl 0 rfl) ?_
                    refine b_iadd hx hb dX5_press_180 ?_
                    have b_181 : 0 ≤ X 7 (3 * n + 2) ∧ X 7 (3 * n + 2) ≤ 1000024 := hV.1 7 _ (by decide) rfl
                    refine g_iald (n := 24) hx hb hG (f := fun i => z2 ((up X 22 0 (0)) 7 i)) (show ca D (bm + 6) (iA (ks 0) 24 (fun i => z2 ((up X 22 0 (0)) 7 i))) _ from hM.2.1 7 (sr_of (by decide))) (3 * n + 2) ⟨by omega, by omega, by decide⟩ dX5_press_181 ?_
                    refine W.eq (g2 := F0 m 182 ls (.int (z2 (X 7 (3 * n + 2))) :: [.int (z2 (((X 6 (3 * n + b)) + (X 6 (3 * n + 0))) + (X 6 (3 * n + 1))))])) rfl ?_
                    refine b_if_le (tgt := 199) hx hb dX5_press_182 (by decide) ⟨by omega, by omega⟩ (fun c_182 => ?_) (fun c_182 => ?_)
                    · skip
                      refine b_iconst hx hb dX5_press_199 ?_
                      refine b_iadd hx hb dX5_press_200 ?_
                      refine lv_istore (lv' := [(6, .int (z2 ((((X 6 (3 * n + b)) + (X 6 (3 * n + 0))) + (X 6 (3 * n + 1))) + 0))), (7, .int (z2 (2))), (5, .int (z2 (1))), (4, .int (z2 (((12 * ((n : Nat) : Int)) + (X 5 (3 * n + b))) - 1))), (3, .int (z2 ((3 * ((n : Nat) : Int)) + ((b : Nat) : Int)))), (0, .ref bm), (1, .int (z2 (((n : Nat) : Int)))), (2, .int (z2 (((b : Nat) : Int))))]) hx hb dX5_press_201 hl (by decide) rfl (fun ls hl => ?_)
                      refine b_iinc (lv' := [(7, .int (z2 (3))), (6, .int (z2 ((((X 6 (3 * n + b)) + (X 6 (3 * n + 0))) + (X 6 (3 * n + 1))) + 0))), (5, .int (z2 (1))), (4, .int (z2 (((12 * ((n : Nat) : Int)) + (X 5 (3 * n + b))) - 1))), (3, .int (z2 ((3 * ((n : Nat) : Int)) + ((b : Nat) : Int)))), (0, .ref bm), (1, .int (z2 (((n : Nat) : Int)))), (2, .int (z2 (((b : Nat) : Int))))]) hx hb dX5_press_203 hl (k := 1) rfl (by decide) rfl (fun ls hl => ?_)
                      refine lv_goto (tgt := 163) hx hb dX5_press_206 (by decide) ?_
                      refine lv_iload hx hb dX5_press_163 (lv_at hl 0 rfl) ?_
                      refine b_iconst hx hb dX5_press_165 ?_
                      refine b_icmp_ge (tgt := 209) hx hb dX5_press_166 (by decide) ⟨⟨by omega, by omega⟩, ⟨by omega, by omega⟩⟩ (fun _ => ?_) (fun c => absurd c (by omega))
                      refine lv_iload hx hb dX5_press_209 (lv_at hl 1 rfl) ?_
                      refine b_bipush hx hb dX5_press_211 (by decide +kernel) ?_
                      refine b_icmp_le (tgt := 223) hx hb dX5_press_213 (by decide) ⟨⟨by omega, by omega⟩, ⟨by omega, by omega⟩⟩ (fun c_213 => ?_) (fun c_213 => ?_)
                      · skip
                        refine lv_aload_n hx hb dX5_press_223 rfl (lv_at hl 5 rfl) ?_
                        refine g_get (C := RX5) (T := TX5) (N := 23) hx hb hts inX5 hown hG hM.1 rfl 8 (by decide) (by decide +kernel) rfl (v := .ref (bm + 7)) rfl dX5_press_224 ?_
                        refine lv_iload hx hb dX5_press_227 (lv_at hl 3 rfl) ?_
                        refine lv_dup2_11 hx hb dX5_press_229 rfl rfl ?_
                        have b_230 : 0 ≤ X 8 (12 * n + k) ∧ X 8 (12 * n + k) ≤ 1000 := hV.1 8 _ (by decide) rfl
                        refine g_iald (n := 96) hx hb hG (f := fun i => z2 ((up X 22 0 (0)) 8 i)) (show ca D (bm + 7) (iA (ks 0) 96 (fun i => z2 ((up X 22 0 (0)) 8 i))) _ from hM.2.1 8 (sr_of (by decide))) (12 * n + k) ⟨by omega, by omega, by decide⟩ dX5_press_230 ?_
                        refine W.eq (g2 := F0 m 231 ls (.int (z2 (X 8 (12 * n + k))) :: [.int (z2 (((12 * ((n : Nat) : Int)) + (X 5 (3 * n + b))) - 1)), .ref (bm + 7)])) rfl ?_
                        refine lv_iload hx hb dX5_press_231 (lv_at hl 2 rfl) ?_
                        refine b_if_eq (tgt := 240) hx hb dX5_press_233 (by decide) ⟨by omega, by omega⟩ (fun c => absurd c (by omega)) (fun _ => ?_)
                        refine b_iconst hx hb dX5_press_236 ?_
                        refine lv_goto (tgt := 241) hx hb dX5_press_237 (by decide) ?_
                        refine b_isub hx hb dX5_press_241 ?_
                        refine g_iast (n := 96) hx hb hG hS (f := fun i => z2 ((up X 22 0 (0)) 8 i)) (show ca D (bm + 7) (iA (ks 0) 96 (fun i => z2 ((up X 22 0 (0)) 8 i))) _ from hM.2.1 8 (sr_of (by decide))) (Or.inl ⟨by omega, by omega⟩) (12 * n + k) ⟨by omega, by omega, by decide⟩ dX5_press_242 (fun H locs he hz oq hS => ?_)
                        have hM : PM D ks bm (up (up X 22 0 (0)) 8 (12 * n + k) ((X 8 (12 * n + k)) - 0)) H := hM.row (f := 8) (sr_of (by decide)) he oq
                        refine lv_aload_n hx hb dX5_press_243 rfl (lv_at hl 5 rfl) ?_
                        refine lv_iload_n hx hb dX5_press_244 rfl (lv_at hl 4 rfl) ?_
                        refine g_run (vx_runV (As := [.int (z2 ((3 * ((n : Nat) : Int)) + ((b : Nat) : Int)))]) (rest := []) ⟨hx, hb, hml, hown, hts⟩ (m_begins l D ks bx bm hbm (up (up X 22 0 (0)) 8 (12 * n + k) ((X 8 (12 * n + k)) - 0)) _ hM (vs_up (vs_uf hV (by decide)) (by decide) (fun _ _ => by show 0 ≤ _ ∧ _ ≤ (1000 : Int); omega)) (i := 3 * n + b) ((3 * ((n : Nat) : Int)) + ((b : Nat) : Int)) ⟨by omega, by omega⟩ (by show 0 < X 5 (3 * n + b); omega)) (cwV 1 hts gX5_press_X5_begins rfl rfl rfl (by decide +kernel) ⟨Nat.le_of_ble_eq_true rfl, Nat.le_of_ble_eq_true rfl⟩) (g_preV (r := (RX5, TX5, 23)) hG hS (rm_ge hbm) hM.1 rfl) rfl rfl hl.1 rfl (lv_room (Nat.le_of_ble_eq_true rfl)) dX5_press_245 ⟨Nat.le_of_ble_eq_true rfl, Nat.le_of_ble_eq_true rfl⟩) hS (fun _ h => h) (fun _ _ _ _ _ h => h.elim) (fun v H1 locs hp hz9 hk9 hS => ?_)
                        obtain ⟨rfl, hM⟩ := hp
                        refine W.eq (g2 := F0 m 248 ls []) rfl ?_
                        refine b_iconst hx hb dX5_press_248 ?_
                        have e9 : pmS X (up X 22 0 0) n (3 * n + b) k = (beS (up (up X 22 0 (0)) 8 (12 * n + k) ((X 8 (12 * n + k)) - 0)) (3 * n + b)) := by
                          unfold pmS plM
                          (repeat' split) <;> first | rfl | omega
                        have e8 : (1 : Int) = pmV X n (3 * n + b) k := by
                          unfold pmV plM
                          (repeat' split) <;> omega
                        exact g_iret hx hb hr hlocks hS ⟨Nat.le_of_ble_eq_true rfl, Nat.le_of_ble_eq_true rfl⟩ (⟨1, (beS (up (up X 22 0 (0)) 8 (12 * n + k) ((X 8 (12 * n + k)) - 0)) (3 * n + b)), Or.inl (⟨n, b, k, by omega, e8, e9.symm⟩), rfl, hM⟩) dX5_press_249
                      · skip
                        refine lv_aload_n hx hb dX5_press_216 rfl (lv_at hl 5 rfl) ?_
                        refine lv_iload_n hx hb dX5_press_217 rfl (lv_at hl 6 rfl) ?_
                        refine g_run (vx_runV (As := [.int (z2 (((n : Nat) : Int)))]) (rest := []) ⟨hx, hb, hml, hown, hts⟩ (m_breaks l D ks bx bm hbm (up X 22 0 (0)) _ hM (vs_uf (hV) (by decide)) (n := n) (((n : Nat) : Int)) ⟨by omega, by omega⟩) (cwV 1 hts gX5_press_X5_breaks rfl rfl rfl (by decide +kernel) ⟨Nat.le_of_ble_eq_true rfl, Nat.le_of_ble_eq_true rfl⟩) (g_preV (r := (RX5, TX5, 23)) hG hS (rm_ge hbm) hM.1 rfl) rfl rfl hl.1 rfl (lv_room (Nat.le_of_ble_eq_true rfl)) dX5_press_218 ⟨Nat.le_of_ble_eq_true rfl, Nat.le_of_ble_eq_true rfl⟩) hS (fun _ h => h) (fun _ _ _ _ _ h => h.elim) (fun v H1 locs hp hz9 hk9 hS => ?_)
                        obtain ⟨rfl, hM⟩ := hp
                        have hV : VS (brM (up X 22 0 (0)) n) := vs_br (vs_uf (hV) (by decide)) n
                        refine W.eq (g2 := F0 m 221 ls []) rfl ?_
                        refine b_iconst hx hb dX5_press_221 ?_
                        have e9 : pmS X (up X 22 0 0) n (3 * n + b) k = (brM (up X 22 0 (0)) n) := by
                          unfold pmS plM
                          (repeat' split) <;> first | rfl | omega
                        have e8 : (3 : Int) = pmV X n (3 * n + b) k := by
                          unfold pmV plM
                          (repeat' split) <;> omega
                        exact g_iret hx hb hr hlocks hS ⟨Nat.le_of_ble_eq_true rfl, Nat.le_of_ble_eq_true rfl⟩ (⟨3, (brM (up X 22 0 (0)) n), Or.inl (⟨n, b, k, by omega, e8, e9.symm⟩), rfl, hM⟩) dX5_press_222
                    · skip
                      refine lv_aload_n hx hb dX5_press_185 rfl (lv_at hl 5 rfl) ?_
                      refine g_get (C := RX5) (T := TX5) (N := 23) hx hb hts inX5 hown hG hM.1 rfl 6 (by decide) (by decide +kernel) rfl (v := .ref (bm + 5)) rfl dX5_press_186 ?_
                      refine b_iconst hx hb dX5_press_189 ?_
                      refine lv_iload_n hx hb dX5_press_190 rfl (lv_at hl 6 rfl) ?_
                      refine b_imul hx hb dX5_press_191 ?_
                      refine lv_iload hx hb dX5_press_192 (lv_at hl 0 rfl) ?_
                      refine b_iadd hx hb dX5_press_194 ?_
                      have b_195 : 1 ≤ X 6 (3 * n + 2) ∧ X 6 (3 * n + 2) ≤ 9 := hV.1 6 _ (by decide) rfl
                      refine g_iald (n := 24) hx hb hG (f := fun i => z2 ((up X 22 0 (0)) 6 i)) (show ca D (bm + 5) (iA (ks 0) 24 (fun i => z2 ((up X 22 0 (0)) 6 i))) _ from hM.2.1 6 (sr_of (by decide))) (3 * n + 2) ⟨by omega, by omega, by decide⟩ dX5_press_195 ?_
                      refine W.eq (g2 := F0 m 196 ls (.int (z2 (X 6 (3 * n + 2))) :: [.int (z2 (((X 6 (3 * n + b)) + (X 6 (3 * n + 0))) + (X 6 (3 * n + 1))))])) rfl ?_
                      refine lv_goto (tgt := 200) hx hb dX5_press_196 (by decide) ?_
                      refine b_iadd hx hb dX5_press_200 ?_
                      refine lv_istore (lv' := [(6, .int (z2 ((((X 6 (3 * n + b)) + (X 6 (3 * n + 0))) + (X 6 (3 * n + 1))) + (X 6 (3 * n + 2))))), (7, .int (z2 (2))), (5, .int (z2 (1))), (4, .int (z2 (((12 * ((n : Nat) : Int)) + (X 5 (3 * n + b))) - 1))), (3, .int (z2 ((3 * ((n : Nat) : Int)) + ((b : Nat) : Int)))), (0, .ref bm), (1, .int (z2 (((n : Nat) : Int)))), (2, .int (z2 (((b : Nat) : Int))))]) hx hb dX5_press_201 hl (by decide) rfl (fun ls hl => ?_)
                      refine b_iinc (lv' := [(7, .int (z2 (3))), (6, .int (z2 ((((X 6 (3 * n + b)) + (X 6 (3 * n + 0))) + (X 6 (3 * n + 1))) + (X 6 (3 * n + 2))))), (5, .int (z2 (1))), (4, .int (z2 (((12 * ((n : Nat) : Int)) + (X 5 (3 * n + b))) - 1))), (3, .int (z2 ((3 * ((n : Nat) : Int)) + ((b : Nat) : Int)))), (0, .ref bm), (1, .int (z2 (((n : Nat) : Int)))), (2, .int (z2 (((b : Nat) : Int))))]) hx hb dX5_press_203 hl (k := 1) rfl (by decide) rfl (fun ls hl => ?_)
                      refine lv_goto (tgt := 163) hx hb dX5_press_206 (by decide) ?_
                      refine lv_iload hx hb dX5_press_163 (lv_at hl 0 rfl) ?_
                      refine b_iconst hx hb dX5_press_165 ?_
                      refine b_icmp_ge (tgt := 209) hx hb dX5_press_166 (by decide) ⟨⟨by omega, by omega⟩, ⟨by omega, by omega⟩⟩ (fun _ => ?_) (fun c => absurd c (by omega))
                      refine lv_iload hx hb dX5_press_209 (lv_at hl 1 rfl) ?_
                      refine b_bipush hx hb dX5_press_211 (by decide +kernel) ?_
                      refine b_icmp_le (tgt := 223) hx hb dX5_press_213 (by decide) ⟨⟨by omega, by omega⟩, ⟨by omega, by omega⟩⟩ (fun c_213 => ?_) (fun c_213 => ?_)
                      · skip
                        refine lv_aload_n hx hb dX5_press_223 rfl (lv_at hl 5 rfl) ?_
                        refine g_get (C := RX5) (T := TX5) (N := 23) hx hb hts inX5 hown hG hM.1 rfl 8 (by decide) (by decide +kernel) rfl (v := .ref (bm + 7)) rfl dX5_press_224 ?_
                        refine lv_iload hx hb dX5_press_227 (lv_at hl 3 rfl) ?_
                        refine lv_dup2_11 hx hb dX5_press_229 rfl rfl ?_
                        have b_230 : 0 ≤ X 8 (12 * n + k) ∧ X 8 (12 * n + k) ≤ 1000 := hV.1 8 _ (by decide) rfl
                        refine g_iald (n := 96) hx hb hG (f := fun i => z2 ((up X 22 0 (0)) 8 i)) (show ca D (bm + 7) (iA (ks 0) 96 (fun i => z2 ((up X 22 0 (0)) 8 i))) _ from hM.2.1 8 (sr_of (by decide))) (12 * n + k) ⟨by omega, by omega, by decide⟩ dX5_press_230 ?_
                        refine W.eq (g2 := F0 m 231 ls (.int (z2 (X 8 (12 * n + k))) :: [.int (z2 (((12 * ((n : Nat) : Int)) + (X 5 (3 * n + b))) - 1)), .ref (bm + 7)])) rfl ?_
                        refine lv_iload hx hb dX5_press_231 (lv_at hl 2 rfl) ?_
                        refine b_if_eq (tgt := 240) hx hb dX5_press_233 (by decide) ⟨by omega, by omega⟩ (fun c => absurd c (by omega)) (fun _ => ?_)
                        refine b_iconst hx hb dX5_press_236 ?_
                        refine lv_goto (tgt := 241) hx hb dX5_press_237 (by decide) ?_
                        refine b_isub hx hb dX5_press_241 ?_
                        refine g_iast (n := 96) hx hb hG hS (f := fun i => z2 ((up X 22 0 (0)) 8 i)) (show ca D (bm + 7) (iA (ks 0) 96 (fun i => z2 ((up X 22 0 (0)) 8 i))) _ from hM.2.1 8 (sr_of (by decide))) (Or.inl ⟨by omega, by omega⟩) (12 * n + k) ⟨by omega, by omega, by decide⟩ dX5_press_242 (fun H locs he hz oq hS => ?_)
                        have hM : PM D ks bm (up (up X 22 0 (0)) 8 (12 * n + k) ((X 8 (12 * n + k)) - 0)) H := hM.row (f := 8) (sr_of (by decide)) he oq
                        refine lv_aload_n hx hb dX5_press_243 rfl (lv_at hl 5 rfl) ?_
                        refine lv_iload_n hx hb dX5_press_244 rfl (lv_at hl 4 rfl) ?_
                        refine g_run (vx_runV (As := [.int (z2 ((3 * ((n : Nat) : Int)) + ((b : Nat) : Int)))]) (rest := []) ⟨hx, hb, hml, hown, hts⟩ (m_begins l D ks bx bm hbm (up (up X 22 0 (0)) 8 (12 * n + k) ((X 8 (12 * n + k)) - 0)) _ hM (vs_up (vs_uf hV (by decide)) (by decide) (fun _ _ => by show 0 ≤ _ ∧ _ ≤ (1000 : Int); omega)) (i := 3 * n + b) ((3 * ((n : Nat) : Int)) + ((b : Nat) : Int)) ⟨by omega, by omega⟩ (by show 0 < X 5 (3 * n + b); omega)) (cwV 1 hts gX5_press_X5_begins rfl rfl rfl (by decide +kernel) ⟨Nat.le_of_ble_eq_true rfl, Nat.le_of_ble_eq_true rfl⟩) (g_preV (r := (RX5, TX5, 23)) hG hS (rm_ge hbm) hM.1 rfl) rfl rfl hl.1 rfl (lv_room (Nat.le_of_ble_eq_true rfl)) dX5_press_245 ⟨Nat.le_of_ble_eq_true rfl, Nat.le_of_ble_eq_true rfl⟩) hS (fun _ h => h) (fun _ _ _ _ _ h => h.elim) (fun v H1 locs hp hz9 hk9 hS => ?_)
                        obtain ⟨rfl, hM⟩ := hp
                        refine W.eq (g2 := F0 m 248 ls []) rfl ?_
                        refine b_iconst hx hb dX5_press_248 ?_
                        have e9 : pmS X (up X 22 0 0) n (3 * n + b) k = (beS (up (up X 22 0 (0)) 8 (12 * n + k) ((X 8 (12 * n + k)) - 0)) (3 * n + b)) := by
                          unfold pmS plM
                          (repeat' split) <;> first | rfl | omega
                        have e8 : (1 : Int) = pmV X n (3 * n + b) k := by
                          unfold pmV plM
                          (repeat' split) <;> omega
                        exact g_iret hx hb hr hlocks hS ⟨Nat.le_of_ble_eq_true rfl, Nat.le_of_ble_eq_true rfl⟩ (⟨1, (beS (up (up X 22 0 (0)) 8 (12 * n + k) ((X 8 (12 * n + k)) - 0)) (3 * n + b)), Or.inl (⟨n, b, k, by omega, e8, e9.symm⟩), rfl, hM⟩) dX5_press_249
                      · skip
                        refine lv_aload_n hx hb dX5_press_216 rfl (lv_at hl 5 rfl) ?_
                        refine lv_iload_n hx hb dX5_press_217 rfl (lv_at hl 6 rfl) ?_
                        refine g_run (vx_runV (As := [.int (z2 (((n : Nat) : Int)))]) (rest := []) ⟨hx, hb, hml, hown, hts⟩ (m_breaks l D ks bx bm hbm (up X 22 0 (0)) _ hM (vs_uf (hV) (by decide)) (n := n) (((n : Nat) : Int)) ⟨by omega, by omega⟩) (cwV 1 hts gX5_press_X5_breaks rfl rfl rfl (by decide +kernel) ⟨Nat.le_of_ble_eq_true rfl, Nat.le_of_ble_eq_true rfl⟩) (g_preV (r := (RX5, TX5, 23)) hG hS (rm_ge hbm) hM.1 rfl) rfl rfl hl.1 rfl (lv_room (Nat.le_of_ble_eq_true rfl)) dX5_press_218 ⟨Nat.le_of_ble_eq_true rfl, Nat.le_of_ble_eq_true rfl⟩) hS (fun _ h => h) (fun _ _ _ _ _ h => h.elim) (fun v H1 locs hp hz9 hk9 hS => ?_)
                        obtain ⟨rfl, hM⟩ := hp
                        have hV : VS (brM (up X 22 0 (0)) n) := vs_br (vs_uf (hV) (by decide)) n
                        refine W.eq (g2 := F0 m 221 ls []) rfl ?_
                        refine b_iconst hx hb dX5_press_221 ?_
                        have e9 : pmS X (up X 22 0 0) n (3 * n + b) k = (brM (up X 22 0 (0)) n) := by
                          unfold pmS plM
                          (repeat' split) <;> first | rfl | omega
                        have e8 : (3 : Int) = pmV X n (3 * n + b) k := by
                          unfold pmV plM
                          (repeat' split) <;> omega
                        exact g_iret hx hb hr hlocks hS ⟨Nat.le_of_ble_eq_true rfl, Nat.le_of_ble_eq_true rfl⟩ (⟨3, (brM (up X 22 0 (0)) n), Or.inl (⟨n, b, k, by omega, e8, e9.symm⟩), rfl, hM⟩) dX5_press_222
            · skip
              refine lv_aload_n hx hb dX5_press_84 rfl (lv_at hl 1 rfl) ?_
              refine g_get (C := RX5) (T := TX5) (N := 23) hx hb hts inX5 hown hG hM.1 rfl 15 (by decide) (by decide +kernel) rfl (v := .ref (bm + 14)) rfl dX5_press_85 ?_
              refine lv_iload_n hx hb dX5_press_88 rfl (lv_at hl 2 rfl) ?_
              refine lv_dup2_11 hx hb dX5_press_89 rfl rfl ?_
              refine g_iald (n := 8) hx hb hG (f := fun i => z2 ((up X 22 0 (0)) 15 i)) (show ca D (bm + 14) (iA (ks 0) 8 (fun i => z2 ((up X 22 0 (0)) 15 i))) _ from hM.2.1 15 (sr_of (by decide))) n ⟨by omega, by omega, by decide⟩ dX5_press_90 ?_
              refine W.eq (g2 := F0 m 91 ls (.int (z2 (X 15 n)) :: [.int (z2 (((n : Nat) : Int))), .ref (bm + 14)])) rfl ?_
              refine b_iconst hx hb dX5_press_91 ?_
              refine b_iadd hx hb dX5_press_92 ?_
              refine g_iast (n := 8) hx hb hG hS (f := fun i => z2 ((up X 22 0 (0)) 15 i)) (show ca D (bm + 14) (iA (ks 0) 8 (fun i => z2 ((up X 22 0 (0)) 15 i))) _ from hM.2.1 15 (sr_of (by decide))) (Or.inl ⟨by omega, by omega⟩) n ⟨by omega, by omega, by decide⟩ dX5_press_93 (fun H locs he hz oq hS => ?_)
              have hM : PM D ks bm (up (up X 22 0 (0)) 15 n ((X 15 n) + 1)) H := hM.row (f := 15) (sr_of (by decide)) he oq
              refine b_iconst hx hb dX5_press_94 ?_
              have e9 : pmS X (up X 22 0 0) n (3 * n + b) k = up (up X 22 0 (0)) 15 n ((X 15 n) + 1) := by
                unfold pmS plM
                (repeat' split) <;> first | rfl | omega
              have e8 : (2 : Int) = pmV X n (3 * n + b) k := by
                unfold pmV plM
                (repeat' split) <;> omega
              exact g_iret hx hb hr hlocks hS ⟨Nat.le_of_ble_eq_true rfl, Nat.le_of_ble_eq_true rfl⟩ (⟨2, up (up X 22 0 (0)) 15 n ((X 15 n) + 1), Or.inl (⟨n, b, k, by omega, e8, e9.symm⟩), rfl, hM⟩) dX5_press_95
          · skip
            refine b_iconst hx hb dX5_press_74 ?_
            have e9 : pmS X (up X 22 0 0) n (3 * n + b) k = up X 22 0 (0) := by
              unfold pmS plM
              (repeat' split) <;> first | rfl | omega
            have e8 : (0 : Int) = pmV X n (3 * n + b) k := by
              unfold pmV plM
              (repeat' split) <;> omega
            exact g_iret hx hb hr hlocks hS ⟨Nat.le_of_ble_eq_true rfl, Nat.le_of_ble_eq_true rfl⟩ (⟨0, up X 22 0 (0), Or.inl (⟨n, b, k, by omega, e8, e9.symm⟩), rfl, hM⟩) dX5_press_75
      · skip
        refine lv_aload_n hx hb dX5_press_49 rfl (lv_at hl 1 rfl) ?_
        refine b_iconst hx hb dX5_press_50 ?_
        refine g_run (vx_runV (As := [.int (z2 (2))]) (rest := []) ⟨hx, hb, hml, hown, hts⟩ (m_fails l D ks bx bm hbm (up X 22 0 (0)) _ hM (vs_uf (hV) (by decide)) (2)) (cwV 1 hts gX5_press_X5_fails rfl rfl rfl (by decide +kernel) ⟨Nat.le_of_ble_eq_true rfl, Nat.le_of_ble_eq_true rfl⟩) (g_preV (r := (RX5, TX5, 23)) hG hS (rm_ge hbm) hM.1 rfl) rfl rfl hl.1 rfl (lv_room (Nat.le_of_ble_eq_true rfl)) dX5_press_51 ⟨Nat.le_of_ble_eq_true rfl, Nat.le_of_ble_eq_true rfl⟩) hS (fun _ h => h) (fun _ _ _ _ _ h => h.elim) (fun v H1 locs hp hz9 hk9 hS => ?_)
        obtain ⟨rfl, hM⟩ := hp
        refine W.eq (g2 := F0 m 54 ls [.int (z2 (0))]) rfl ?_
        exact g_iret hx hb hr hlocks hS ⟨Nat.le_of_ble_eq_true rfl, Nat.le_of_ble_eq_true rfl⟩ (⟨0, (up (up X 22 0 (0)) 22 0 (2)), Or.inr (Or.inr (⟨⟨n, b, by omega⟩, rfl⟩)), rfl, hM⟩) dX5_press_54
    · skip
      refine b_iconst hx hb dX5_press_17 ?_
      refine lv_goto (tgt := 22) hx hb dX5_press_18 (by decide) ?_
      refine g_put (C := RX5) (T := TX5) (N := 23) hx hb hts inX5 tyX5 tyX5_ok nmX5 hown hG hS hM.1 (Or.inl ⟨by omega, by omega⟩) rfl 22 (by decide) (by decide +kernel) rfl rfl (v := .int (z2 (1))) rfl rfl (Nat.le_of_ble_eq_true rfl) dX5_press_22 (fun H locs he hz oq hS => ?_)
      have hM : PM D ks bm (up X 22 0 (1)) H := hM.own (k := 22) (by decide) he oq
      refine lv_aload_n hx hb dX5_press_25 rfl (lv_at hl 0 rfl) ?_
      refine g_get (C := RX5) (T := TX5) (N := 23) hx hb hts inX5 hown hG hM.1 rfl 22 (by decide) (by decide +kernel) rfl (v := .int (z2 (1))) (congrArg (fun z => some (Value.int (z2 z))) (by simp [up] : (up X 22 0 (1)) 22 0 = 1)) dX5_press_26 ?_
      refine b_if_le (tgt := 34) hx hb dX5_press_29 (by decide) ⟨by omega, by omega⟩ (fun c => absurd c (by omega)) (fun _ => ?_)
      refine b_iconst hx hb dX5_press_32 ?_
      exact g_iret hx hb hr hlocks hS ⟨Nat.le_of_ble_eq_true rfl, Nat.le_of_ble_eq_true rfl⟩ (⟨0, up X 22 0 (1), Or.inr (Or.inl (⟨by omega, rfl⟩)), rfl, hM⟩) dX5_press_33
set_option maxHeartbeats 4000000 in
set_option maxRecDepth 100000 in
theorem m_fault (l : Launch) (D : va_G) (ks : Nat → ClassId) (bx : Nat) (bm : Nat) (hbm : bx ≤ bm) (X : Nat → Nat → Int) (H : Heap) (hM : PM D ks bm X H) (hV : VS X) (u : Int) (hu : -2147483648 ≤ u ∧ u < 2147483648) : KM l yX5_fault wsX5_fault ({ frames := 2, cells := 0, slots := 0, locals := 42 } : Room) D ks bx [.ref bm, .int (z2 u)] H (RM bm) (fun v H1 => ∃ (r : Int) (Y : Nat → Nat → Int), ro_fault X u r Y ∧ v = some (.int (z2 r)) ∧ PM D ks bm Y H1) (fun _ _ => False) := by
  refine KM.of (cc := cX5_fault) (maxL := 4) (ret := (some .int)) (by decide) rfl (Nat.le_of_ble_eq_true rfl) ?_
  intro p e s m below meth c hx hb hml hr hlocks hown hname hts hext hH0 hG ls hl
  subst hH0
  have hown : s.vm.findClass RX5 = some m.cls := hown
  have hS : va_S (AR (RM bm) s.heap.size) s.heap s.heap [] := va_S.rf
  have hl : lv_has ls 4 [(0, .ref bm), (1, .int (z2 (u)))] := hl
  have inX5 : ∀ w ∈ wsX50, w ∈ wsX5_fault := by decide +kernel
  have hV0 := hV
  refine lv_aload_n hx hb dX5_fault_0 rfl (lv_at hl 0 rfl) ?_
  refine lv_iload_n hx hb dX5_fault_1 rfl (lv_at hl 1 rfl) ?_
  refine g_run (vx_runS (As := [.int (z2 (u))]) (rest := [.ref bm]) ⟨hx, hb, hml, hown, hts⟩ (m_isHouse l D ks bx bm hbm _ (u) ⟨by omega, by omega⟩) (cwS 1 hts gX5_fault_X5_isHouse rfl rfl rfl (by decide +kernel) ⟨Nat.le_of_ble_eq_true rfl, Nat.le_of_ble_eq_true rfl⟩) (g_preS hG hS (rm_ge hbm)) rfl rfl hl.1 rfl (lv_room (Nat.le_of_ble_eq_true rfl)) dX5_fault_2 ⟨Nat.le_of_ble_eq_true rfl, Nat.le_of_ble_eq_true rfl⟩) hS (fun _ h => h) (fun _ _ _ _ _ h => h.elim) (fun v H1 locs hp hz9 hk9 hS => ?_)
  obtain ⟨rfl, hH9⟩ := hp
  obtain rfl := hH9.symm
  obtain ⟨iv_2, ev_2, ib_2⟩ : ∃ z : Int, z = (if 0 ≤ u ∧ u ≤ 7 then 1 else 0) ∧ (((0 ≤ u ∧ u ≤ 7) ∧ z = 1) ∨ (¬ (0 ≤ u ∧ u ≤ 7) ∧ z = 0)) := ⟨_, rfl, by split <;> omega⟩
  rw [← ev_2]
  refine W.eq (g2 := F0 m 5 ls [.int (z2 (iv_2)), .ref bm]) rfl ?_
  refine b_if_ne (tgt := 12) hx hb dX5_fault_5 (by decide) ⟨by omega, by omega⟩ (fun c_5 => ?_) (fun c_5 => ?_)
  · skip
    obtain ⟨n, rfl⟩ : ∃ n : Nat, u = n := ⟨(u).toNat, by omega⟩
    refine lv_aload_n hx hb dX5_fault_12 rfl (lv_at hl 0 rfl) ?_
    refine g_get (C := RX5) (T := TX5) (N := 23) hx hb hts inX5 hown hG hM.1 rfl 11 (by decide) (by decide +kernel) rfl (v := .ref (bm + 10)) rfl dX5_fault_13 ?_
    refine lv_iload_n hx hb dX5_fault_16 rfl (lv_at hl 1 rfl) ?_
    have b_17 : 0 ≤ X 11 n ∧ X 11 n ≤ 1 := hV.1 11 _ (by decide) rfl
    refine g_iald (n := 8) hx hb hG (f := fun i => z2 (X 11 i)) (show ca D (bm + 10) (iA (ks 0) 8 (fun i => z2 (X 11 i))) _ from hM.2.1 11 (sr_of (by decide))) n ⟨by omega, by omega, by decide⟩ dX5_fault_17 ?_
    refine W.eq (g2 := F0 m 18 ls (.int (z2 (X 11 n)) :: [.ref bm])) rfl ?_
    refine b_iconst hx hb dX5_fault_18 ?_
    refine b_icmp_eq (tgt := 31) hx hb dX5_fault_19 (by decide) ⟨⟨by omega, by omega⟩, ⟨by omega, by omega⟩⟩ (fun c_19 => ?_) (fun c_19 => ?_)
    · skip
      refine b_iconst hx hb dX5_fault_31 ?_
      refine lv_goto (tgt := 36) hx hb dX5_fault_32 (by decide) ?_
      refine g_put (C := RX5) (T := TX5) (N := 23) hx hb hts inX5 tyX5 tyX5_ok nmX5 hown hG hS hM.1 (Or.inl ⟨by omega, by omega⟩) rfl 22 (by decide) (by decide +kernel) rfl rfl (v := .int (z2 (2))) rfl rfl (Nat.le_of_ble_eq_true rfl) dX5_fault_36 (fun H locs he hz oq hS => ?_)
      have hM : PM D ks bm (up X 22 0 (2)) H := hM.own (k := 22) (by decide) he oq
      refine lv_aload_n hx hb dX5_fault_39 rfl (lv_at hl 0 rfl) ?_
      refine g_get (C := RX5) (T := TX5) (N := 23) hx hb hts inX5 hown hG hM.1 rfl 22 (by decide) (by decide +kernel) rfl (v := .int (z2 (2))) (congrArg (fun z => some (Value.int (z2 z))) (by simp [up] : (up X 22 0 (2)) 22 0 = 2)) dX5_fault_40 ?_
      refine b_if_le (tgt := 48) hx hb dX5_fault_43 (by decide) ⟨by omega, by omega⟩ (fun c => absurd c (by omega)) (fun _ => ?_)
      refine b_iconst hx hb dX5_fault_46 ?_
      exact g_iret hx hb hr hlocks hS ⟨Nat.le_of_ble_eq_true rfl, Nat.le_of_ble_eq_true rfl⟩ (⟨0, up X 22 0 (2), Or.inr (Or.inr (⟨⟨n, by omega⟩, rfl⟩)), rfl, hM⟩) dX5_fault_47
    · skip
      refine lv_aload_n hx hb dX5_fault_22 rfl (lv_at hl 0 rfl) ?_
      have b_23 : 0 ≤ X 20 0 ∧ X 20 0 ≤ 100 := hV.1 20 _ (by decide) rfl
      refine g_get (C := RX5) (T := TX5) (N := 23) hx hb hts inX5 hown hG hM.1 rfl 20 (by decide) (by decide +kernel) rfl (v := .int (z2 (X 20 0))) rfl dX5_fault_23 ?_
      refine b_bipush hx hb dX5_fault_26 (by decide +kernel) ?_
      refine b_icmp_ne (tgt := 35) hx hb dX5_fault_28 (by decide) ⟨⟨by omega, by omega⟩, ⟨by omega, by omega⟩⟩ (fun c_28 => ?_) (fun c_28 => ?_)
      · skip
        refine b_iconst hx hb dX5_fault_35 ?_
        refine g_put (C := RX5) (T := TX5) (N := 23) hx hb hts inX5 tyX5 tyX5_ok nmX5 hown hG hS hM.1 (Or.inl ⟨by omega, by omega⟩) rfl 22 (by decide) (by decide +kernel) rfl rfl (v := .int (z2 (0))) rfl rfl (Nat.le_of_ble_eq_true rfl) dX5_fault_36 (fun H locs he hz oq hS => ?_)
        have hM : PM D ks bm (up X 22 0 (0)) H := hM.own (k := 22) (by decide) he oq
        refine lv_aload_n hx hb dX5_fault_39 rfl (lv_at hl 0 rfl) ?_
        refine g_get (C := RX5) (T := TX5) (N := 23) hx hb hts inX5 hown hG hM.1 rfl 22 (by decide) (by decide +kernel) rfl (v := .int (z2 (0))) (congrArg (fun z => some (Value.int (z2 z))) (by simp [up] : (up X 22 0 (0)) 22 0 = 0)) dX5_fault_40 ?_
        refine b_if_le (tgt := 48) hx hb dX5_fault_43 (by decide) ⟨by omega, by omega⟩ (fun _ => ?_) (fun c => absurd c (by omega))
        refine b_iconst hx hb dX5_fault_48 ?_
        refine lv_istore_n (lv' := [(2, .int (z2 (0))), (0, .ref bm), (1, .int (z2 (((n : Nat) : Int))))]) hx hb dX5_fault_49 rfl hl (by decide) rfl (fun ls hl => ?_)
        refine b_bipush hx hb dX5_fault_50 (by decide +kernel) ?_
        refine lv_iload_n hx hb dX5_fault_52 rfl (lv_at hl 2 rfl) ?_
        refine b_iconst hx hb dX5_fault_53 ?_
        refine b_idiv hx hb ⟨⟨by omega, by omega⟩, by decide, by decide⟩ dX5_fault_54 ?_
        refine b_imul hx hb dX5_fault_55 ?_
        refine lv_istore_n (lv' := [(3, .int (z2 (12 * (((n : Nat) : Int) / 4)))), (2, .int (z2 (0))), (0, .ref bm), (1, .int (z2 (((n : Nat) : Int))))]) hx hb dX5_fault_56 rfl hl (by decide) rfl (fun ls hl => ?_)
        refine lp_ms (σ := Nat) (fun j H locs ls => j ≤ 12 ∧ PM D ks bm (flS (up X 22 0 (0)) n j) H ∧ va_S (AR (RM bm) s.heap.size) s.heap H locs ∧ lv_has ls 4 [(0, .ref bm), (1, .int (z2 (((n : Nat) : Int)))), (2, .int (z2 (flN (up X 22 0 (0)) n j))), (3, .int (z2 (((12 * (n / 4) + j : Nat) : Int))))]) (fun j => 12 - j) (fun j H locs ls hI ih => ?_) 0 ⟨by omega, hM, hS, (by have e0 : ((12 * (n / 4) + 0 : Nat) : Int) = 12 * (((n : Nat) : Int) / 4) := (by omega); rw [e0]; exact lv_sub hl [2, 3, 1, 0] rfl)⟩
        obtain ⟨hkN, hM, hS, hl⟩ := hI
        have hV := vs_fl (vs_uf (f := 22) (i := 0) (v := 0) hV0 (by decide)) n j
        have fb := flN_b (up X 22 0 (0)) n j
        refine lv_iload_n hx hb dX5_fault_57 rfl (lv_at hl 3 rfl) ?_
        refine b_bipush hx hb dX5_fault_58 (by decide +kernel) ?_
        refine lv_iload_n hx hb dX5_fault_60 rfl (lv_at hl 1 rfl) ?_
        refine b_iconst hx hb dX5_fault_61 ?_
        refine b_idiv hx hb ⟨⟨by omega, by omega⟩, by decide, by decide⟩ dX5_fault_62 ?_
        refine b_imul hx hb dX5_fault_63 ?_
        refine b_bipush hx hb dX5_fault_64 (by decide +kernel) ?_
        refine b_iadd hx hb dX5_fault_66 ?_
        refine b_icmp_ge (tgt := 125) hx hb dX5_fault_67 (by decide) ⟨⟨by omega, by omega⟩, ⟨by omega, by omega⟩⟩ (fun c_67 => ?_) (fun c_67 => ?_)
        · skip
          obtain rfl : j = 12 := by omega
          refine lv_aload_n hx hb dX5_fault_125 rfl (lv_at hl 0 rfl) ?_
          refine lv_iload_n hx hb dX5_fault_126 rfl (lv_at hl 1 rfl) ?_
          refine g_run (vx_runV (As := [.int (z2 (((n : Nat) : Int)))]) (rest := []) ⟨hx, hb, hml, hown, hts⟩ (m_breaks l D ks bx bm hbm (flS (up X 22 0 (0)) n 12) _ hM (hV) (n := (((n : Nat) : Int)).toNat) (((n : Nat) : Int)) ⟨by omega, by omega⟩) (cwV 1 hts gX5_fault_X5_breaks rfl rfl rfl (by decide +kernel) ⟨Nat.le_of_ble_eq_true rfl, Nat.le_of_ble_eq_true rfl⟩) (g_preV (r := (RX5, TX5, 23)) hG hS (rm_ge hbm) hM.1 rfl) rfl rfl hl.1 rfl (lv_room (Nat.le_of_ble_eq_true rfl)) dX5_fault_127 ⟨Nat.le_of_ble_eq_true rfl, Nat.le_of_ble_eq_true rfl⟩) hS (fun _ h => h) (fun _ _ _ _ _ h => h.elim) (fun v H1 locs hp hz9 hk9 hS => ?_)
          obtain ⟨rfl, hM⟩ := hp
          have hV : VS (brM (flS (up X 22 0 (0)) n 12) (((n : Nat) : Int)).toNat) := vs_br (hV) (((n : Nat) : Int)).toNat
          refine W.eq (g2 := F0 m 130 ls []) rfl ?_
          have f20 : (brM (flS (up X 22 0 (0)) n 12) n) 20 0 = X 20 0 := fm_20 X n
          refine lv_aload_n hx hb dX5_fault_130 rfl (lv_at hl 0 rfl) ?_
          refine g_get (C := RX5) (T := TX5) (N := 23) hx hb hts inX5 hown hG hM.1 rfl 21 (by decide) (by decide +kernel) rfl (v := .ref (bm + 19)) rfl dX5_fault_131 ?_
          refine lv_aload_n hx hb dX5_fault_134 rfl (lv_at hl 0 rfl) ?_
          have b_135 : 0 ≤ ((brM (flS (up X 22 0 (0)) n 12) (((n : Nat) : Int)).toNat)) 20 0 ∧ ((brM (flS (up X 22 0 (0)) n 12) (((n : Nat) : Int)).toNat)) 20 0 ≤ 100 := hV.1 20 _ (by decide) rfl
          refine g_get (C := RX5) (T := TX5) (N := 23) hx hb hts inX5 hown hG hM.1 rfl 20 (by decide) (by decide +kernel) rfl (v := .int (z2 (((brM (flS (up X 22 0 (0)) n 12) (((n : Nat) : Int)).toNat)) 20 0))) rfl dX5_fault_135 ?_
          refine b_bipush hx hb dX5_fault_138 (by decide +kernel) ?_
          refine lv_aload_n hx hb dX5_fault_140 rfl (lv_at hl 0 rfl) ?_
          have b_141 : 0 ≤ ((brM (flS (up X 22 0 (0)) n 12) (((n : Nat) : Int)).toNat)) 0 0 ∧ ((brM (flS (up X 22 0 (0)) n 12) (((n : Nat) : Int)).toNat)) 0 0 ≤ 1000000 := hV.1 0 _ (by decide) rfl
          refine g_get (C := RX5) (T := TX5) (N := 23) hx hb hts inX5 hown hG hM.1 rfl 0 (by decide) (by decide +kernel) rfl (v := .int (z2 (((brM (flS (up X 22 0 (0)) n 12) (((n : Nat) : Int)).toNat)) 0 0))) rfl dX5_fault_141 ?_
          refine b_imul hx hb dX5_fault_144 ?_
          refine lv_iload_n hx hb dX5_fault_145 rfl (lv_at hl 1 rfl) ?_
          refine b_iadd hx hb dX5_fault_146 ?_
          refine g_iast (n := 100) hx hb hG hS (f := fun i => z2 ((brM (flS (up X 22 0 (0)) n 12) (((n : Nat) : Int)).toNat) 21 i)) (show ca D (bm + 19) (iA (ks 0) 100 (fun i => z2 ((brM (flS (up X 22 0 (0)) n 12) (((n : Nat) : Int)).toNat) 21 i))) _ from hM.2.1 21 (sr_of (by decide))) (Or.inl ⟨by omega, by omega⟩) ((((brM (flS (up X 22 0 (0)) n 12) (((n : Nat) : Int)).toNat)) 20 0).toNat) ⟨by omega, by omega, by decide⟩ dX5_fault_147 (fun H locs he hz oq hS => ?_)
          have hM : PM D ks bm (up ((brM (flS (up X 22 0 (0)) n 12) (((n : Nat) : Int)).toNat)) 21 ((((brM (flS (up X 22 0 (0)) n 12) (((n : Nat) : Int)).toNat)) 20 0).toNat) ((10 * (((brM (flS (up X 22 0 (0)) n 12) (((n : Nat) : Int)).toNat)) 0 0)) + ((n : Nat) : Int))) H := hM.row (f := 21) (sr_of (by decide)) he oq
          refine lv_aload_n hx hb dX5_fault_148 rfl (lv_at hl 0 rfl) ?_
          refine lv_dup hx hb dX5_fault_149 rfl ?_
          have b_150 : 0 ≤ ((brM (flS (up X 22 0 (0)) n 12) (((n : Nat) : Int)).toNat)) 20 0 ∧ ((brM (flS (up X 22 0 (0)) n 12) (((n : Nat) : Int)).toNat)) 20 0 ≤ 100 := hV.1 20 _ (by decide) rfl
          refine g_get (C := RX5) (T := TX5) (N := 23) hx hb hts inX5 hown hG hM.1 rfl 20 (by decide) (by decide +kernel) rfl (v := .int (z2 (((brM (flS (up X 22 0 (0)) n 12) (((n : Nat) : Int)).toNat)) 20 0))) rfl dX5_fault_150 ?_
          refine b_iconst hx hb dX5_fault_153 ?_
          refine b_iadd hx hb dX5_fault_154 ?_
          refine g_put (C := RX5) (T := TX5) (N := 23) hx hb hts inX5 tyX5 tyX5_ok nmX5 hown hG hS hM.1 (Or.inl ⟨by omega, by omega⟩) rfl 20 (by decide) (by decide +kernel) rfl rfl (v := .int (z2 ((((brM (flS (up X 22 0 (0)) n 12) (((n : Nat) : Int)).toNat)) 20 0) + 1))) rfl rfl (Nat.le_of_ble_eq_true rfl) dX5_fault_155 (fun H locs he hz oq hS => ?_)
          have hM : PM D ks bm (up (up ((brM (flS (up X 22 0 (0)) n 12) (((n : Nat) : Int)).toNat)) 21 ((((brM (flS (up X 22 0 (0)) n 12) (((n : Nat) : Int)).toNat)) 20 0).toNat) ((10 * (((brM (flS (up X 22 0 (0)) n 12) (((n : Nat) : Int)).toNat)) 0 0)) + ((n : Nat) : Int))) 20 0 ((((brM (flS (up X 22 0 (0)) n 12) (((n : Nat) : Int)).toNat)) 20 0) + 1)) H := hM.own (k := 20) (by decide) he oq
          refine lv_aload_n hx hb dX5_fault_158 rfl (lv_at hl 0 rfl) ?_
          refine g_get (C := RX5) (T := TX5) (N := 23) hx hb hts inX5 hown hG hM.1 rfl 17 (by decide) (by decide +kernel) rfl (v := .ref (bm + 16)) rfl dX5_fault_159 ?_
          refine lv_iload_n hx hb dX5_fault_162 rfl (lv_at hl 1 rfl) ?_
          refine lv_dup2_11 hx hb dX5_fault_163 rfl rfl ?_
          refine g_iald (n := 8) hx hb hG (f := fun i => z2 ((up (up ((brM (flS (up X 22 0 (0)) n 12) (((n : Nat) : Int)).toNat)) 21 ((((brM (flS (up X 22 0 (0)) n 12) (((n : Nat) : Int)).toNat)) 20 0).toNat) ((10 * (((brM (flS (up X 22 0 (0)) n 12) (((n : Nat) : Int)).toNat)) 0 0)) + ((n : Nat) : Int))) 20 0 ((((brM (flS (up X 22 0 (0)) n 12) (((n : Nat) : Int)).toNat)) 20 0) + 1)) 17 i)) (show ca D (bm + 16) (iA (ks 0) 8 (fun i => z2 ((up (up ((brM (flS (up X 22 0 (0)) n 12) (((n : Nat) : Int)).toNat)) 21 ((((brM (flS (up X 22 0 (0)) n 12) (((n : Nat) : Int)).toNat)) 20 0).toNat) ((10 * (((brM (flS (up X 22 0 (0)) n 12) (((n : Nat) : Int)).toNat)) 0 0)) + ((n : Nat) : Int))) 20 0 ((((brM (flS (up X 22 0 (0)) n 12) (((n : Nat) : Int)).toNat)) 20 0) + 1)) 17 i))) _ from hM.2.1 17 (sr_of (by decide))) ((((n : Nat) : Int)).toNat) ⟨by omega, by omega, by decide⟩ dX5_fault_164 ?_
          refine W.eq (g2 := F0 m 165 ls (.int (z2 (((brM (flS (up X 22 0 (0)) n 12) (((n : Nat) : Int)).toNat)) 17 ((((n : Nat) : Int)).toNat))) :: [.int (z2 (((n : Nat) : Int))), .ref (bm + 16)])) rfl ?_
          refine b_iconst hx hb dX5_fault_165 ?_
          refine b_iadd hx hb dX5_fault_166 ?_
          refine g_iast (n := 8) hx hb hG hS (f := fun i => z2 ((up (up ((brM (flS (up X 22 0 (0)) n 12) (((n : Nat) : Int)).toNat)) 21 ((((brM (flS (up X 22 0 (0)) n 12) (((n : Nat) : Int)).toNat)) 20 0).toNat) ((10 * (((brM (flS (up X 22 0 (0)) n 12) (((n : Nat) : Int)).toNat)) 0 0)) + ((n : Nat) : Int))) 20 0 ((((brM (flS (up X 22 0 (0)) n 12) (((n : Nat) : Int)).toNat)) 20 0) + 1)) 17 i)) (show ca D (bm + 16) (iA (ks 0) 8 (fun i => z2 ((up (up ((brM (flS (up X 22 0 (0)) n 12) (((n : Nat) : Int)).toNat)) 21 ((((brM (flS (up X 22 0 (0)) n 12) (((n : Nat) : Int)).toNat)) 20 0).toNat) ((10 * (((brM (flS (up X 22 0 (0)) n 12) (((n : Nat) : Int)).toNat)) 0 0)) + ((n : Nat) : Int))) 20 0 ((((brM (flS (up X 22 0 (0)) n 12) (((n : Nat) : Int)).toNat)) 20 0) + 1)) 17 i))) _ from hM.2.1 17 (sr_of (by decide))) (Or.inl ⟨by omega, by omega⟩) ((((n : Nat) : Int)).toNat) ⟨by omega, by omega, by decide⟩ dX5_fault_167 (fun H locs he hz oq hS => ?_)
          have hM : PM D ks bm (up (up (up ((brM (flS (up X 22 0 (0)) n 12) (((n : Nat) : Int)).toNat)) 21 ((((brM (flS (up X 22 0 (0)) n 12) (((n : Nat) : Int)).toNat)) 20 0).toNat) ((10 * (((brM (flS (up X 22 0 (0)) n 12) (((n : Nat) : Int)).toNat)) 0 0)) + ((n : Nat) : Int))) 20 0 ((((brM (flS (up X 22 0 (0)) n 12) (((n : Nat) : Int)).toNat)) 20 0) + 1)) 17 ((((n : Nat) : Int)).toNat) ((((brM (flS (up X 22 0 (0)) n 12) (((n : Nat) : Int)).toNat)) 17 ((((n : Nat) : Int)).toNat)) + 1)) H := hM.row (f := 17) (sr_of (by decide)) he oq
          refine lv_iload_n hx hb dX5_fault_168 rfl (lv_at hl 2 rfl) ?_
          exact g_iret hx hb hr hlocks hS ⟨Nat.le_of_ble_eq_true rfl, Nat.le_of_ble_eq_true rfl⟩ (⟨flN (up X 22 0 (0)) n 12, up (up (up ((brM (flS (up X 22 0 (0)) n 12) (((n : Nat) : Int)).toNat)) 21 ((((brM (flS (up X 22 0 (0)) n 12) (((n : Nat) : Int)).toNat)) 20 0).toNat) ((10 * (((brM (flS (up X 22 0 (0)) n 12) (((n : Nat) : Int)).toNat)) 0 0)) + ((n : Nat) : Int))) 20 0 ((((brM (flS (up X 22 0 (0)) n 12) (((n : Nat) : Int)).toNat)) 20 0) + 1)) 17 ((((n : Nat) : Int)).toNat) ((((brM (flS (up X 22 0 (0)) n 12) (((n : Nat) : Int)).toNat)) 17 ((((n : Nat) : Int)).toNat)) + 1), Or.inl (⟨n, by omega, rfl, rfl⟩), rfl, hM⟩) dX5_fault_169
        · skip
          refine lv_aload_n hx hb dX5_fault_70 rfl (lv_at hl 0 rfl) ?_
          refine g_get (C := RX5) (T := TX5) (N := 23) hx hb hts inX5 hown hG hM.1 rfl 11 (by decide) (by decide +kernel) rfl (v := .ref (bm + 10)) rfl dX5_fault_71 ?_
          refine lv_iload_n hx hb dX5_fault_74 rfl (lv_at hl 3 rfl) ?_
          refine b_iconst hx hb dX5_fault_75 ?_
          refine b_idiv hx hb ⟨⟨by omega, by omega⟩, by decide, by decide⟩ dX5_fault_76 ?_
          have b_77 : 0 ≤ ((flS (up X 22 0 (0)) n j)) 11 ((12 * (n / 4) + j) / 3) ∧ ((flS (up X 22 0 (0)) n j)) 11 ((12 * (n / 4) + j) / 3) ≤ 1 := hV.1 11 _ (by decide) rfl
          refine g_iald (n := 8) hx hb hG (f := fun i => z2 ((flS (up X 22 0 (0)) n j) 11 i)) (show ca D (bm + 10) (iA (ks 0) 8 (fun i => z2 ((flS (up X 22 0 (0)) n j) 11 i))) _ from hM.2.1 11 (sr_of (by decide))) ((12 * (n / 4) + j) / 3) ⟨by omega, by omega, by decide⟩ dX5_fault_77 ?_
          refine W.eq (g2 := F0 m 78 ls (.int (z2 (((flS (up X 22 0 (0)) n j)) 11 ((12 * (n / 4) + j) / 3))) :: [])) rfl ?_
          refine b_if_ne (tgt := 119) hx hb dX5_fault_78 (by decide) ⟨by omega, by omega⟩ (fun c_78 => ?_) (fun c_78 => ?_)
          · skip
            refine b_iinc (lv' := [(3, .int (z2 (((12 * (n / 4) + j : Nat) : Int) + 1))), (0, .ref bm), (1, .int (z2 (((n : Nat) : Int)))), (2, .int (z2 (flN (up X 22 0 (0)) n j)))]) hx hb dX5_fault_119 hl (k := 3) rfl (by decide) rfl (fun ls hl => ?_)
            refine lv_goto (tgt := 57) hx hb dX5_fault_122 (by decide) ?_
            have e3 : ((12 * (n / 4) + (j + 1) : Nat) : Int) = ((12 * (n / 4) + j : Nat) : Int) + 1 := by omega
            have e2 : flS (up X 22 0 (0)) n (j + 1) = (flS (up X 22 0 (0)) n j) := if_neg (fun q => by omega)
            have e1 : flN (up X 22 0 (0)) n (j + 1) = flN (up X 22 0 (0)) n j := if_neg (fun q => by omega)
            exact ih (j + 1) _ _ _ (by omega) ⟨by omega, (by rw [e2]; exact hM), hS, by rw [e1, e3]; exact lv_sub hl [1, 2, 3, 0] rfl⟩
          · skip
            refine lv_aload_n hx hb dX5_fault_81 rfl (lv_at hl 0 rfl) ?_
            refine g_get (C := RX5) (T := TX5) (N := 23) hx hb hts inX5 hown hG hM.1 rfl 5 (by decide) (by decide +kernel) rfl (v := .ref (bm + 4)) rfl dX5_fault_82 ?_
            refine lv_iload_n hx hb dX5_fault_85 rfl (lv_at hl 3 rfl) ?_
            have b_86 : 0 ≤ ((flS (up X 22 0 (0)) n j)) 5 (12 * (n / 4) + j) ∧ ((flS (up X 22 0 (0)) n j)) 5 (12 * (n / 4) + j) ≤ 12 := hV.1 5 _ (by decide) rfl
            refine g_iald (n := 24) hx hb hG (f := fun i => z2 ((flS (up X 22 0 (0)) n j) 5 i)) (show ca D (bm + 4) (iA (ks 0) 24 (fun i => z2 ((flS (up X 22 0 (0)) n j) 5 i))) _ from hM.2.1 5 (sr_of (by decide))) (12 * (n / 4) + j) ⟨by omega, by omega, by decide⟩ dX5_fault_86 ?_
            refine W.eq (g2 := F0 m 87 ls (.int (z2 (((flS (up X 22 0 (0)) n j)) 5 (12 * (n / 4) + j))) :: [])) rfl ?_
            refine b_if_le (tgt := 119) hx hb dX5_fault_87 (by decide) ⟨by omega, by omega⟩ (fun c_87 => ?_) (fun c_87 => ?_)
            · skip
              refine b_iinc (lv' := [(3, .int (z2 (((12 * (n / 4) + j : Nat) : Int) + 1))), (0, .ref bm), (1, .int (z2 (((n : Nat) : Int)))), (2, .int (z2 (flN (up X 22 0 (0)) n j)))]) hx hb dX5_fault_119 hl (k := 3) rfl (by decide) rfl (fun ls hl => ?_)
              refine lv_goto (tgt := 57) hx hb dX5_fault_122 (by decide) ?_
              have e3 : ((12 * (n / 4) + (j + 1) : Nat) : Int) = ((12 * (n / 4) + j : Nat) : Int) + 1 := by omega
              have e2 : flS (up X 22 0 (0)) n (j + 1) = (flS (up X 22 0 (0)) n j) := if_neg (fun q => by omega)
              have e1 : flN (up X 22 0 (0)) n (j + 1) = flN (up X 22 0 (0)) n j := if_neg (fun q => by omega)
              exact ih (j + 1) _ _ _ (by omega) ⟨by omega, (by rw [e2]; exact hM), hS, by rw [e1, e3]; exact lv_sub hl [1, 2, 3, 0] rfl⟩
            · skip
              refine lv_aload_n hx hb dX5_fault_90 rfl (lv_at hl 0 rfl) ?_
              refine g_get (C := RX5) (T := TX5) (N := 23) hx hb hts inX5 hown hG hM.1 rfl 7 (by decide) (by decide +kernel) rfl (v := .ref (bm + 6)) rfl dX5_fault_91 ?_
              refine lv_iload_n hx hb dX5_fault_94 rfl (lv_at hl 3 rfl) ?_
              have b_95 : 0 ≤ ((flS (up X 22 0 (0)) n j)) 7 (12 * (n / 4) + j) ∧ ((flS (up X 22 0 (0)) n j)) 7 (12 * (n / 4) + j) ≤ 1000024 := hV.1 7 _ (by decide) rfl
              refine g_iald (n := 24) hx hb hG (f := fun i => z2 ((flS (up X 22 0 (0)) n j) 7 i)) (show ca D (bm + 6) (iA (ks 0) 24 (fun i => z2 ((flS (up X 22 0 (0)) n j) 7 i))) _ from hM.2.1 7 (sr_of (by decide))) (12 * (n / 4) + j) ⟨by omega, by omega, by decide⟩ dX5_fault_95 ?_
              refine W.eq (g2 := F0 m 96 ls (.int (z2 (((flS (up X 22 0 (0)) n j)) 7 (12 * (n / 4) + j))) :: [])) rfl ?_
              refine b_if_ne (tgt := 119) hx hb dX5_fault_96 (by decide) ⟨by omega, by omega⟩ (fun c_96 => ?_) (fun c_96 => ?_)
              · skip
                refine b_iinc (lv' := [(3, .int (z2 (((12 * (n / 4) + j : Nat) : Int) + 1))), (0, .ref bm), (1, .int (z2 (((n : Nat) : Int)))), (2, .int (z2 (flN (up X 22 0 (0)) n j)))]) hx hb dX5_fault_119 hl (k := 3) rfl (by decide) rfl (fun ls hl => ?_)
                refine lv_goto (tgt := 57) hx hb dX5_fault_122 (by decide) ?_
                have e3 : ((12 * (n / 4) + (j + 1) : Nat) : Int) = ((12 * (n / 4) + j : Nat) : Int) + 1 := by omega
                have e2 : flS (up X 22 0 (0)) n (j + 1) = (flS (up X 22 0 (0)) n j) := if_neg (fun q => by omega)
                have e1 : flN (up X 22 0 (0)) n (j + 1) = flN (up X 22 0 (0)) n j := if_neg (fun q => by omega)
                exact ih (j + 1) _ _ _ (by omega) ⟨by omega, (by rw [e2]; exact hM), hS, by rw [e1, e3]; exact lv_sub hl [1, 2, 3, 0] rfl⟩
              · skip
                refine lv_aload_n hx hb dX5_fault_99 rfl (lv_at hl 0 rfl) ?_
                refine lv_iload_n hx hb dX5_fault_100 rfl (lv_at hl 3 rfl) ?_
                refine g_run (vx_runV (As := [.int (z2 (((12 * (n / 4) + j : Nat) : Int)))]) (rest := []) ⟨hx, hb, hml, hown, hts⟩ (m_begins l D ks bx bm hbm (flS (up X 22 0 (0)) n j) _ hM (hV) (i := 12 * (n / 4) + j) (((12 * (n / 4) + j : Nat) : Int)) ⟨by omega, by omega⟩ (by omega)) (cwV 1 hts gX5_fault_X5_begins rfl rfl rfl (by decide +kernel) ⟨Nat.le_of_ble_eq_true rfl, Nat.le_of_ble_eq_true rfl⟩) (g_preV (r := (RX5, TX5, 23)) hG hS (rm_ge hbm) hM.1 rfl) rfl rfl hl.1 rfl (lv_room (Nat.le_of_ble_eq_true rfl)) dX5_fault_101 ⟨Nat.le_of_ble_eq_true rfl, Nat.le_of_ble_eq_true rfl⟩) hS (fun _ h => h) (fun _ _ _ _ _ h => h.elim) (fun v H1 locs hp hz9 hk9 hS => ?_)
                obtain ⟨rfl, hM⟩ := hp
                refine W.eq (g2 := F0 m 104 ls []) rfl ?_
                refine lv_iload_n hx hb dX5_fault_104 rfl (lv_at hl 2 rfl) ?_
                refine lv_iload_n hx hb dX5_fault_105 rfl (lv_at hl 3 rfl) ?_
                refine b_iconst hx hb dX5_fault_106 ?_
                refine b_idiv hx hb ⟨⟨by omega, by omega⟩, by decide, by decide⟩ dX5_fault_107 ?_
                refine lv_iload_n hx hb dX5_fault_108 rfl (lv_at hl 1 rfl) ?_
                refine b_icmp_ne (tgt := 116) hx hb dX5_fault_109 (by decide) ⟨⟨by omega, by omega⟩, ⟨by omega, by omega⟩⟩ (fun c_109 => ?_) (fun c_109 => ?_)
                · skip
                  refine b_iconst hx hb dX5_fault_116 ?_
                  refine b_iadd hx hb dX5_fault_117 ?_
                  refine lv_istore_n (lv' := [(2, .int (z2 ((flN (up X 22 0 (0)) n j) + 1))), (0, .ref bm), (1, .int (z2 (((n : Nat) : Int)))), (3, .int (z2 (((12 * (n / 4) + j : Nat) : Int))))]) hx hb dX5_fault_118 rfl hl (by decide) rfl (fun ls hl => ?_)
                  refine b_iinc (lv' := [(3, .int (z2 (((12 * (n / 4) + j : Nat) : Int) + 1))), (2, .int (z2 ((flN (up X 22 0 (0)) n j) + 1))), (0, .ref bm), (1, .int (z2 (((n : Nat) : Int))))]) hx hb dX5_fault_119 hl (k := 3) rfl (by decide) rfl (fun ls hl => ?_)
                  refine lv_goto (tgt := 57) hx hb dX5_fault_122 (by decide) ?_
                  have e3 : ((12 * (n / 4) + (j + 1) : Nat) : Int) = ((12 * (n / 4) + j : Nat) : Int) + 1 := by omega
                  have e2 : flS (up X 22 0 (0)) n (j + 1) = beS (flS (up X 22 0 (0)) n j) (12 * (n / 4) + j) := if_pos ⟨by omega, by omega, by omega⟩
                  have e1 : flN (up X 22 0 (0)) n (j + 1) = flN (up X 22 0 (0)) n j + 1 := (if_pos ⟨by omega, by omega, by omega⟩).trans (by first | rw [if_pos (by omega)] | rw [if_neg (by omega)])
                  exact ih (j + 1) _ _ _ (by omega) ⟨by omega, (by rw [e2]; exact hM), hS, by rw [e1, e3]; exact lv_sub hl [2, 3, 1, 0] rfl⟩
                · skip
                  refine b_iconst hx hb dX5_fault_112 ?_
                  refine lv_goto (tgt := 117) hx hb dX5_fault_113 (by decide) ?_
                  refine b_iadd hx hb dX5_fault_117 ?_
                  refine lv_istore_n (lv' := [(2, .int (z2 ((flN (up X 22 0 (0)) n j) + 0))), (0, .ref bm), (1, .int (z2 (((n : Nat) : Int)))), (3, .int (z2 (((12 * (n / 4) + j : Nat) : Int))))]) hx hb dX5_fault_118 rfl hl (by decide) rfl (fun ls hl => ?_)
                  refine b_iinc (lv' := [(3, .int (z2 (((12 * (n / 4) + j : Nat) : Int) + 1))), (2, .int (z2 ((flN (up X 22 0 (0)) n j) + 0))), (0, .ref bm), (1, .int (z2 (((n : Nat) : Int))))]) hx hb dX5_fault_119 hl (k := 3) rfl (by decide) rfl (fun ls hl => ?_)
                  refine lv_goto (tgt := 57) hx hb dX5_fault_122 (by decide) ?_
                  have e3 : ((12 * (n / 4) + (j + 1) : Nat) : Int) = ((12 * (n / 4) + j : Nat) : Int) + 1 := by omega
                  have e2 : flS (up X 22 0 (0)) n (j + 1) = beS (flS (up X 22 0 (0)) n j) (12 * (n / 4) + j) := if_pos ⟨by omega, by omega, by omega⟩
                  have e1 : flN (up X 22 0 (0)) n (j + 1) = flN (up X 22 0 (0)) n j + 0 := (if_pos ⟨by omega, by omega, by omega⟩).trans (by first | rw [if_pos (by omega)] | rw [if_neg (by omega)])
                  exact ih (j + 1) _ _ _ (by omega) ⟨by omega, (by rw [e2]; exact hM), hS, by rw [e1, e3]; exact lv_sub hl [2, 3, 1, 0] rfl⟩
      · skip
        refine b_iconst hx hb dX5_fault_31 ?_
        refine lv_goto (tgt := 36) hx hb dX5_fault_32 (by decide) ?_
        refine g_put (C := RX5) (T := TX5) (N := 23) hx hb hts inX5 tyX5 tyX5_ok nmX5 hown hG hS hM.1 (Or.inl ⟨by omega, by omega⟩) rfl 22 (by decide) (by decide +kernel) rfl rfl (v := .int (z2 (2))) rfl rfl (Nat.le_of_ble_eq_true rfl) dX5_fault_36 (fun H locs he hz oq hS => ?_)
        have hM : PM D ks bm (up X 22 0 (2)) H := hM.own (k := 22) (by decide) he oq
        refine lv_aload_n hx hb dX5_fault_39 rfl (lv_at hl 0 rfl) ?_
        refine g_get (C := RX5) (T := TX5) (N := 23) hx hb hts inX5 hown hG hM.1 rfl 22 (by decide) (by decide +kernel) rfl (v := .int (z2 (2))) (congrArg (fun z => some (Value.int (z2 z))) (by simp [up] : (up X 22 0 (2)) 22 0 = 2)) dX5_fault_40 ?_
        refine b_if_le (tgt := 48) hx hb dX5_fault_43 (by decide) ⟨by omega, by omega⟩ (fun c => absurd c (by omega)) (fun _ => ?_)
        refine b_iconst hx hb dX5_fault_46 ?_
        exact g_iret hx hb hr hlocks hS ⟨Nat.le_of_ble_eq_true rfl, Nat.le_of_ble_eq_true rfl⟩ (⟨0, up X 22 0 (2), Or.inr (Or.inr (⟨⟨n, by omega⟩, rfl⟩)), rfl, hM⟩) dX5_fault_47
  · skip
    refine b_iconst hx hb dX5_fault_8 ?_
    refine lv_goto (tgt := 36) hx hb dX5_fault_9 (by decide) ?_
    refine g_put (C := RX5) (T := TX5) (N := 23) hx hb hts inX5 tyX5 tyX5_ok nmX5 hown hG hS hM.1 (Or.inl ⟨by omega, by omega⟩) rfl 22 (by decide) (by decide +kernel) rfl rfl (v := .int (z2 (1))) rfl rfl (Nat.le_of_ble_eq_true rfl) dX5_fault_36 (fun H locs he hz oq hS => ?_)
    have hM : PM D ks bm (up X 22 0 (1)) H := hM.own (k := 22) (by decide) he oq
    refine lv_aload_n hx hb dX5_fault_39 rfl (lv_at hl 0 rfl) ?_
    refine g_get (C := RX5) (T := TX5) (N := 23) hx hb hts inX5 hown hG hM.1 rfl 22 (by decide) (by decide +kernel) rfl (v := .int (z2 (1))) (congrArg (fun z => some (Value.int (z2 z))) (by simp [up] : (up X 22 0 (1)) 22 0 = 1)) dX5_fault_40 ?_
    refine b_if_le (tgt := 48) hx hb dX5_fault_43 (by decide) ⟨by omega, by omega⟩ (fun c => absurd c (by omega)) (fun _ => ?_)
    refine b_iconst hx hb dX5_fault_46 ?_
    exact g_iret hx hb hr hlocks hS ⟨Nat.le_of_ble_eq_true rfl, Nat.le_of_ble_eq_true rfl⟩ (⟨0, up X 22 0 (1), Or.inr (Or.inl (⟨by omega, rfl⟩)), rfl, hM⟩) dX5_fault_47
set_option maxHeartbeats 4000000 in
set_option maxRecDepth 100000 in
theorem m_repair (l : Launch) (D : va_G) (ks : Nat → ClassId) (bx : Nat) (bm : Nat) (hbm : bx ≤ bm) (X : Nat → Nat → Int) (H : Heap) (hM : PM D ks bm X H) (hV : VS X) (u : Int) (hu : -2147483648 ≤ u ∧ u < 2147483648) : KM l yX5_repair wsX5_repair ({ frames := 2, cells := 0, slots := 0, locals := 42 } : Room) D ks bx [.ref bm, .int (z2 u)] H (RM bm) (fun v H1 => ∃ (r : Int) (Y : Nat → Nat → Int), ro_repair X u r Y ∧ v = some (.int (z2 r)) ∧ PM D ks bm Y H1) (fun _ _ => False) := by
  refine KM.of (cc := cX5_repair) (maxL := 3) (ret := (some .int)) (by decide) rfl (Nat.le_of_ble_eq_true rfl) ?_
  intro p e s m below meth c hx hb hml hr hlocks hown hname hts hext hH0 hG ls hl
  subst hH0
  have hown : s.vm.findClass RX5 = some m.cls := hown
  have hS : va_S (AR (RM bm) s.heap.size) s.heap s.heap [] := va_S.rf
  have hl : lv_has ls 3 [(0, .ref bm), (1, .int (z2 (u)))] := hl
  have inX5 : ∀ w ∈ wsX50, w ∈ wsX5_repair := by decide +kernel
  refine lv_aload_n hx hb dX5_repair_0 rfl (lv_at hl 0 rfl) ?_
  refine lv_iload_n hx hb dX5_repair_1 rfl (lv_at hl 1 rfl) ?_
  refine g_run (vx_runS (As := [.int (z2 (u))]) (rest := [.ref bm]) ⟨hx, hb, hml, hown, hts⟩ (m_isHouse l D ks bx bm hbm _ (u) ⟨by omega, by omega⟩) (cwS 1 hts gX5_repair_X5_isHouse rfl rfl rfl (by decide +kernel) ⟨Nat.le_of_ble_eq_true rfl, Nat.le_of_ble_eq_true rfl⟩) (g_preS hG hS (rm_ge hbm)) rfl rfl hl.1 rfl (lv_room (Nat.le_of_ble_eq_true rfl)) dX5_repair_2 ⟨Nat.le_of_ble_eq_true rfl, Nat.le_of_ble_eq_true rfl⟩) hS (fun _ h => h) (fun _ _ _ _ _ h => h.elim) (fun v H1 locs hp hz9 hk9 hS => ?_)
  obtain ⟨rfl, hH9⟩ := hp
  obtain rfl := hH9.symm
  obtain ⟨iv_2, ev_2, ib_2⟩ : ∃ z : Int, z = (if 0 ≤ u ∧ u ≤ 7 then 1 else 0) ∧ (((0 ≤ u ∧ u ≤ 7) ∧ z = 1) ∨ (¬ (0 ≤ u ∧ u ≤ 7) ∧ z = 0)) := ⟨_, rfl, by split <;> omega⟩
  rw [← ev_2]
  refine W.eq (g2 := F0 m 5 ls [.int (z2 (iv_2)), .ref bm]) rfl ?_
  refine b_if_eq (tgt := 12) hx hb dX5_repair_5 (by decide) ⟨by omega, by omega⟩ (fun c_5 => ?_) (fun c_5 => ?_)
  · skip
    refine b_iconst hx hb dX5_repair_12 ?_
    refine g_put (C := RX5) (T := TX5) (N := 23) hx hb hts inX5 tyX5 tyX5_ok nmX5 hown hG hS hM.1 (Or.inl ⟨by omega, by omega⟩) rfl 22 (by decide) (by decide +kernel) rfl rfl (v := .int (z2 (1))) rfl rfl (Nat.le_of_ble_eq_true rfl) dX5_repair_13 (fun H locs he hz oq hS => ?_)
    have hM : PM D ks bm (up X 22 0 (1)) H := hM.own (k := 22) (by decide) he oq
    refine lv_aload_n hx hb dX5_repair_16 rfl (lv_at hl 0 rfl) ?_
    refine g_get (C := RX5) (T := TX5) (N := 23) hx hb hts inX5 hown hG hM.1 rfl 22 (by decide) (by decide +kernel) rfl (v := .int (z2 (1))) (congrArg (fun z => some (Value.int (z2 z))) (by simp [up] : (up X 22 0 (1)) 22 0 = 1)) dX5_repair_17 ?_
    refine b_if_le (tgt := 25) hx hb dX5_repair_20 (by decide) ⟨by omega, by omega⟩ (fun c => absurd c (by omega)) (fun _ => ?_)
    refine b_iconst hx hb dX5_repair_23 ?_
    exact g_iret hx hb hr hlocks hS ⟨Nat.le_of_ble_eq_true rfl, Nat.le_of_ble_eq_true rfl⟩ (⟨0, up X 22 0 (1), Or.inr (Or.inl (⟨by omega, rfl⟩)), rfl, hM⟩) dX5_repair_24
  · skip
    refine b_iconst hx hb dX5_repair_8 ?_
    refine lv_goto (tgt := 13) hx hb dX5_repair_9 (by decide) ?_
    refine g_put (C := RX5) (T := TX5) (N := 23) hx hb hts inX5 tyX5 tyX5_ok nmX5 hown hG hS hM.1 (Or.inl ⟨by omega, by omega⟩) rfl 22 (by decide) (by decide +kernel) rfl rfl (v := .int (z2 (0))) rfl rfl (Nat.le_of_ble_eq_true rfl) dX5_repair_13 (fun H locs he hz oq hS => ?_)
    have hM : PM D ks bm (up X 22 0 (0)) H := hM.own (k := 22) (by decide) he oq
    refine lv_aload_n hx hb dX5_repair_16 rfl (lv_at hl 0 rfl) ?_
    refine g_get (C := RX5) (T := TX5) (N := 23) hx hb hts inX5 hown hG hM.1 rfl 22 (by decide) (by decide +kernel) rfl (v := .int (z2 (0))) (congrArg (fun z => some (Value.int (z2 z))) (by simp [up] : (up X 22 0 (0)) 22 0 = 0)) dX5_repair_17 ?_
    refine b_if_le (tgt := 25) hx hb dX5_repair_20 (by decide) ⟨by omega, by omega⟩ (fun _ => ?_) (fun c => absurd c (by omega))
    obtain ⟨n, rfl⟩ : ∃ n : Nat, u = n := ⟨(u).toNat, by omega⟩
    refine lv_iload_n hx hb dX5_repair_25 rfl (lv_at hl 1 rfl) ?_
    refine b_iconst hx hb dX5_repair_26 ?_
    refine b_idiv hx hb ⟨⟨by omega, by omega⟩, by decide, by decide⟩ dX5_repair_27 ?_
    refine lv_istore_n (lv' := [(2, .int (z2 (((n : Nat) : Int) / 4))), (0, .ref bm), (1, .int (z2 (((n : Nat) : Int))))]) hx hb dX5_repair_28 rfl hl (by decide) rfl (fun ls hl => ?_)
    refine lv_aload_n hx hb dX5_repair_29 rfl (lv_at hl 1 rfl) ?_
    refine g_get (C := RX5) (T := TX5) (N := 23) hx hb hts inX5 hown hG hM.1 rfl 11 (by decide) (by decide +kernel) rfl (v := .ref (bm + 10)) rfl dX5_repair_30 ?_
    refine lv_iload_n hx hb dX5_repair_33 rfl (lv_at hl 2 rfl) ?_
    have b_34 : 0 ≤ X 11 n ∧ X 11 n ≤ 1 := hV.1 11 _ (by decide) rfl
    refine g_iald (n := 8) hx hb hG (f := fun i => z2 ((up X 22 0 (0)) 11 i)) (show ca D (bm + 10) (iA (ks 0) 8 (fun i => z2 ((up X 22 0 (0)) 11 i))) _ from hM.2.1 11 (sr_of (by decide))) n ⟨by omega, by omega, by decide⟩ dX5_repair_34 ?_
    refine W.eq (g2 := F0 m 35 ls (.int (z2 (X 11 n)) :: [])) rfl ?_
    refine b_if_eq (tgt := 47) hx hb dX5_repair_35 (by decide) ⟨by omega, by omega⟩ (fun c_35 => ?_) (fun c_35 => ?_)
    · skip
      refine lv_aload_n hx hb dX5_repair_47 rfl (lv_at hl 1 rfl) ?_
      refine b_iconst hx hb dX5_repair_48 ?_
      refine g_run (vx_runV (As := [.int (z2 (2))]) (rest := []) ⟨hx, hb, hml, hown, hts⟩ (m_fails l D ks bx bm hbm (up X 22 0 (0)) _ hM (vs_uf (hV) (by decide)) (2)) (cwV 1 hts gX5_repair_X5_fails rfl rfl rfl (by decide +kernel) ⟨Nat.le_of_ble_eq_true rfl, Nat.le_of_ble_eq_true rfl⟩) (g_preV (r := (RX5, TX5, 23)) hG hS (rm_ge hbm) hM.1 rfl) rfl rfl hl.1 rfl (lv_room (Nat.le_of_ble_eq_true rfl)) dX5_repair_49 ⟨Nat.le_of_ble_eq_true rfl, Nat.le_of_ble_eq_true rfl⟩) hS (fun _ h => h) (fun _ _ _ _ _ h => h.elim) (fun v H1 locs hp hz9 hk9 hS => ?_)
      obtain ⟨rfl, hM⟩ := hp
      refine W.eq (g2 := F0 m 52 ls [.int (z2 (0))]) rfl ?_
      exact g_iret hx hb hr hlocks hS ⟨Nat.le_of_ble_eq_true rfl, Nat.le_of_ble_eq_true rfl⟩ (⟨0, (up (up X 22 0 (0)) 22 0 (2)), Or.inr (Or.inr (⟨⟨n, by omega⟩, rfl⟩)), rfl, hM⟩) dX5_repair_52
    · skip
      refine lv_aload_n hx hb dX5_repair_38 rfl (lv_at hl 1 rfl) ?_
      refine g_get (C := RX5) (T := TX5) (N := 23) hx hb hts inX5 hown hG hM.1 rfl 18 (by decide) (by decide +kernel) rfl (v := .ref (bm + 17)) rfl dX5_repair_39 ?_
      refine lv_iload_n hx hb dX5_repair_42 rfl (lv_at hl 0 rfl) ?_
      have b_43 : 0 ≤ X 18 (n / 4) ∧ X 18 (n / 4) ≤ 1000050 := hV.1 18 _ (by decide) rfl
      refine g_iald (n := 2) hx hb hG (f := fun i => z2 ((up X 22 0 (0)) 18 i)) (show ca D (bm + 17) (iA (ks 0) 2 (fun i => z2 ((up X 22 0 (0)) 18 i))) _ from hM.2.1 18 (sr_of (by decide))) (n / 4) ⟨by omega, by omega, by decide⟩ dX5_repair_43 ?_
      refine W.eq (g2 := F0 m 44 ls (.int (z2 (X 18 (n / 4))) :: [])) rfl ?_
      refine b_if_le (tgt := 53) hx hb dX5_repair_44 (by decide) ⟨by omega, by omega⟩ (fun c_44 => ?_) (fun c_44 => ?_)
      · skip
        refine lv_aload_n hx hb dX5_repair_53 rfl (lv_at hl 1 rfl) ?_
        refine g_get (C := RX5) (T := TX5) (N := 23) hx hb hts inX5 hown hG hM.1 rfl 18 (by decide) (by decide +kernel) rfl (v := .ref (bm + 17)) rfl dX5_repair_54 ?_
        refine lv_iload_n hx hb dX5_repair_57 rfl (lv_at hl 0 rfl) ?_
        refine lv_aload_n hx hb dX5_repair_58 rfl (lv_at hl 1 rfl) ?_
        have b_59 : 0 ≤ X 0 0 ∧ X 0 0 ≤ 1000000 := hV.1 0 _ (by decide) rfl
        refine g_get (C := RX5) (T := TX5) (N := 23) hx hb hts inX5 hown hG hM.1 rfl 0 (by decide) (by decide +kernel) rfl (v := .int (z2 (X 0 0))) rfl dX5_repair_59 ?_
        refine b_bipush hx hb dX5_repair_62 (by decide +kernel) ?_
        refine b_iadd hx hb dX5_repair_64 ?_
        refine g_iast (n := 2) hx hb hG hS (f := fun i => z2 ((up X 22 0 (0)) 18 i)) (show ca D (bm + 17) (iA (ks 0) 2 (fun i => z2 ((up X 22 0 (0)) 18 i))) _ from hM.2.1 18 (sr_of (by decide))) (Or.inl ⟨by omega, by omega⟩) (n / 4) ⟨by omega, by omega, by decide⟩ dX5_repair_65 (fun H locs he hz oq hS => ?_)
        have hM : PM D ks bm (up (up X 22 0 (0)) 18 (n / 4) ((X 0 0) + 50)) H := hM.row (f := 18) (sr_of (by decide)) he oq
        refine lv_aload_n hx hb dX5_repair_66 rfl (lv_at hl 1 rfl) ?_
        refine g_get (C := RX5) (T := TX5) (N := 23) hx hb hts inX5 hown hG hM.1 rfl 19 (by decide) (by decide +kernel) rfl (v := .ref (bm + 18)) rfl dX5_repair_67 ?_
        refine lv_iload_n hx hb dX5_repair_70 rfl (lv_at hl 0 rfl) ?_
        refine lv_iload_n hx hb dX5_repair_71 rfl (lv_at hl 2 rfl) ?_
        refine g_iast (n := 2) hx hb hG hS (f := fun i => z2 ((up (up X 22 0 (0)) 18 (n / 4) ((X 0 0) + 50)) 19 i)) (show ca D (bm + 18) (iA (ks 0) 2 (fun i => z2 ((up (up X 22 0 (0)) 18 (n / 4) ((X 0 0) + 50)) 19 i))) _ from hM.2.1 19 (sr_of (by decide))) (Or.inl ⟨by omega, by omega⟩) (n / 4) ⟨by omega, by omega, by decide⟩ dX5_repair_72 (fun H locs he hz oq hS => ?_)
        have hM : PM D ks bm (up (up (up X 22 0 (0)) 18 (n / 4) ((X 0 0) + 50)) 19 (n / 4) (((n : Nat) : Int))) H := hM.row (f := 19) (sr_of (by decide)) he oq
        refine lv_aload_n hx hb dX5_repair_73 rfl (lv_at hl 1 rfl) ?_
        refine g_get (C := RX5) (T := TX5) (N := 23) hx hb hts inX5 hown hG hM.1 rfl 18 (by decide) (by decide +kernel) rfl (v := .ref (bm + 17)) rfl dX5_repair_74 ?_
        refine lv_iload_n hx hb dX5_repair_77 rfl (lv_at hl 0 rfl) ?_
        refine g_iald (n := 2) hx hb hG (f := fun i => z2 ((up (up (up X 22 0 (0)) 18 (n / 4) ((X 0 0) + 50)) 19 (n / 4) (((n : Nat) : Int))) 18 i)) (show ca D (bm + 17) (iA (ks 0) 2 (fun i => z2 ((up (up (up X 22 0 (0)) 18 (n / 4) ((X 0 0) + 50)) 19 (n / 4) (((n : Nat) : Int))) 18 i))) _ from hM.2.1 18 (sr_of (by decide))) (n / 4) ⟨by omega, by omega, by decide⟩ dX5_repair_78 ?_
        refine W.eq (g2 := F0 m 79 ls (.int (z2 ((X 0 0) + 50)) :: [])) (congrArg (fun z => F0 m 79 ls (.int (z2 z) :: [])) (by simp [up] : (up (up (up X 22 0 (0)) 18 (n / 4) ((X 0 0) + 50)) 19 (n / 4) (((n : Nat) : Int))) 18 (n / 4) = (X 0 0) + 50)) ?_
        exact g_iret hx hb hr hlocks hS ⟨Nat.le_of_ble_eq_true rfl, Nat.le_of_ble_eq_true rfl⟩ (⟨(X 0 0) + 50, up (up (up X 22 0 (0)) 18 (n / 4) ((X 0 0) + 50)) 19 (n / 4) (((n : Nat) : Int)), Or.inl (⟨n, by omega, rfl, rfl⟩), rfl, hM⟩) dX5_repair_79
      · skip
        refine lv_aload_n hx hb dX5_repair_47 rfl (lv_at hl 1 rfl) ?_
        refine b_iconst hx hb dX5_repair_48 ?_
        refine g_run (vx_runV (As := [.int (z2 (2))]) (rest := []) ⟨hx, hb, hml, hown, hts⟩ (m_fails l D ks bx bm hbm (up X 22 0 (0)) _ hM (vs_uf (hV) (by decide)) (2)) (cwV 1 hts gX5_repair_X5_fails rfl rfl rfl (by decide +kernel) ⟨Nat.le_of_ble_eq_true rfl, Nat.le_of_ble_eq_true rfl⟩) (g_preV (r := (RX5, TX5, 23)) hG hS (rm_ge hbm) hM.1 rfl) rfl rfl hl.1 rfl (lv_room (Nat.le_of_ble_eq_true rfl)) dX5_repair_49 ⟨Nat.le_of_ble_eq_true rfl, Nat.le_of_ble_eq_true rfl⟩) hS (fun _ h => h) (fun _ _ _ _ _ h => h.elim) (fun v H1 locs hp hz9 hk9 hS => ?_)
        obtain ⟨rfl, hM⟩ := hp
        refine W.eq (g2 := F0 m 52 ls [.int (z2 (0))]) rfl ?_
        exact g_iret hx hb hr hlocks hS ⟨Nat.le_of_ble_eq_true rfl, Nat.le_of_ble_eq_true rfl⟩ (⟨0, (up (up X 22 0 (0)) 22 0 (2)), Or.inr (Or.inr (⟨⟨n, by omega⟩, rfl⟩)), rfl, hM⟩) dX5_repair_52
set_option maxHeartbeats 4000000 in
set_option maxRecDepth 100000 in
theorem m_pass (l : Launch) (D : va_G) (ks : Nat → ClassId) (bx : Nat) (bm : Nat) (hbm : bx ≤ bm) (X : Nat → Nat → Int) (H : Heap) (hM : PM D ks bm X H) (hV : VS X) (u : Int) (hu : -2147483648 ≤ u ∧ u < 2147483648) : KM l yX5_pass wsX5_pass ({ frames := 3, cells := 0, slots := 0, locals := 66 } : Room) D ks bx [.ref bm, .int (z2 u)] H (RM bm) (fun v H1 => ∃ (r : Int) (Y : Nat → Nat → Int), ro_pass X u r Y ∧ v = some (.int (z2 r)) ∧ PM D ks bm Y H1) (fun _ _ => False) := by
  refine KM.of (cc := cX5_pass) (maxL := 3) (ret := (some .int)) (by decide) rfl (Nat.le_of_ble_eq_true rfl) ?_
  intro p e s m below meth c hx hb hml hr hlocks hown hname hts hext hH0 hG ls hl
  subst hH0
  have hown : s.vm.findClass RX5 = some m.cls := hown
  have hS : va_S (AR (RM bm) s.heap.size) s.heap s.heap [] := va_S.rf
  have hl : lv_has ls 3 [(0, .ref bm), (1, .int (z2 (u)))] := hl
  have inX5 : ∀ w ∈ wsX50, w ∈ wsX5_pass := by decide +kernel
  have hV0 := hV
  have b0 : 0 ≤ X 0 0 ∧ X 0 0 ≤ 1000000 := hV.1 0 0 (by decide) rfl
  refine lv_aload_n hx hb dX5_pass_0 rfl (lv_at hl 0 rfl) ?_
  refine lv_iload_n hx hb dX5_pass_1 rfl (lv_at hl 1 rfl) ?_
  refine b_iconst hx hb dX5_pass_2 ?_
  refine b_sipush hx hb dX5_pass_3 (by decide +kernel) ?_
  refine g_run (vx_runS (As := [.int (z2 (u)), .int (z2 (1)), .int (z2 (2000))]) (rest := [.ref bm]) ⟨hx, hb, hml, hown, hts⟩ (m_in l D ks bx bm _ (u) (1) (2000) ⟨⟨by omega, by omega⟩, ⟨by omega, by omega⟩, by omega, by omega⟩) (cwS 3 hts gX5_pass_X5_in rfl rfl rfl (by decide +kernel) ⟨Nat.le_of_ble_eq_true rfl, Nat.le_of_ble_eq_true rfl⟩) (g_preS hG hS (rm_ge hbm)) rfl rfl hl.1 rfl (lv_room (Nat.le_of_ble_eq_true rfl)) dX5_pass_6 ⟨Nat.le_of_ble_eq_true rfl, Nat.le_of_ble_eq_true rfl⟩) hS (fun _ h => h) (fun _ _ _ _ _ h => h.elim) (fun v H1 locs hp hz9 hk9 hS => ?_)
  obtain ⟨rfl, hH9⟩ := hp
  obtain rfl := hH9.symm
  obtain ⟨iv_6, ev_6, ib_6⟩ : ∃ z : Int, z = (if 1 ≤ u ∧ u ≤ 2000 then 1 else 0) ∧ (((1 ≤ u ∧ u ≤ 2000) ∧ z = 1) ∨ (¬ (1 ≤ u ∧ u ≤ 2000) ∧ z = 0)) := ⟨_, rfl, by split <;> omega⟩
  rw [← ev_6]
  refine W.eq (g2 := F0 m 9 ls [.int (z2 (iv_6)), .ref bm]) rfl ?_
  refine b_if_ne (tgt := 16) hx hb dX5_pass_9 (by decide) ⟨by omega, by omega⟩ (fun c_9 => ?_) (fun c_9 => ?_)
  · skip
    refine lv_aload_n hx hb dX5_pass_16 rfl (lv_at hl 0 rfl) ?_
    have b_17 : 0 ≤ X 0 0 ∧ X 0 0 ≤ 1000000 := hV.1 0 _ (by decide) rfl
    refine g_get (C := RX5) (T := TX5) (N := 23) hx hb hts inX5 hown hG hM.1 rfl 0 (by decide) (by decide +kernel) rfl (v := .int (z2 (X 0 0))) rfl dX5_pass_17 ?_
    refine lv_iload_n hx hb dX5_pass_20 rfl (lv_at hl 1 rfl) ?_
    refine b_iadd hx hb dX5_pass_21 ?_
    refine lv_ldc (v := z2 1000000) hx hb hown (hts _ (by decide +kernel)) dX5_pass_22 ?_
    refine b_icmp_le (tgt := 31) hx hb dX5_pass_24 (by decide) ⟨⟨by omega, by omega⟩, ⟨by omega, by omega⟩⟩ (fun c_24 => ?_) (fun c_24 => ?_)
    · skip
      refine b_iconst hx hb dX5_pass_31 ?_
      refine g_put (C := RX5) (T := TX5) (N := 23) hx hb hts inX5 tyX5 tyX5_ok nmX5 hown hG hS hM.1 (Or.inl ⟨by omega, by omega⟩) rfl 22 (by decide) (by decide +kernel) rfl rfl (v := .int (z2 (0))) rfl rfl (Nat.le_of_ble_eq_true rfl) dX5_pass_32 (fun H locs he hz oq hS => ?_)
      have hM : PM D ks bm (up X 22 0 (0)) H := hM.own (k := 22) (by decide) he oq
      refine lv_aload_n hx hb dX5_pass_35 rfl (lv_at hl 0 rfl) ?_
      refine g_get (C := RX5) (T := TX5) (N := 23) hx hb hts inX5 hown hG hM.1 rfl 22 (by decide) (by decide +kernel) rfl (v := .int (z2 (0))) (congrArg (fun z => some (Value.int (z2 z))) (by simp [up] : (up X 22 0 (0)) 22 0 = 0)) dX5_pass_36 ?_
      refine b_if_le (tgt := 44) hx hb dX5_pass_39 (by decide) ⟨by omega, by omega⟩ (fun _ => ?_) (fun c => absurd c (by omega))
      refine b_iconst hx hb dX5_pass_44 ?_
      refine lv_istore_n (lv' := [(2, .int (z2 (0))), (0, .ref bm), (1, .int (z2 (u)))]) hx hb dX5_pass_45 rfl hl (by decide) rfl (fun ls hl => ?_)
      refine lp_ms (σ := Nat) (fun j H locs ls => j ≤ u.toNat ∧ PM D ks bm (seN (up X 22 0 (0)) j) H ∧ va_S (AR (RM bm) s.heap.size) s.heap H locs ∧ lv_has ls 3 [(0, .ref bm), (1, .int (z2 (u))), (2, .int (z2 (((j : Nat) : Int))))]) (fun j => u.toNat - j) (fun j H locs ls hI ih => ?_) 0 ⟨by omega, hM, hS, lv_sub hl [1, 2, 0] rfl⟩
      obtain ⟨hkN, hM, hS, hl⟩ := hI
      have t0 := seN_0 (up X 22 0 (0)) j
      have t1 : up X 22 0 (0) 0 0 = X 0 0 := up_f _ _ _ _ (by decide)
      have hV := vs_seN (vs_uf (f := 22) (i := 0) (v := 0) hV0 (by decide)) j (by omega)
      refine lv_iload_n hx hb dX5_pass_46 rfl (lv_at hl 2 rfl) ?_
      refine lv_iload_n hx hb dX5_pass_47 rfl (lv_at hl 1 rfl) ?_
      refine b_icmp_ge (tgt := 61) hx hb dX5_pass_48 (by decide) ⟨⟨by omega, by omega⟩, ⟨by omega, by omega⟩⟩ (fun c_48 => ?_) (fun c_48 => ?_)
      · skip
        refine lv_aload_n hx hb dX5_pass_61 rfl (lv_at hl 0 rfl) ?_
        have b_62 : 0 ≤ ((seN (up X 22 0 (0)) j)) 0 0 ∧ ((seN (up X 22 0 (0)) j)) 0 0 ≤ 1000000 := hV.1 0 _ (by decide) rfl
        refine g_get (C := RX5) (T := TX5) (N := 23) hx hb hts inX5 hown hG hM.1 rfl 0 (by decide) (by decide +kernel) rfl (v := .int (z2 (((seN (up X 22 0 (0)) j)) 0 0))) rfl dX5_pass_62 ?_
        exact g_iret hx hb hr hlocks hS ⟨Nat.le_of_ble_eq_true rfl, Nat.le_of_ble_eq_true rfl⟩ (⟨((seN (up X 22 0 (0)) j)) 0 0, (seN (up X 22 0 (0)) j), Or.inl (⟨j, by omega, rfl, rfl⟩), rfl, hM⟩) dX5_pass_65
      · skip
        refine lv_aload_n hx hb dX5_pass_51 rfl (lv_at hl 0 rfl) ?_
        refine g_run (vx_runV (As := []) (rest := []) ⟨hx, hb, hml, hown, hts⟩ (m_second l D ks bx bm hbm (seN (up X 22 0 (0)) j) _ hM hV (by omega)) (cwV 0 hts gX5_pass_X5_second rfl rfl rfl (by decide +kernel) ⟨Nat.le_of_ble_eq_true rfl, Nat.le_of_ble_eq_true rfl⟩) (g_preV (r := (RX5, TX5, 23)) hG hS (rm_ge hbm) hM.1 rfl) rfl rfl hl.1 rfl (lv_room (Nat.le_of_ble_eq_true rfl)) dX5_pass_52 ⟨Nat.le_of_ble_eq_true rfl, Nat.le_of_ble_eq_true rfl⟩) hS (fun _ h => h) (fun _ _ _ _ _ h => h.elim) (fun v H1 locs hp hz9 hk9 hS => ?_)
        obtain ⟨rfl, hM⟩ := hp
        refine W.eq (g2 := F0 m 55 ls []) rfl ?_
        refine b_iinc (lv' := [(2, .int (z2 (((j : Nat) : Int) + 1))), (0, .ref bm), (1, .int (z2 (u)))]) hx hb dX5_pass_55 hl (k := 2) rfl (by decide) rfl (fun ls hl => ?_)
        refine lv_goto (tgt := 46) hx hb dX5_pass_58 (by decide) ?_
        exact ih (j + 1) _ _ _ (by omega) ⟨by omega, hM, hS, lv_sub hl [1, 2, 0] rfl⟩
    · skip
      refine b_iconst hx hb dX5_pass_27 ?_
      refine lv_goto (tgt := 32) hx hb dX5_pass_28 (by decide) ?_
      refine g_put (C := RX5) (T := TX5) (N := 23) hx hb hts inX5 tyX5 tyX5_ok nmX5 hown hG hS hM.1 (Or.inl ⟨by omega, by omega⟩) rfl 22 (by decide) (by decide +kernel) rfl rfl (v := .int (z2 (2))) rfl rfl (Nat.le_of_ble_eq_true rfl) dX5_pass_32 (fun H locs he hz oq hS => ?_)
      have hM : PM D ks bm (up X 22 0 (2)) H := hM.own (k := 22) (by decide) he oq
      refine lv_aload_n hx hb dX5_pass_35 rfl (lv_at hl 0 rfl) ?_
      refine g_get (C := RX5) (T := TX5) (N := 23) hx hb hts inX5 hown hG hM.1 rfl 22 (by decide) (by decide +kernel) rfl (v := .int (z2 (2))) (congrArg (fun z => some (Value.int (z2 z))) (by simp [up] : (up X 22 0 (2)) 22 0 = 2)) dX5_pass_36 ?_
      refine b_if_le (tgt := 44) hx hb dX5_pass_39 (by decide) ⟨by omega, by omega⟩ (fun c => absurd c (by omega)) (fun _ => ?_)
      refine b_iconst hx hb dX5_pass_42 ?_
      exact g_iret hx hb hr hlocks hS ⟨Nat.le_of_ble_eq_true rfl, Nat.le_of_ble_eq_true rfl⟩ (⟨0, up X 22 0 (2), Or.inr (Or.inr (⟨by omega, rfl⟩)), rfl, hM⟩) dX5_pass_43
  · skip
    refine b_iconst hx hb dX5_pass_12 ?_
    refine lv_goto (tgt := 32) hx hb dX5_pass_13 (by decide) ?_
    refine g_put (C := RX5) (T := TX5) (N := 23) hx hb hts inX5 tyX5 tyX5_ok nmX5 hown hG hS hM.1 (Or.inl ⟨by omega, by omega⟩) rfl 22 (by decide) (by decide +kernel) rfl rfl (v := .int (z2 (1))) rfl rfl (Nat.le_of_ble_eq_true rfl) dX5_pass_32 (fun H locs he hz oq hS => ?_)
    have hM : PM D ks bm (up X 22 0 (1)) H := hM.own (k := 22) (by decide) he oq
    refine lv_aload_n hx hb dX5_pass_35 rfl (lv_at hl 0 rfl) ?_
    refine g_get (C := RX5) (T := TX5) (N := 23) hx hb hts inX5 hown hG hM.1 rfl 22 (by decide) (by decide +kernel) rfl (v := .int (z2 (1))) (congrArg (fun z => some (Value.int (z2 z))) (by simp [up] : (up X 22 0 (1)) 22 0 = 1)) dX5_pass_36 ?_
    refine b_if_le (tgt := 44) hx hb dX5_pass_39 (by decide) ⟨by omega, by omega⟩ (fun c => absurd c (by omega)) (fun _ => ?_)
    refine b_iconst hx hb dX5_pass_42 ?_
    exact g_iret hx hb hr hlocks hS ⟨Nat.le_of_ble_eq_true rfl, Nat.le_of_ble_eq_true rfl⟩ (⟨0, up X 22 0 (1), Or.inr (Or.inl (⟨by omega, rfl⟩)), rfl, hM⟩) dX5_pass_43
set_option maxHeartbeats 4000000 in
set_option maxRecDepth 100000 in
theorem m_time (l : Launch) (D : va_G) (ks : Nat → ClassId) (bx : Nat) (bm : Nat) (hbm : bx ≤ bm) (X : Nat → Nat → Int) (H : Heap) (hM : PM D ks bm X H) (hV : VS X) : KM l yX5_time wsX5_time ({ frames := 0, cells := 0, slots := 0, locals := 0 } : Room) D ks bx [.ref bm] H (RM bm) (fun v H1 => v = some (.int (z2 (X 0 0))) ∧ PM D ks bm (up X 22 0 0) H1) (fun _ _ => False) := by
  refine KM.of (cc := cX5_time) (maxL := 1) (ret := (some .int)) (by decide) rfl (Nat.le_of_ble_eq_true rfl) ?_
  intro p e s m below meth c hx hb hml hr hlocks hown hname hts hext hH0 hG ls hl
  subst hH0
  have hown : s.vm.findClass RX5 = some m.cls := hown
  have hS : va_S (AR (RM bm) s.heap.size) s.heap s.heap [] := va_S.rf
  have hl : lv_has ls 1 [(0, .ref bm)] := hl
  have inX5 : ∀ w ∈ wsX50, w ∈ wsX5_time := by decide +kernel
  refine lv_aload_n hx hb dX5_time_0 rfl (lv_at hl 0 rfl) ?_
  refine b_iconst hx hb dX5_time_1 ?_
  refine g_put (C := RX5) (T := TX5) (N := 23) hx hb hts inX5 tyX5 tyX5_ok nmX5 hown hG hS hM.1 (Or.inl ⟨by omega, by omega⟩) rfl 22 (by decide) (by decide +kernel) rfl rfl (v := .int (z2 (0))) rfl rfl (Nat.le_of_ble_eq_true rfl) dX5_time_2 (fun H locs he hz oq hS => ?_)
  have hM : PM D ks bm (up X 22 0 (0)) H := hM.own (k := 22) (by decide) he oq
  refine lv_aload_n hx hb dX5_time_5 rfl (lv_at hl 0 rfl) ?_
  have b_6 : 0 ≤ X 0 0 ∧ X 0 0 ≤ 1000000 := hV.1 0 _ (by decide) rfl
  refine g_get (C := RX5) (T := TX5) (N := 23) hx hb hts inX5 hown hG hM.1 rfl 0 (by decide) (by decide +kernel) rfl (v := .int (z2 (X 0 0))) rfl dX5_time_6 ?_
  exact g_iret hx hb hr hlocks hS ⟨Nat.le_of_ble_eq_true rfl, Nat.le_of_ble_eq_true rfl⟩ (⟨rfl, hM⟩) dX5_time_9
set_option maxHeartbeats 4000000 in
set_option maxRecDepth 100000 in
theorem m_faults (l : Launch) (D : va_G) (ks : Nat → ClassId) (bx : Nat) (bm : Nat) (hbm : bx ≤ bm) (X : Nat → Nat → Int) (H : Heap) (hM : PM D ks bm X H) (hV : VS X) : KM l yX5_faults wsX5_faults ({ frames := 0, cells := 0, slots := 0, locals := 0 } : Room) D ks bx [.ref bm] H (RM bm) (fun v H1 => v = some (.int (z2 (X 20 0))) ∧ PM D ks bm (up X 22 0 0) H1) (fun _ _ => False) := by
  refine KM.of (cc := cX5_faults) (maxL := 1) (ret := (some .int)) (by decide) rfl (Nat.le_of_ble_eq_true rfl) ?_
  intro p e s m below meth c hx hb hml hr hlocks hown hname hts hext hH0 hG ls hl
  subst hH0
  have hown : s.vm.findClass RX5 = some m.cls := hown
  have hS : va_S (AR (RM bm) s.heap.size) s.heap s.heap [] := va_S.rf
  have hl : lv_has ls 1 [(0, .ref bm)] := hl
  have inX5 : ∀ w ∈ wsX50, w ∈ wsX5_faults := by decide +kernel
  refine lv_aload_n hx hb dX5_faults_0 rfl (lv_at hl 0 rfl) ?_
  refine b_iconst hx hb dX5_faults_1 ?_
  refine g_put (C := RX5) (T := TX5) (N := 23) hx hb hts inX5 tyX5 tyX5_ok nmX5 hown hG hS hM.1 (Or.inl ⟨by omega, by omega⟩) rfl 22 (by decide) (by decide +kernel) rfl rfl (v := .int (z2 (0))) rfl rfl (Nat.le_of_ble_eq_true rfl) dX5_faults_2 (fun H locs he hz oq hS => ?_)
  have hM : PM D ks bm (up X 22 0 (0)) H := hM.own (k := 22) (by decide) he oq
  refine lv_aload_n hx hb dX5_faults_5 rfl (lv_at hl 0 rfl) ?_
  have b_6 : 0 ≤ X 20 0 ∧ X 20 0 ≤ 100 := hV.1 20 _ (by decide) rfl
  refine g_get (C := RX5) (T := TX5) (N := 23) hx hb hts inX5 hown hG hM.1 rfl 20 (by decide) (by decide +kernel) rfl (v := .int (z2 (X 20 0))) rfl dX5_faults_6 ?_
  exact g_iret hx hb hr hlocks hS ⟨Nat.le_of_ble_eq_true rfl, Nat.le_of_ble_eq_true rfl⟩ (⟨rfl, hM⟩) dX5_faults_9
set_option maxHeartbeats 4000000 in
set_option maxRecDepth 100000 in
theorem m_points (l : Launch) (D : va_G) (ks : Nat → ClassId) (bx : Nat) (bm : Nat) (hbm : bx ≤ bm) (X : Nat → Nat → Int) (H : Heap) (hM : PM D ks bm X H) (hV : VS X) (u : Int) (hu : -2147483648 ≤ u ∧ u < 2147483648) : KM l yX5_points wsX5_points ({ frames := 3, cells := 0, slots := 0, locals := 63 } : Room) D ks bx [.ref bm, .int (z2 u)] H (RM bm) (fun v H1 => ∃ (r : Int) (Y : Nat → Nat → Int), ro_points X u r Y ∧ v = some (.int (z2 r)) ∧ PM D ks bm Y H1) (fun _ _ => False) := by
  refine KM.of (cc := cX5_points) (maxL := 2) (ret := (some .int)) (by decide) rfl (Nat.le_of_ble_eq_true rfl) ?_
  intro p e s m below meth c hx hb hml hr hlocks hown hname hts hext hH0 hG ls hl
  subst hH0
  have hown : s.vm.findClass RX5 = some m.cls := hown
  have hS : va_S (AR (RM bm) s.heap.size) s.heap s.heap [] := va_S.rf
  have hl : lv_has ls 2 [(0, .ref bm), (1, .int (z2 (u)))] := hl
  have inX5 : ∀ w ∈ wsX50, w ∈ wsX5_points := by decide +kernel
  refine lv_aload_n hx hb dX5_points_0 rfl (lv_at hl 0 rfl) ?_
  refine lv_iload_n hx hb dX5_points_1 rfl (lv_at hl 1 rfl) ?_
  refine g_run (vx_runV (As := [.int (z2 (u))]) (rest := []) ⟨hx, hb, hml, hown, hts⟩ (m_isSeen l D ks bx bm hbm X _ hM hV (u) (by omega)) (cwV 1 hts gX5_points_X5_isSeen rfl rfl rfl (by decide +kernel) ⟨Nat.le_of_ble_eq_true rfl, Nat.le_of_ble_eq_true rfl⟩) (g_preV (r := (RX5, TX5, 23)) hG hS (rm_ge hbm) hM.1 rfl) rfl rfl hl.1 rfl (lv_room (Nat.le_of_ble_eq_true rfl)) dX5_points_2 ⟨Nat.le_of_ble_eq_true rfl, Nat.le_of_ble_eq_true rfl⟩) hS (fun _ h => h) (fun _ _ _ _ _ h => h.elim) (fun v H1 locs hp hz9 hk9 hS => ?_)
  rcases hp with ⟨q9, rfl, hM⟩ | ⟨q9, rfl, hM⟩
  · skip
    refine W.eq (g2 := F0 m 5 ls [.int (z2 (1))]) rfl ?_
    refine b_if_eq (tgt := 17) hx hb dX5_points_5 (by decide) ⟨by omega, by omega⟩ (fun c => absurd c (by omega)) (fun _ => ?_)
    obtain ⟨n, rfl⟩ : ∃ n : Nat, u = n := ⟨(u).toNat, by omega⟩
    refine lv_aload_n hx hb dX5_points_8 rfl (lv_at hl 0 rfl) ?_
    refine g_get (C := RX5) (T := TX5) (N := 23) hx hb hts inX5 hown hG hM.1 rfl 12 (by decide) (by decide +kernel) rfl (v := .ref (bm + 11)) rfl dX5_points_9 ?_
    refine lv_iload_n hx hb dX5_points_12 rfl (lv_at hl 1 rfl) ?_
    refine g_iald (n := 8) hx hb hG (f := fun i => z2 ((up X 22 0 (0)) 12 i)) (show ca D (bm + 11) (iA (ks 0) 8 (fun i => z2 ((up X 22 0 (0)) 12 i))) _ from hM.2.1 12 (sr_of (by decide))) n ⟨by omega, by omega, by decide⟩ dX5_points_13 ?_
    refine W.eq (g2 := F0 m 14 ls (.int (z2 (X 12 n)) :: [])) rfl ?_
    refine lv_goto (tgt := 18) hx hb dX5_points_14 (by decide) ?_
    exact g_iret hx hb hr hlocks hS ⟨Nat.le_of_ble_eq_true rfl, Nat.le_of_ble_eq_true rfl⟩ (⟨X 12 n, (up X 22 0 (0)), Or.inl (⟨n, by omega, rfl, rfl⟩), rfl, hM⟩) dX5_points_18
  · skip
    refine W.eq (g2 := F0 m 5 ls [.int (z2 (0))]) rfl ?_
    refine b_if_eq (tgt := 17) hx hb dX5_points_5 (by decide) ⟨by omega, by omega⟩ (fun _ => ?_) (fun c => absurd c (by omega))
    refine b_iconst hx hb dX5_points_17 ?_
    exact g_iret hx hb hr hlocks hS ⟨Nat.le_of_ble_eq_true rfl, Nat.le_of_ble_eq_true rfl⟩ (⟨0, (up X 22 0 (1)), Or.inr (⟨by omega, rfl⟩), rfl, hM⟩) dX5_points_18
set_option maxHeartbeats 4000000 in
set_option maxRecDepth 100000 in
theorem m_secondsRung (l : Launch) (D : va_G) (ks : Nat → ClassId) (bx : Nat) (bm : Nat) (hbm : bx ≤ bm) (X : Nat → Nat → Int) (H : Heap) (hM : PM D ks bm X H) (hV : VS X) (u : Int) (hu : -2147483648 ≤ u ∧ u < 2147483648) : KM l yX5_secondsRung wsX5_secondsRung ({ frames := 3, cells := 0, slots := 0, locals := 63 } : Room) D ks bx [.ref bm, .int (z2 u)] H (RM bm) (fun v H1 => ∃ (r : Int) (Y : Nat → Nat → Int), ro_secondsRung X u r Y ∧ v = some (.int (z2 r)) ∧ PM D ks bm Y H1) (fun _ _ => False) := by
  refine KM.of (cc := cX5_secondsRung) (maxL := 2) (ret := (some .int)) (by decide) rfl (Nat.le_of_ble_eq_true rfl) ?_
  intro p e s m below meth c hx hb hml hr hlocks hown hname hts hext hH0 hG ls hl
  subst hH0
  have hown : s.vm.findClass RX5 = some m.cls := hown
  have hS : va_S (AR (RM bm) s.heap.size) s.heap s.heap [] := va_S.rf
  have hl : lv_has ls 2 [(0, .ref bm), (1, .int (z2 (u)))] := hl
  have inX5 : ∀ w ∈ wsX50, w ∈ wsX5_secondsRung := by decide +kernel
  refine lv_aload_n hx hb dX5_secondsRung_0 rfl (lv_at hl 0 rfl) ?_
  refine lv_iload_n hx hb dX5_secondsRung_1 rfl (lv_at hl 1 rfl) ?_
  refine g_run (vx_runV (As := [.int (z2 (u))]) (rest := []) ⟨hx, hb, hml, hown, hts⟩ (m_isSeen l D ks bx bm hbm X _ hM hV (u) (by omega)) (cwV 1 hts gX5_secondsRung_X5_isSeen rfl rfl rfl (by decide +kernel) ⟨Nat.le_of_ble_eq_true rfl, Nat.le_of_ble_eq_true rfl⟩) (g_preV (r := (RX5, TX5, 23)) hG hS (rm_ge hbm) hM.1 rfl) rfl rfl hl.1 rfl (lv_room (Nat.le_of_ble_eq_true rfl)) dX5_secondsRung_2 ⟨Nat.le_of_ble_eq_true rfl, Nat.le_of_ble_eq_true rfl⟩) hS (fun _ h => h) (fun _ _ _ _ _ h => h.elim) (fun v H1 locs hp hz9 hk9 hS => ?_)
  rcases hp with ⟨q9, rfl, hM⟩ | ⟨q9, rfl, hM⟩
  · skip
    refine W.eq (g2 := F0 m 5 ls [.int (z2 (1))]) rfl ?_
    refine b_if_eq (tgt := 17) hx hb dX5_secondsRung_5 (by decide) ⟨by omega, by omega⟩ (fun c => absurd c (by omega)) (fun _ => ?_)
    obtain ⟨n, rfl⟩ : ∃ n : Nat, u = n := ⟨(u).toNat, by omega⟩
    refine lv_aload_n hx hb dX5_secondsRung_8 rfl (lv_at hl 0 rfl) ?_
    refine g_get (C := RX5) (T := TX5) (N := 23) hx hb hts inX5 hown hG hM.1 rfl 13 (by decide) (by decide +kernel) rfl (v := .ref (bm + 12)) rfl dX5_secondsRung_9 ?_
    refine lv_iload_n hx hb dX5_secondsRung_12 rfl (lv_at hl 1 rfl) ?_
    refine g_iald (n := 8) hx hb hG (f := fun i => z2 ((up X 22 0 (0)) 13 i)) (show ca D (bm + 12) (iA (ks 0) 8 (fun i => z2 ((up X 22 0 (0)) 13 i))) _ from hM.2.1 13 (sr_of (by decide))) n ⟨by omega, by omega, by decide⟩ dX5_secondsRung_13 ?_
    refine W.eq (g2 := F0 m 14 ls (.int (z2 (X 13 n)) :: [])) rfl ?_
    refine lv_goto (tgt := 18) hx hb dX5_secondsRung_14 (by decide) ?_
    exact g_iret hx hb hr hlocks hS ⟨Nat.le_of_ble_eq_true rfl, Nat.le_of_ble_eq_true rfl⟩ (⟨X 13 n, (up X 22 0 (0)), Or.inl (⟨n, by omega, rfl, rfl⟩), rfl, hM⟩) dX5_secondsRung_18
  · skip
    refine W.eq (g2 := F0 m 5 ls [.int (z2 (0))]) rfl ?_
    refine b_if_eq (tgt := 17) hx hb dX5_secondsRung_5 (by decide) ⟨by omega, by omega⟩ (fun _ => ?_) (fun c => absurd c (by omega))
    refine b_iconst hx hb dX5_secondsRung_17 ?_
    exact g_iret hx hb hr hlocks hS ⟨Nat.le_of_ble_eq_true rfl, Nat.le_of_ble_eq_true rfl⟩ (⟨0, (up X 22 0 (1)), Or.inr (⟨by omega, rfl⟩), rfl, hM⟩) dX5_secondsRung_18
set_option maxHeartbeats 4000000 in
set_option maxRecDepth 100000 in
theorem m_quietBroken (l : Launch) (D : va_G) (ks : Nat → ClassId) (bx : Nat) (bm : Nat) (hbm : bx ≤ bm) (X : Nat → Nat → Int) (H : Heap) (hM : PM D ks bm X H) (hV : VS X) (u : Int) (hu : -2147483648 ≤ u ∧ u < 2147483648) : KM l yX5_quietBroken wsX5_quietBroken ({ frames := 3, cells := 0, slots := 0, locals := 63 } : Room) D ks bx [.ref bm, .int (z2 u)] H (RM bm) (fun v H1 => ∃ (r : Int) (Y : Nat → Nat → Int), ro_quietBroken X u r Y ∧ v = some (.int (z2 r)) ∧ PM D ks bm Y H1) (fun _ _ => False) := by
  refine KM.of (cc := cX5_quietBroken) (maxL := 2) (ret := (some .int)) (by decide) rfl (Nat.le_of_ble_eq_true rfl) ?_
  intro p e s m below meth c hx hb hml hr hlocks hown hname hts hext hH0 hG ls hl
  subst hH0
  have hown : s.vm.findClass RX5 = some m.cls := hown
  have hS : va_S (AR (RM bm) s.heap.size) s.heap s.heap [] := va_S.rf
  have hl : lv_has ls 2 [(0, .ref bm), (1, .int (z2 (u)))] := hl
  have inX5 : ∀ w ∈ wsX50, w ∈ wsX5_quietBroken := by decide +kernel
  refine lv_aload_n hx hb dX5_quietBroken_0 rfl (lv_at hl 0 rfl) ?_
  refine lv_iload_n hx hb dX5_quietBroken_1 rfl (lv_at hl 1 rfl) ?_
  refine g_run (vx_runV (As := [.int (z2 (u))]) (rest := []) ⟨hx, hb, hml, hown, hts⟩ (m_isSeen l D ks bx bm hbm X _ hM hV (u) (by omega)) (cwV 1 hts gX5_quietBroken_X5_isSeen rfl rfl rfl (by decide +kernel) ⟨Nat.le_of_ble_eq_true rfl, Nat.le_of_ble_eq_true rfl⟩) (g_preV (r := (RX5, TX5, 23)) hG hS (rm_ge hbm) hM.1 rfl) rfl rfl hl.1 rfl (lv_room (Nat.le_of_ble_eq_true rfl)) dX5_quietBroken_2 ⟨Nat.le_of_ble_eq_true rfl, Nat.le_of_ble_eq_true rfl⟩) hS (fun _ h => h) (fun _ _ _ _ _ h => h.elim) (fun v H1 locs hp hz9 hk9 hS => ?_)
  rcases hp with ⟨q9, rfl, hM⟩ | ⟨q9, rfl, hM⟩
  · skip
    refine W.eq (g2 := F0 m 5 ls [.int (z2 (1))]) rfl ?_
    refine b_if_eq (tgt := 17) hx hb dX5_quietBroken_5 (by decide) ⟨by omega, by omega⟩ (fun c => absurd c (by omega)) (fun _ => ?_)
    obtain ⟨n, rfl⟩ : ∃ n : Nat, u = n := ⟨(u).toNat, by omega⟩
    refine lv_aload_n hx hb dX5_quietBroken_8 rfl (lv_at hl 0 rfl) ?_
    refine g_get (C := RX5) (T := TX5) (N := 23) hx hb hts inX5 hown hG hM.1 rfl 14 (by decide) (by decide +kernel) rfl (v := .ref (bm + 13)) rfl dX5_quietBroken_9 ?_
    refine lv_iload_n hx hb dX5_quietBroken_12 rfl (lv_at hl 1 rfl) ?_
    refine g_iald (n := 8) hx hb hG (f := fun i => z2 ((up X 22 0 (0)) 14 i)) (show ca D (bm + 13) (iA (ks 0) 8 (fun i => z2 ((up X 22 0 (0)) 14 i))) _ from hM.2.1 14 (sr_of (by decide))) n ⟨by omega, by omega, by decide⟩ dX5_quietBroken_13 ?_
    refine W.eq (g2 := F0 m 14 ls (.int (z2 (X 14 n)) :: [])) rfl ?_
    refine lv_goto (tgt := 18) hx hb dX5_quietBroken_14 (by decide) ?_
    exact g_iret hx hb hr hlocks hS ⟨Nat.le_of_ble_eq_true rfl, Nat.le_of_ble_eq_true rfl⟩ (⟨X 14 n, (up X 22 0 (0)), Or.inl (⟨n, by omega, rfl, rfl⟩), rfl, hM⟩) dX5_quietBroken_18
  · skip
    refine W.eq (g2 := F0 m 5 ls [.int (z2 (0))]) rfl ?_
    refine b_if_eq (tgt := 17) hx hb dX5_quietBroken_5 (by decide) ⟨by omega, by omega⟩ (fun _ => ?_) (fun c => absurd c (by omega))
    refine b_iconst hx hb dX5_quietBroken_17 ?_
    exact g_iret hx hb hr hlocks hS ⟨Nat.le_of_ble_eq_true rfl, Nat.le_of_ble_eq_true rfl⟩ (⟨0, (up X 22 0 (1)), Or.inr (⟨by omega, rfl⟩), rfl, hM⟩) dX5_quietBroken_18
set_option maxHeartbeats 4000000 in
set_option maxRecDepth 100000 in
theorem m_hushed (l : Launch) (D : va_G) (ks : Nat → ClassId) (bx : Nat) (bm : Nat) (hbm : bx ≤ bm) (X : Nat → Nat → Int) (H : Heap) (hM : PM D ks bm X H) (hV : VS X) (u : Int) (hu : -2147483648 ≤ u ∧ u < 2147483648) : KM l yX5_hushed wsX5_hushed ({ frames := 3, cells := 0, slots := 0, locals := 63 } : Room) D ks bx [.ref bm, .int (z2 u)] H (RM bm) (fun v H1 => ∃ (r : Int) (Y : Nat → Nat → Int), ro_hushed X u r Y ∧ v = some (.int (z2 r)) ∧ PM D ks bm Y H1) (fun _ _ => False) := by
  refine KM.of (cc := cX5_hushed) (maxL := 2) (ret := (some .int)) (by decide) rfl (Nat.le_of_ble_eq_true rfl) ?_
  intro p e s m below meth c hx hb hml hr hlocks hown hname hts hext hH0 hG ls hl
  subst hH0
  have hown : s.vm.findClass RX5 = some m.cls := hown
  have hS : va_S (AR (RM bm) s.heap.size) s.heap s.heap [] := va_S.rf
  have hl : lv_has ls 2 [(0, .ref bm), (1, .int (z2 (u)))] := hl
  have inX5 : ∀ w ∈ wsX50, w ∈ wsX5_hushed := by decide +kernel
  refine lv_aload_n hx hb dX5_hushed_0 rfl (lv_at hl 0 rfl) ?_
  refine lv_iload_n hx hb dX5_hushed_1 rfl (lv_at hl 1 rfl) ?_
  refine g_run (vx_runV (As := [.int (z2 (u))]) (rest := []) ⟨hx, hb, hml, hown, hts⟩ (m_isSeen l D ks bx bm hbm X _ hM hV (u) (by omega)) (cwV 1 hts gX5_hushed_X5_isSeen rfl rfl rfl (by decide +kernel) ⟨Nat.le_of_ble_eq_true rfl, Nat.le_of_ble_eq_true rfl⟩) (g_preV (r := (RX5, TX5, 23)) hG hS (rm_ge hbm) hM.1 rfl) rfl rfl hl.1 rfl (lv_room (Nat.le_of_ble_eq_true rfl)) dX5_hushed_2 ⟨Nat.le_of_ble_eq_true rfl, Nat.le_of_ble_eq_true rfl⟩) hS (fun _ h => h) (fun _ _ _ _ _ h => h.elim) (fun v H1 locs hp hz9 hk9 hS => ?_)
  rcases hp with ⟨q9, rfl, hM⟩ | ⟨q9, rfl, hM⟩
  · skip
    refine W.eq (g2 := F0 m 5 ls [.int (z2 (1))]) rfl ?_
    refine b_if_eq (tgt := 17) hx hb dX5_hushed_5 (by decide) ⟨by omega, by omega⟩ (fun c => absurd c (by omega)) (fun _ => ?_)
    obtain ⟨n, rfl⟩ : ∃ n : Nat, u = n := ⟨(u).toNat, by omega⟩
    refine lv_aload_n hx hb dX5_hushed_8 rfl (lv_at hl 0 rfl) ?_
    refine g_get (C := RX5) (T := TX5) (N := 23) hx hb hts inX5 hown hG hM.1 rfl 15 (by decide) (by decide +kernel) rfl (v := .ref (bm + 14)) rfl dX5_hushed_9 ?_
    refine lv_iload_n hx hb dX5_hushed_12 rfl (lv_at hl 1 rfl) ?_
    refine g_iald (n := 8) hx hb hG (f := fun i => z2 ((up X 22 0 (0)) 15 i)) (show ca D (bm + 14) (iA (ks 0) 8 (fun i => z2 ((up X 22 0 (0)) 15 i))) _ from hM.2.1 15 (sr_of (by decide))) n ⟨by omega, by omega, by decide⟩ dX5_hushed_13 ?_
    refine W.eq (g2 := F0 m 14 ls (.int (z2 (X 15 n)) :: [])) rfl ?_
    refine lv_goto (tgt := 18) hx hb dX5_hushed_14 (by decide) ?_
    exact g_iret hx hb hr hlocks hS ⟨Nat.le_of_ble_eq_true rfl, Nat.le_of_ble_eq_true rfl⟩ (⟨X 15 n, (up X 22 0 (0)), Or.inl (⟨n, by omega, rfl, rfl⟩), rfl, hM⟩) dX5_hushed_18
  · skip
    refine W.eq (g2 := F0 m 5 ls [.int (z2 (0))]) rfl ?_
    refine b_if_eq (tgt := 17) hx hb dX5_hushed_5 (by decide) ⟨by omega, by omega⟩ (fun _ => ?_) (fun c => absurd c (by omega))
    refine b_iconst hx hb dX5_hushed_17 ?_
    exact g_iret hx hb hr hlocks hS ⟨Nat.le_of_ble_eq_true rfl, Nat.le_of_ble_eq_true rfl⟩ (⟨0, (up X 22 0 (1)), Or.inr (⟨by omega, rfl⟩), rfl, hM⟩) dX5_hushed_18
set_option maxHeartbeats 4000000 in
set_option maxRecDepth 100000 in
theorem m_isSound (l : Launch) (D : va_G) (ks : Nat → ClassId) (bx : Nat) (bm : Nat) (hbm : bx ≤ bm) (X : Nat → Nat → Int) (H : Heap) (hM : PM D ks bm X H) (hV : VS X) (u : Int) (hu : -2147483648 ≤ u ∧ u < 2147483648) : KM l yX5_isSound wsX5_isSound ({ frames := 3, cells := 0, slots := 0, locals := 63 } : Room) D ks bx [.ref bm, .int (z2 u)] H (RM bm) (fun v H1 => ∃ (r : Int) (Y : Nat → Nat → Int), ro_isSound X u r Y ∧ v = some (.int (z2 r)) ∧ PM D ks bm Y H1) (fun _ _ => False) := by
  refine KM.of (cc := cX5_isSound) (maxL := 2) (ret := (some .boolean)) (by decide) rfl (Nat.le_of_ble_eq_true rfl) ?_
  intro p e s m below meth c hx hb hml hr hlocks hown hname hts hext hH0 hG ls hl
  subst hH0
  have hown : s.vm.findClass RX5 = some m.cls := hown
  have hS : va_S (AR (RM bm) s.heap.size) s.heap s.heap [] := va_S.rf
  have hl : lv_has ls 2 [(0, .ref bm), (1, .int (z2 (u)))] := hl
  have inX5 : ∀ w ∈ wsX50, w ∈ wsX5_isSound := by decide +kernel
  refine lv_aload_n hx hb dX5_isSound_0 rfl (lv_at hl 0 rfl) ?_
  refine lv_iload_n hx hb dX5_isSound_1 rfl (lv_at hl 1 rfl) ?_
  refine g_run (vx_runV (As := [.int (z2 (u))]) (rest := []) ⟨hx, hb, hml, hown, hts⟩ (m_isSeen l D ks bx bm hbm X _ hM hV (u) (by omega)) (cwV 1 hts gX5_isSound_X5_isSeen rfl rfl rfl (by decide +kernel) ⟨Nat.le_of_ble_eq_true rfl, Nat.le_of_ble_eq_true rfl⟩) (g_preV (r := (RX5, TX5, 23)) hG hS (rm_ge hbm) hM.1 rfl) rfl rfl hl.1 rfl (lv_room (Nat.le_of_ble_eq_true rfl)) dX5_isSound_2 ⟨Nat.le_of_ble_eq_true rfl, Nat.le_of_ble_eq_true rfl⟩) hS (fun _ h => h) (fun _ _ _ _ _ h => h.elim) (fun v H1 locs hp hz9 hk9 hS => ?_)
  rcases hp with ⟨q9, rfl, hM⟩ | ⟨q9, rfl, hM⟩
  · skip
    refine W.eq (g2 := F0 m 5 ls [.int (z2 (1))]) rfl ?_
    refine b_if_eq (tgt := 21) hx hb dX5_isSound_5 (by decide) ⟨by omega, by omega⟩ (fun c => absurd c (by omega)) (fun _ => ?_)
    obtain ⟨n, rfl⟩ : ∃ n : Nat, u = n := ⟨(u).toNat, by omega⟩
    refine lv_aload_n hx hb dX5_isSound_8 rfl (lv_at hl 0 rfl) ?_
    refine g_get (C := RX5) (T := TX5) (N := 23) hx hb hts inX5 hown hG hM.1 rfl 11 (by decide) (by decide +kernel) rfl (v := .ref (bm + 10)) rfl dX5_isSound_9 ?_
    refine lv_iload_n hx hb dX5_isSound_12 rfl (lv_at hl 1 rfl) ?_
    have b_13 : 0 ≤ X 11 n ∧ X 11 n ≤ 1 := hV.1 11 _ (by decide) rfl
    refine g_iald (n := 8) hx hb hG (f := fun i => z2 ((up X 22 0 (0)) 11 i)) (show ca D (bm + 10) (iA (ks 0) 8 (fun i => z2 ((up X 22 0 (0)) 11 i))) _ from hM.2.1 11 (sr_of (by decide))) n ⟨by omega, by omega, by decide⟩ dX5_isSound_13 ?_
    refine W.eq (g2 := F0 m 14 ls (.int (z2 (X 11 n)) :: [])) rfl ?_
    refine b_if_ne (tgt := 21) hx hb dX5_isSound_14 (by decide) ⟨by omega, by omega⟩ (fun c_14 => ?_) (fun c_14 => ?_)
    · skip
      refine b_iconst hx hb dX5_isSound_21 ?_
      exact g_zret hx hb hr hlocks hS (by decide +kernel) ⟨Nat.le_of_ble_eq_true rfl, Nat.le_of_ble_eq_true rfl⟩ (⟨0, (up X 22 0 (0)), Or.inl (⟨n, by omega, by first | rw [if_pos (by omega)] | rw [if_neg (by omega)], rfl⟩), rfl, hM⟩) dX5_isSound_22
    · skip
      refine b_iconst hx hb dX5_isSound_17 ?_
      refine lv_goto (tgt := 22) hx hb dX5_isSound_18 (by decide) ?_
      exact g_zret hx hb hr hlocks hS (by decide +kernel) ⟨Nat.le_of_ble_eq_true rfl, Nat.le_of_ble_eq_true rfl⟩ (⟨1, (up X 22 0 (0)), Or.inl (⟨n, by omega, by first | rw [if_pos (by omega)] | rw [if_neg (by omega)], rfl⟩), rfl, hM⟩) dX5_isSound_22
  · skip
    refine W.eq (g2 := F0 m 5 ls [.int (z2 (0))]) rfl ?_
    refine b_if_eq (tgt := 21) hx hb dX5_isSound_5 (by decide) ⟨by omega, by omega⟩ (fun _ => ?_) (fun c => absurd c (by omega))
    refine b_iconst hx hb dX5_isSound_21 ?_
    exact g_zret hx hb hr hlocks hS (by decide +kernel) ⟨Nat.le_of_ble_eq_true rfl, Nat.le_of_ble_eq_true rfl⟩ (⟨0, (up X 22 0 (1)), Or.inr (⟨by omega, rfl⟩), rfl, hM⟩) dX5_isSound_22
set_option maxHeartbeats 4000000 in
set_option maxRecDepth 100000 in
theorem m_ringing (l : Launch) (D : va_G) (ks : Nat → ClassId) (bx : Nat) (bm : Nat) (hbm : bx ≤ bm) (X : Nat → Nat → Int) (H : Heap) (hM : PM D ks bm X H) (hV : VS X) (u : Int) (hu : -2147483648 ≤ u ∧ u < 2147483648) : KM l yX5_ringing wsX5_ringing ({ frames := 3, cells := 0, slots := 0, locals := 63 } : Room) D ks bx [.ref bm, .int (z2 u)] H (RM bm) (fun v H1 => ∃ (r : Int) (Y : Nat → Nat → Int), ro_ringing X u r Y ∧ v = some (.int (z2 r)) ∧ PM D ks bm Y H1) (fun _ _ => False) := by
  refine KM.of (cc := cX5_ringing) (maxL := 4) (ret := (some .int)) (by decide) rfl (Nat.le_of_ble_eq_true rfl) ?_
  intro p e s m below meth c hx hb hml hr hlocks hown hname hts hext hH0 hG ls hl
  subst hH0
  have hown : s.vm.findClass RX5 = some m.cls := hown
  have hS : va_S (AR (RM bm) s.heap.size) s.heap s.heap [] := va_S.rf
  have hl : lv_has ls 4 [(0, .ref bm), (1, .int (z2 (u)))] := hl
  have inX5 : ∀ w ∈ wsX50, w ∈ wsX5_ringing := by decide +kernel
  refine lv_aload_n hx hb dX5_ringing_0 rfl (lv_at hl 0 rfl) ?_
  refine lv_iload_n hx hb dX5_ringing_1 rfl (lv_at hl 1 rfl) ?_
  refine g_run (vx_runV (As := [.int (z2 (u))]) (rest := []) ⟨hx, hb, hml, hown, hts⟩ (m_isSeen l D ks bx bm hbm X _ hM hV (u) (by omega)) (cwV 1 hts gX5_ringing_X5_isSeen rfl rfl rfl (by decide +kernel) ⟨Nat.le_of_ble_eq_true rfl, Nat.le_of_ble_eq_true rfl⟩) (g_preV (r := (RX5, TX5, 23)) hG hS (rm_ge hbm) hM.1 rfl) rfl rfl hl.1 rfl (lv_room (Nat.le_of_ble_eq_true rfl)) dX5_ringing_2 ⟨Nat.le_of_ble_eq_true rfl, Nat.le_of_ble_eq_true rfl⟩) hS (fun _ h => h) (fun _ _ _ _ _ h => h.elim) (fun v H1 locs hp hz9 hk9 hS => ?_)
  rcases hp with ⟨q9, rfl, hM⟩ | ⟨q9, rfl, hM⟩
  · skip
    refine W.eq (g2 := F0 m 5 ls [.int (z2 (1))]) rfl ?_
    refine b_if_ne (tgt := 10) hx hb dX5_ringing_5 (by decide) ⟨by omega, by omega⟩ (fun _ => ?_) (fun c => absurd c (by omega))
    obtain ⟨n, rfl⟩ : ∃ n : Nat, u = n := ⟨(u).toNat, by omega⟩
    refine b_iconst hx hb dX5_ringing_10 ?_
    refine lv_istore_n (lv' := [(2, .int (z2 (0))), (0, .ref bm), (1, .int (z2 (((n : Nat) : Int))))]) hx hb dX5_ringing_11 rfl hl (by decide) rfl (fun ls hl => ?_)
    refine b_iconst hx hb dX5_ringing_12 ?_
    refine lv_istore_n (lv' := [(3, .int (z2 (0))), (2, .int (z2 (0))), (0, .ref bm), (1, .int (z2 (((n : Nat) : Int))))]) hx hb dX5_ringing_13 rfl hl (by decide) rfl (fun ls hl => ?_)
    refine lv_iload_n hx hb dX5_ringing_14 rfl (lv_at hl 0 rfl) ?_
    refine b_iconst hx hb dX5_ringing_15 ?_
    refine b_icmp_ge (tgt := 48) hx hb dX5_ringing_16 (by decide) ⟨⟨by omega, by omega⟩, ⟨by omega, by omega⟩⟩ (fun c => absurd c (by omega)) (fun _ => ?_)
    refine lv_iload_n hx hb dX5_ringing_19 rfl (lv_at hl 1 rfl) ?_
    refine lv_aload_n hx hb dX5_ringing_20 rfl (lv_at hl 2 rfl) ?_
    refine g_get (C := RX5) (T := TX5) (N := 23) hx hb hts inX5 hown hG hM.1 rfl 7 (by decide) (by decide +kernel) rfl (v := .ref (bm + 6)) rfl dX5_ringing_21 ?_
    refine b_iconst hx hb dX5_ringing_24 ?_
    refine lv_iload_n hx hb dX5_ringing_25 rfl (lv_at hl 3 rfl) ?_
    refine b_imul hx hb dX5_ringing_26 ?_
    refine lv_iload_n hx hb dX5_ringing_27 rfl (lv_at hl 0 rfl) ?_
    refine b_iadd hx hb dX5_ringing_28 ?_
    have b_29 : 0 ≤ X 7 (3 * n + 0) ∧ X 7 (3 * n + 0) ≤ 1000024 := hV.1 7 _ (by decide) rfl
    refine g_iald (n := 24) hx hb hG (f := fun i => z2 ((up X 22 0 (0)) 7 i)) (show ca D (bm + 6) (iA (ks 0) 24 (fun i => z2 ((up X 22 0 (0)) 7 i))) _ from hM.2.1 7 (sr_of (by decide))) (3 * n + 0) ⟨by omega, by omega, by decide⟩ dX5_ringing_29 ?_
    refine W.eq (g2 := F0 m 30 ls (.int (z2 (X 7 (3 * n + 0))) :: [.int (z2 (0))])) rfl ?_
    refine b_if_le (tgt := 39) hx hb dX5_ringing_30 (by decide) ⟨by omega, by omega⟩ (fun c_30 => ?_) (fun c_30 => ?_)
    · skip
      refine b_iconst hx hb dX5_ringing_39 ?_
      refine lv_ior hx hb dX5_ringing_40 ?_
      refine b_top (v := 0) (by decide +kernel) ?_
      refine lv_istore_n (lv' := [(2, .int (z2 (0))), (3, .int (z2 (0))), (0, .ref bm), (1, .int (z2 (((n : Nat) : Int))))]) hx hb dX5_ringing_41 rfl hl (by decide) rfl (fun ls hl => ?_)
      refine b_iinc (lv' := [(3, .int (z2 (1))), (2, .int (z2 (0))), (0, .ref bm), (1, .int (z2 (((n : Nat) : Int))))]) hx hb dX5_ringing_42 hl (k := 1) rfl (by decide) rfl (fun ls hl => ?_)
      refine lv_goto (tgt := 14) hx hb dX5_ringing_45 (by decide) ?_
      refine lv_iload_n hx hb dX5_ringing_14 rfl (lv_at hl 0 rfl) ?_
      refine b_iconst hx hb dX5_ringing_15 ?_
      refine b_icmp_ge (tgt := 48) hx hb dX5_ringing_16 (by decide) ⟨⟨by omega, by omega⟩, ⟨by omega, by omega⟩⟩ (fun c => absurd c (by omega)) (fun _ => ?_)
      refine lv_iload_n hx hb dX5_ringing_19 rfl (lv_at hl 1 rfl) ?_
      refine lv_aload_n hx hb dX5_ringing_20 rfl (lv_at hl 2 rfl) ?_
      refine g_get (C := RX5) (T := TX5) (N := 23) hx hb hts inX5 hown hG hM.1 rfl 7 (by decide) (by decide +kernel) rfl (v := .ref (bm + 6)) rfl dX5_ringing_21 ?_
      refine b_iconst hx hb dX5_ringing_24 ?_
      refine lv_iload_n hx hb dX5_ringing_25 rfl (lv_at hl 3 rfl) ?_
      refine b_imul hx hb dX5_ringing_26 ?_
      refine lv_iload_n hx hb dX5_ringing_27 rfl (lv_at hl 0 rfl) ?_
      refine b_iadd hx hb dX5_ringing_28 ?_
      have b_29 : 0 ≤ X 7 (3 * n + 1) ∧ X 7 (3 * n + 1) ≤ 1000024 := hV.1 7 _ (by decide) rfl
      refine g_iald (n := 24) hx hb hG (f := fun i => z2 ((up X 22 0 (0)) 7 i)) (show ca D (bm + 6) (iA (ks 0) 24 (fun i => z2 ((up X 22 0 (0)) 7 i))) _ from hM.2.1 7 (sr_of (by decide))) (3 * n + 1) ⟨by omega, by omega, by decide⟩ dX5_ringing_29 ?_
      refine W.eq (g2 := F0 m 30 ls (.int (z2 (X 7 (3 * n + 1))) :: [.int (z2 (0))])) rfl ?_
      refine b_if_le (tgt := 39) hx hb dX5_ringing_30 (by decide) ⟨by omega, by omega⟩ (fun c_30 => ?_) (fun c_30 => ?_)
      · skip
        refine b_iconst hx hb dX5_ringing_39 ?_
        refine lv_ior hx hb dX5_ringing_40 ?_
        refine b_top (v := 0) (by decide +kernel) ?_
        refine lv_istore_n (lv' := [(2, .int (z2 (0))), (3, .int (z2 (1))), (0, .ref bm), (1, .int (z2 (((n : Nat) : Int))))]) hx hb dX5_ringing_41 rfl hl (by decide) rfl (fun ls hl => ?_)
        refine b_iinc (lv' := [(3, .int (z2 (2))), (2, .int (z2 (0))), (0, .ref bm), (1, .int (z2 (((n : Nat) : Int))))]) hx hb dX5_ringing_42 hl (k := 1) rfl (by decide) rfl (fun ls hl => ?_)
        refine lv_goto (tgt := 14) hx hb dX5_ringing_45 (by decide) ?_
        refine lv_iload_n hx hb dX5_ringing_14 rfl (lv_at hl 0 rfl) ?_
        refine b_iconst hx hb dX5_ringing_15 ?_
        refine b_icmp_ge (tgt := 48) hx hb dX5_ringing_16 (by decide) ⟨⟨by omega, by omega⟩, ⟨by omega, by omega⟩⟩ (fun c => absurd c (by omega)) (fun _ => ?_)
        refine lv_iload_n hx hb dX5_ringing_19 rfl (lv_at hl 1 rfl) ?_
        refine lv_aload_n hx hb dX5_ringing_20 rfl (lv_at hl 2 rfl) ?_
        refine g_get (C := RX5) (T := TX5) (N := 23) hx hb hts inX5 hown hG hM.1 rfl 7 (by decide) (by decide +kernel) rfl (v := .ref (bm + 6)) rfl dX5_ringing_21 ?_
        refine b_iconst hx hb dX5_ringing_24 ?_
        refine lv_iload_n hx hb dX5_ringing_25 rfl (lv_at hl 3 rfl) ?_
        refine b_imul hx hb dX5_ringing_26 ?_
        refine lv_iload_n hx hb dX5_ringing_27 rfl (lv_at hl 0 rfl) ?_
        refine b_iadd hx hb dX5_ringing_28 ?_
        have b_29 : 0 ≤ X 7 (3 * n + 2) ∧ X 7 (3 * n + 2) ≤ 1000024 := hV.1 7 _ (by decide) rfl
        refine g_iald (n := 24) hx hb hG (f := fun i => z2 ((up X 22 0 (0)) 7 i)) (show ca D (bm + 6) (iA (ks 0) 24 (fun i => z2 ((up X 22 0 (0)) 7 i))) _ from hM.2.1 7 (sr_of (by decide))) (3 * n + 2) ⟨by omega, by omega, by decide⟩ dX5_ringing_29 ?_
        refine W.eq (g2 := F0 m 30 ls (.int (z2 (X 7 (3 * n + 2))) :: [.int (z2 (0))])) rfl ?_
        refine b_if_le (tgt := 39) hx hb dX5_ringing_30 (by decide) ⟨by omega, by omega⟩ (fun c_30 => ?_) (fun c_30 => ?_)
        · skip
          refine b_iconst hx hb dX5_ringing_39 ?_
          refine lv_ior hx hb dX5_ringing_40 ?_
          refine b_top (v := 0) (by decide +kernel) ?_
          refine lv_istore_n (lv' := [(2, .int (z2 (0))), (3, .int (z2 (2))), (0, .ref bm), (1, .int (z2 (((n : Nat) : Int))))]) hx hb dX5_ringing_41 rfl hl (by decide) rfl (fun ls hl => ?_)
          refine b_iinc (lv' := [(3, .int (z2 (3))), (2, .int (z2 (0))), (0, .ref bm), (1, .int (z2 (((n : Nat) : Int))))]) hx hb dX5_ringing_42 hl (k := 1) rfl (by decide) rfl (fun ls hl => ?_)
          refine lv_goto (tgt := 14) hx hb dX5_ringing_45 (by decide) ?_
          refine lv_iload_n hx hb dX5_ringing_14 rfl (lv_at hl 0 rfl) ?_
          refine b_iconst hx hb dX5_ringing_15 ?_
          refine b_icmp_ge (tgt := 48) hx hb dX5_ringing_16 (by decide) ⟨⟨by omega, by omega⟩, ⟨by omega, by omega⟩⟩ (fun _ => ?_) (fun c => absurd c (by omega))
          refine lv_iload_n hx hb dX5_ringing_48 rfl (lv_at hl 1 rfl) ?_
          exact g_iret hx hb hr hlocks hS ⟨Nat.le_of_ble_eq_true rfl, Nat.le_of_ble_eq_true rfl⟩ (⟨0, (up X 22 0 (0)), Or.inl (⟨n, by omega, by unfold rsM; (repeat' split) <;> omega, rfl⟩), rfl, hM⟩) dX5_ringing_49
        · skip
          refine b_iconst hx hb dX5_ringing_33 ?_
          refine lv_iload_n hx hb dX5_ringing_34 rfl (lv_at hl 0 rfl) ?_
          refine lv_ishl hx hb dX5_ringing_35 ?_
          refine b_top (v := 4) (by decide +kernel) ?_
          refine lv_goto (tgt := 40) hx hb dX5_ringing_36 (by decide) ?_
          refine lv_ior hx hb dX5_ringing_40 ?_
          refine b_top (v := 4) (by decide +kernel) ?_
          refine lv_istore_n (lv' := [(2, .int (z2 (4))), (3, .int (z2 (2))), (0, .ref bm), (1, .int (z2 (((n : Nat) : Int))))]) hx hb dX5_ringing_41 rfl hl (by decide) rfl (fun ls hl => ?_)
          refine b_iinc (lv' := [(3, .int (z2 (3))), (2, .int (z2 (4))), (0, .ref bm), (1, .int (z2 (((n : Nat) : Int))))]) hx hb dX5_ringing_42 hl (k := 1) rfl (by decide) rfl (fun ls hl => ?_)
          refine lv_goto (tgt := 14) hx hb dX5_ringing_45 (by decide) ?_
          refine lv_iload_n hx hb dX5_ringing_14 rfl (lv_at hl 0 rfl) ?_
          refine b_iconst hx hb dX5_ringing_15 ?_
          refine b_icmp_ge (tgt := 48) hx hb dX5_ringing_16 (by decide) ⟨⟨by omega, by omega⟩, ⟨by omega, by omega⟩⟩ (fun _ => ?_) (fun c => absurd c (by omega))
          refine lv_iload_n hx hb dX5_ringing_48 rfl (lv_at hl 1 rfl) ?_
          exact g_iret hx hb hr hlocks hS ⟨Nat.le_of_ble_eq_true rfl, Nat.le_of_ble_eq_true rfl⟩ (⟨4, (up X 22 0 (0)), Or.inl (⟨n, by omega, by unfold rsM; (repeat' split) <;> omega, rfl⟩), rfl, hM⟩) dX5_ringing_49
      · skip
        refine b_iconst hx hb dX5_ringing_33 ?_
        refine lv_iload_n hx hb dX5_ringing_34 rfl (lv_at hl 0 rfl) ?_
        refine lv_ishl hx hb dX5_ringing_35 ?_
        refine b_top (v := 2) (by decide +kernel) ?_
        refine lv_goto (tgt := 40) hx hb dX5_ringing_36 (by decide) ?_
        refine lv_ior hx hb dX5_ringing_40 ?_
        refine b_top (v := 2) (by decide +kernel) ?_
        refine lv_istore_n (lv' := [(2, .int (z2 (2))), (3, .int (z2 (1))), (0, .ref bm), (1, .int (z2 (((n : Nat) : Int))))]) hx hb dX5_ringing_41 rfl hl (by decide) rfl (fun ls hl => ?_)
        refine b_iinc (lv' := [(3, .int (z2 (2))), (2, .int (z2 (2))), (0, .ref bm), (1, .int (z2 (((n : Nat) : Int))))]) hx hb dX5_ringing_42 hl (k := 1) rfl (by decide) rfl (fun ls hl => ?_)
        refine lv_goto (tgt := 14) hx hb dX5_ringing_45 (by decide) ?_
        refine lv_iload_n hx hb dX5_ringing_14 rfl (lv_at hl 0 rfl) ?_
        refine b_iconst hx hb dX5_ringing_15 ?_
        refine b_icmp_ge (tgt := 48) hx hb dX5_ringing_16 (by decide) ⟨⟨by omega, by omega⟩, ⟨by omega, by omega⟩⟩ (fun c => absurd c (by omega)) (fun _ => ?_)
        refine lv_iload_n hx hb dX5_ringing_19 rfl (lv_at hl 1 rfl) ?_
        refine lv_aload_n hx hb dX5_ringing_20 rfl (lv_at hl 2 rfl) ?_
        refine g_get (C := RX5) (T := TX5) (N := 23) hx hb hts inX5 hown hG hM.1 rfl 7 (by decide) (by decide +kernel) rfl (v := .ref (bm + 6)) rfl dX5_ringing_21 ?_
        refine b_iconst hx hb dX5_ringing_24 ?_
        refine lv_iload_n hx hb dX5_ringing_25 rfl (lv_at hl 3 rfl) ?_
        refine b_imul hx hb dX5_ringing_26 ?_
        refine lv_iload_n hx hb dX5_ringing_27 rfl (lv_at hl 0 rfl) ?_
        refine b_iadd hx hb dX5_ringing_28 ?_
        have b_29 : 0 ≤ X 7 (3 * n + 2) ∧ X 7 (3 * n + 2) ≤ 1000024 := hV.1 7 _ (by decide) rfl
        refine g_iald (n := 24) hx hb hG (f := fun i => z2 ((up X 22 0 (0)) 7 i)) (show ca D (bm + 6) (iA (ks 0) 24 (fun i => z2 ((up X 22 0 (0)) 7 i))) _ from hM.2.1 7 (sr_of (by decide))) (3 * n + 2) ⟨by omega, by omega, by decide⟩ dX5_ringing_29 ?_
        refine W.eq (g2 := F0 m 30 ls (.int (z2 (X 7 (3 * n + 2))) :: [.int (z2 (2))])) rfl ?_
        refine b_if_le (tgt := 39) hx hb dX5_ringing_30 (by decide) ⟨by omega, by omega⟩ (fun c_30 => ?_) (fun c_30 => ?_)
        · skip
          refine b_iconst hx hb dX5_ringing_39 ?_
          refine lv_ior hx hb dX5_ringing_40 ?_
          refine b_top (v := 2) (by decide +kernel) ?_
          refine lv_istore_n (lv' := [(2, .int (z2 (2))), (3, .int (z2 (2))), (0, .ref bm), (1, .int (z2 (((n : Nat) : Int))))]) hx hb dX5_ringing_41 rfl hl (by decide) rfl (fun ls hl => ?_)
          refine b_iinc (lv' := [(3, .int (z2 (3))), (2, .int (z2 (2))), (0, .ref bm), (1, .int (z2 (((n : Nat) : Int))))]) hx hb dX5_ringing_42 hl (k := 1) rfl (by decide) rfl (fun ls hl => ?_)
          refine lv_goto (tgt := 14) hx hb dX5_ringing_45 (by decide) ?_
          refine lv_iload_n hx hb dX5_ringing_14 rfl (lv_at hl 0 rfl) ?_
          refine b_iconst hx hb dX5_ringing_15 ?_
          refine b_icmp_ge (tgt := 48) hx hb dX5_ringing_16 (by decide) ⟨⟨by omega, by omega⟩, ⟨by omega, by omega⟩⟩ (fun _ => ?_) (fun c => absurd c (by omega))
          refine lv_iload_n hx hb dX5_ringing_48 rfl (lv_at hl 1 rfl) ?_
          exact g_iret hx hb hr hlocks hS ⟨Nat.le_of_ble_eq_true rfl, Nat.le_of_ble_eq_true rfl⟩ (⟨2, (up X 22 0 (0)), Or.inl (⟨n, by omega, by unfold rsM; (repeat' split) <;> omega, rfl⟩), rfl, hM⟩) dX5_ringing_49
        · skip
          refine b_iconst hx hb dX5_ringing_33 ?_
          refine lv_iload_n hx hb dX5_ringing_34 rfl (lv_at hl 0 rfl) ?_
          refine lv_ishl hx hb dX5_ringing_35 ?_
          refine b_top (v := 4) (by decide +kernel) ?_
          refine lv_goto (tgt := 40) hx hb dX5_ringing_36 (by decide) ?_
          refine lv_ior hx hb dX5_ringing_40 ?_
          refine b_top (v := 6) (by decide +kernel) ?_
          refine lv_istore_n (lv' := [(2, .int (z2 (6))), (3, .int (z2 (2))), (0, .ref bm), (1, .int (z2 (((n : Nat) : Int))))]) hx hb dX5_ringing_41 rfl hl (by decide) rfl (fun ls hl => ?_)
          refine b_iinc (lv' := [(3, .int (z2 (3))), (2, .int (z2 (6))), (0, .ref bm), (1, .int (z2 (((n : Nat) : Int))))]) hx hb dX5_ringing_42 hl (k := 1) rfl (by decide) rfl (fun ls hl => ?_)
          refine lv_goto (tgt := 14) hx hb dX5_ringing_45 (by decide) ?_
          refine lv_iload_n hx hb dX5_ringing_14 rfl (lv_at hl 0 rfl) ?_
          refine b_iconst hx hb dX5_ringing_15 ?_
          refine b_icmp_ge (tgt := 48) hx hb dX5_ringing_16 (by decide) ⟨⟨by omega, by omega⟩, ⟨by omega, by omega⟩⟩ (fun _ => ?_) (fun c => absurd c (by omega))
          refine lv_iload_n hx hb dX5_ringing_48 rfl (lv_at hl 1 rfl) ?_
          exact g_iret hx hb hr hlocks hS ⟨Nat.le_of_ble_eq_true rfl, Nat.le_of_ble_eq_true rfl⟩ (⟨6, (up X 22 0 (0)), Or.inl (⟨n, by omega, by unfold rsM; (repeat' split) <;> omega, rfl⟩), rfl, hM⟩) dX5_ringing_49
    · skip
      refine b_iconst hx hb dX5_ringing_33 ?_
      refine lv_iload_n hx hb dX5_ringing_34 rfl (lv_at hl 0 rfl) ?_
      refine lv_ishl hx hb dX5_ringing_35 ?_
      refine b_top (v := 1) (by decide +kernel) ?_
      refine lv_goto (tgt := 40) hx hb dX5_ringing_36 (by decide) ?_
      refine lv_ior hx hb dX5_ringing_40 ?_
      refine b_top (v := 1) (by decide +kernel) ?_
      refine lv_istore_n (lv' := [(2, .int (z2 (1))), (3, .int (z2 (0))), (0, .ref bm), (1, .int (z2 (((n : Nat) : Int))))]) hx hb dX5_ringing_41 rfl hl (by decide) rfl (fun ls hl => ?_)
      refine b_iinc (lv' := [(3, .int (z2 (1))), (2, .int (z2 (1))), (0, .ref bm), (1, .int (z2 (((n : Nat) : Int))))]) hx hb dX5_ringing_42 hl (k := 1) rfl (by decide) rfl (fun ls hl => ?_)
      refine lv_goto (tgt := 14) hx hb dX5_ringing_45 (by decide) ?_
      refine lv_iload_n hx hb dX5_ringing_14 rfl (lv_at hl 0 rfl) ?_
      refine b_iconst hx hb dX5_ringing_15 ?_
      refine b_icmp_ge (tgt := 48) hx hb dX5_ringing_16 (by decide) ⟨⟨by omega, by omega⟩, ⟨by omega, by omega⟩⟩ (fun c => absurd c (by omega)) (fun _ => ?_)
      refine lv_iload_n hx hb dX5_ringing_19 rfl (lv_at hl 1 rfl) ?_
      refine lv_aload_n hx hb dX5_ringing_20 rfl (lv_at hl 2 rfl) ?_
      refine g_get (C := RX5) (T := TX5) (N := 23) hx hb hts inX5 hown hG hM.1 rfl 7 (by decide) (by decide +kernel) rfl (v := .ref (bm + 6)) rfl dX5_ringing_21 ?_
      refine b_iconst hx hb dX5_ringing_24 ?_
      refine lv_iload_n hx hb dX5_ringing_25 rfl (lv_at hl 3 rfl) ?_
      refine b_imul hx hb dX5_ringing_26 ?_
      refine lv_iload_n hx hb dX5_ringing_27 rfl (lv_at hl 0 rfl) ?_
      refine b_iadd hx hb dX5_ringing_28 ?_
      have b_29 : 0 ≤ X 7 (3 * n + 1) ∧ X 7 (3 * n + 1) ≤ 1000024 := hV.1 7 _ (by decide) rfl
      refine g_iald (n := 24) hx hb hG (f := fun i => z2 ((up X 22 0 (0)) 7 i)) (show ca D (bm + 6) (iA (ks 0) 24 (fun i => z2 ((up X 22 0 (0)) 7 i))) _ from hM.2.1 7 (sr_of (by decide))) (3 * n + 1) ⟨by omega, by omega, by decide⟩ dX5_ringing_29 ?_
      refine W.eq (g2 := F0 m 30 ls (.int (z2 (X 7 (3 * n + 1))) :: [.int (z2 (1))])) rfl ?_
      refine b_if_le (tgt := 39) hx hb dX5_ringing_30 (by decide) ⟨by omega, by omega⟩ (fun c_30 => ?_) (fun c_30 => ?_)
      · skip
        refine b_iconst hx hb dX5_ringing_39 ?_
        refine lv_ior hx hb dX5_ringing_40 ?_
        refine b_top (v := 1) (by decide +kernel) ?_
        refine lv_istore_n (lv' := [(2, .int (z2 (1))), (3, .int (z2 (1))), (0, .ref bm), (1, .int (z2 (((n : Nat) : Int))))]) hx hb dX5_ringing_41 rfl hl (by decide) rfl (fun ls hl => ?_)
        refine b_iinc (lv' := [(3, .int (z2 (2))), (2, .int (z2 (1))), (0, .ref bm), (1, .int (z2 (((n : Nat) : Int))))]) hx hb dX5_ringing_42 hl (k := 1) rfl (by decide) rfl (fun ls hl => ?_)
        refine lv_goto (tgt := 14) hx hb dX5_ringing_45 (by decide) ?_
        refine lv_iload_n hx hb dX5_ringing_14 rfl (lv_at hl 0 rfl) ?_
        refine b_iconst hx hb dX5_ringing_15 ?_
        refine b_icmp_ge (tgt := 48) hx hb dX5_ringing_16 (by decide) ⟨⟨by omega, by omega⟩, ⟨by omega, by omega⟩⟩ (fun c => absurd c (by omega)) (fun _ => ?_)
        refine lv_iload_n hx hb dX5_ringing_19 rfl (lv_at hl 1 rfl) ?_
        refine lv_aload_n hx hb dX5_ringing_20 rfl (lv_at hl 2 rfl) ?_
        refine g_get (C := RX5) (T := TX5) (N := 23) hx hb hts inX5 hown hG hM.1 rfl 7 (by decide) (by decide +kernel) rfl (v := .ref (bm + 6)) rfl dX5_ringing_21 ?_
        refine b_iconst hx hb dX5_ringing_24 ?_
        refine lv_iload_n hx hb dX5_ringing_25 rfl (lv_at hl 3 rfl) ?_
        refine b_imul hx hb dX5_ringing_26 ?_
        refine lv_iload_n hx hb dX5_ringing_27 rfl (lv_at hl 0 rfl) ?_
        refine b_iadd hx hb dX5_ringing_28 ?_
        have b_29 : 0 ≤ X 7 (3 * n + 2) ∧ X 7 (3 * n + 2) ≤ 1000024 := hV.1 7 _ (by decide) rfl
        refine g_iald (n := 24) hx hb hG (f := fun i => z2 ((up X 22 0 (0)) 7 i)) (show ca D (bm + 6) (iA (ks 0) 24 (fun i => z2 ((up X 22 0 (0)) 7 i))) _ from hM.2.1 7 (sr_of (by decide))) (3 * n + 2) ⟨by omega, by omega, by decide⟩ dX5_ringing_29 ?_
        refine W.eq (g2 := F0 m 30 ls (.int (z2 (X 7 (3 * n + 2))) :: [.int (z2 (1))])) rfl ?_
        refine b_if_le (tgt := 39) hx hb dX5_ringing_30 (by decide) ⟨by omega, by omega⟩ (fun c_30 => ?_) (fun c_30 => ?_)
        · skip
          refine b_iconst hx hb dX5_ringing_39 ?_
          refine lv_ior hx hb dX5_ringing_40 ?_
          refine b_top (v := 1) (by decide +kernel) ?_
          refine lv_istore_n (lv' := [(2, .int (z2 (1))), (3, .int (z2 (2))), (0, .ref bm), (1, .int (z2 (((n : Nat) : Int))))]) hx hb dX5_ringing_41 rfl hl (by decide) rfl (fun ls hl => ?_)
          refine b_iinc (lv' := [(3, .int (z2 (3))), (2, .int (z2 (1))), (0, .ref bm), (1, .int (z2 (((n : Nat) : Int))))]) hx hb dX5_ringing_42 hl (k := 1) rfl (by decide) rfl (fun ls hl => ?_)
          refine lv_goto (tgt := 14) hx hb dX5_ringing_45 (by decide) ?_
          refine lv_iload_n hx hb dX5_ringing_14 rfl (lv_at hl 0 rfl) ?_
          refine b_iconst hx hb dX5_ringing_15 ?_
          refine b_icmp_ge (tgt := 48) hx hb dX5_ringing_16 (by decide) ⟨⟨by omega, by omega⟩, ⟨by omega, by omega⟩⟩ (fun _ => ?_) (fun c => absurd c (by omega))
          refine lv_iload_n hx hb dX5_ringing_48 rfl (lv_at hl 1 rfl) ?_
          exact g_iret hx hb hr hlocks hS ⟨Nat.le_of_ble_eq_true rfl, Nat.le_of_ble_eq_true rfl⟩ (⟨1, (up X 22 0 (0)), Or.inl (⟨n, by omega, by unfold rsM; (repeat' split) <;> omega, rfl⟩), rfl, hM⟩) dX5_ringing_49
        · skip
          refine b_iconst hx hb dX5_ringing_33 ?_
          refine lv_iload_n hx hb dX5_ringing_34 rfl (lv_at hl 0 rfl) ?_
          refine lv_ishl hx hb dX5_ringing_35 ?_
          refine b_top (v := 4) (by decide +kernel) ?_
          refine lv_goto (tgt := 40) hx hb dX5_ringing_36 (by decide) ?_
          refine lv_ior hx hb dX5_ringing_40 ?_
          refine b_top (v := 5) (by decide +kernel) ?_
          refine lv_istore_n (lv' := [(2, .int (z2 (5))), (3, .int (z2 (2))), (0, .ref bm), (1, .int (z2 (((n : Nat) : Int))))]) hx hb dX5_ringing_41 rfl hl (by decide) rfl (fun ls hl => ?_)
          refine b_iinc (lv' := [(3, .int (z2 (3))), (2, .int (z2 (5))), (0, .ref bm), (1, .int (z2 (((n : Nat) : Int))))]) hx hb dX5_ringing_42 hl (k := 1) rfl (by decide) rfl (fun ls hl => ?_)
          refine lv_goto (tgt := 14) hx hb dX5_ringing_45 (by decide) ?_
          refine lv_iload_n hx hb dX5_ringing_14 rfl (lv_at hl 0 rfl) ?_
          refine b_iconst hx hb dX5_ringing_15 ?_
          refine b_icmp_ge (tgt := 48) hx hb dX5_ringing_16 (by decide) ⟨⟨by omega, by omega⟩, ⟨by omega, by omega⟩⟩ (fun _ => ?_) (fun c => absurd c (by omega))
          refine lv_iload_n hx hb dX5_ringing_48 rfl (lv_at hl 1 rfl) ?_
          exact g_iret hx hb hr hlocks hS ⟨Nat.le_of_ble_eq_true rfl, Nat.le_of_ble_eq_true rfl⟩ (⟨5, (up X 22 0 (0)), Or.inl (⟨n, by omega, by unfold rsM; (repeat' split) <;> omega, rfl⟩), rfl, hM⟩) dX5_ringing_49
      · skip
        refine b_iconst hx hb dX5_ringing_33 ?_
        refine lv_iload_n hx hb dX5_ringing_34 rfl (lv_at hl 0 rfl) ?_
        refine lv_ishl hx hb dX5_ringing_35 ?_
        refine b_top (v := 2) (by decide +kernel) ?_
        refine lv_goto (tgt := 40) hx hb dX5_ringing_36 (by decide) ?_
        refine lv_ior hx hb dX5_ringing_40 ?_
        refine b_top (v := 3) (by decide +kernel) ?_
        refine lv_istore_n (lv' := [(2, .int (z2 (3))), (3, .int (z2 (1))), (0, .ref bm), (1, .int (z2 (((n : Nat) : Int))))]) hx hb dX5_ringing_41 rfl hl (by decide) rfl (fun ls hl => ?_)
        refine b_iinc (lv' := [(3, .int (z2 (2))), (2, .int (z2 (3))), (0, .ref bm), (1, .int (z2 (((n : Nat) : Int))))]) hx hb dX5_ringing_42 hl (k := 1) rfl (by decide) rfl (fun ls hl => ?_)
        refine lv_goto (tgt := 14) hx hb dX5_ringing_45 (by decide) ?_
        refine lv_iload_n hx hb dX5_ringing_14 rfl (lv_at hl 0 rfl) ?_
        refine b_iconst hx hb dX5_ringing_15 ?_
        refine b_icmp_ge (tgt := 48) hx hb dX5_ringing_16 (by decide) ⟨⟨by omega, by omega⟩, ⟨by omega, by omega⟩⟩ (fun c => absurd c (by omega)) (fun _ => ?_)
        refine lv_iload_n hx hb dX5_ringing_19 rfl (lv_at hl 1 rfl) ?_
        refine lv_aload_n hx hb dX5_ringing_20 rfl (lv_at hl 2 rfl) ?_
        refine g_get (C := RX5) (T := TX5) (N := 23) hx hb hts inX5 hown hG hM.1 rfl 7 (by decide) (by decide +kernel) rfl (v := .ref (bm + 6)) rfl dX5_ringing_21 ?_
        refine b_iconst hx hb dX5_ringing_24 ?_
        refine lv_iload_n hx hb dX5_ringing_25 rfl (lv_at hl 3 rfl) ?_
        refine b_imul hx hb dX5_ringing_26 ?_
        refine lv_iload_n hx hb dX5_ringing_27 rfl (lv_at hl 0 rfl) ?_
        refine b_iadd hx hb dX5_ringing_28 ?_
        have b_29 : 0 ≤ X 7 (3 * n + 2) ∧ X 7 (3 * n + 2) ≤ 1000024 := hV.1 7 _ (by decide) rfl
        refine g_iald (n := 24) hx hb hG (f := fun i => z2 ((up X 22 0 (0)) 7 i)) (show ca D (bm + 6) (iA (ks 0) 24 (fun i => z2 ((up X 22 0 (0)) 7 i))) _ from hM.2.1 7 (sr_of (by decide))) (3 * n + 2) ⟨by omega, by omega, by decide⟩ dX5_ringing_29 ?_
        refine W.eq (g2 := F0 m 30 ls (.int (z2 (X 7 (3 * n + 2))) :: [.int (z2 (3))])) rfl ?_
        refine b_if_le (tgt := 39) hx hb dX5_ringing_30 (by decide) ⟨by omega, by omega⟩ (fun c_30 => ?_) (fun c_30 => ?_)
        · skip
          refine b_iconst hx hb dX5_ringing_39 ?_
          refine lv_ior hx hb dX5_ringing_40 ?_
          refine b_top (v := 3) (by decide +kernel) ?_
          refine lv_istore_n (lv' := [(2, .int (z2 (3))), (3, .int (z2 (2))), (0, .ref bm), (1, .int (z2 (((n : Nat) : Int))))]) hx hb dX5_ringing_41 rfl hl (by decide) rfl (fun ls hl => ?_)
          refine b_iinc (lv' := [(3, .int (z2 (3))), (2, .int (z2 (3))), (0, .ref bm), (1, .int (z2 (((n : Nat) : Int))))]) hx hb dX5_ringing_42 hl (k := 1) rfl (by decide) rfl (fun ls hl => ?_)
          refine lv_goto (tgt := 14) hx hb dX5_ringing_45 (by decide) ?_
          refine lv_iload_n hx hb dX5_ringing_14 rfl (lv_at hl 0 rfl) ?_
          refine b_iconst hx hb dX5_ringing_15 ?_
          refine b_icmp_ge (tgt := 48) hx hb dX5_ringing_16 (by decide) ⟨⟨by omega, by omega⟩, ⟨by omega, by omega⟩⟩ (fun _ => ?_) (fun c => absurd c (by omega))
          refine lv_iload_n hx hb dX5_ringing_48 rfl (lv_at hl 1 rfl) ?_
          exact g_iret hx hb hr hlocks hS ⟨Nat.le_of_ble_eq_true rfl, Nat.le_of_ble_eq_true rfl⟩ (⟨3, (up X 22 0 (0)), Or.inl (⟨n, by omega, by unfold rsM; (repeat' split) <;> omega, rfl⟩), rfl, hM⟩) dX5_ringing_49
        · skip
          refine b_iconst hx hb dX5_ringing_33 ?_
          refine lv_iload_n hx hb dX5_ringing_34 rfl (lv_at hl 0 rfl) ?_
          refine lv_ishl hx hb dX5_ringing_35 ?_
          refine b_top (v := 4) (by decide +kernel) ?_
          refine lv_goto (tgt := 40) hx hb dX5_ringing_36 (by decide) ?_
          refine lv_ior hx hb dX5_ringing_40 ?_
          refine b_top (v := 7) (by decide +kernel) ?_
          refine lv_istore_n (lv' := [(2, .int (z2 (7))), (3, .int (z2 (2))), (0, .ref bm), (1, .int (z2 (((n : Nat) : Int))))]) hx hb dX5_ringing_41 rfl hl (by decide) rfl (fun ls hl => ?_)
          refine b_iinc (lv' := [(3, .int (z2 (3))), (2, .int (z2 (7))), (0, .ref bm), (1, .int (z2 (((n : Nat) : Int))))]) hx hb dX5_ringing_42 hl (k := 1) rfl (by decide) rfl (fun ls hl => ?_)
          refine lv_goto (tgt := 14) hx hb dX5_ringing_45 (by decide) ?_
          refine lv_iload_n hx hb dX5_ringing_14 rfl (lv_at hl 0 rfl) ?_
          refine b_iconst hx hb dX5_ringing_15 ?_
          refine b_icmp_ge (tgt := 48) hx hb dX5_ringing_16 (by decide) ⟨⟨by omega, by omega⟩, ⟨by omega, by omega⟩⟩ (fun _ => ?_) (fun c => absurd c (by omega))
          refine lv_iload_n hx hb dX5_ringing_48 rfl (lv_at hl 1 rfl) ?_
          exact g_iret hx hb hr hlocks hS ⟨Nat.le_of_ble_eq_true rfl, Nat.le_of_ble_eq_true rfl⟩ (⟨7, (up X 22 0 (0)), Or.inl (⟨n, by omega, by unfold rsM; (repeat' split) <;> omega, rfl⟩), rfl, hM⟩) dX5_ringing_49
  · skip
    refine W.eq (g2 := F0 m 5 ls [.int (z2 (0))]) rfl ?_
    refine b_if_ne (tgt := 10) hx hb dX5_ringing_5 (by decide) ⟨by omega, by omega⟩ (fun c => absurd c (by omega)) (fun _ => ?_)
    refine b_iconst hx hb dX5_ringing_8 ?_
    exact g_iret hx hb hr hlocks hS ⟨Nat.le_of_ble_eq_true rfl, Nat.le_of_ble_eq_true rfl⟩ (⟨0, (up X 22 0 (1)), Or.inr (⟨by omega, rfl⟩), rfl, hM⟩) dX5_ringing_9
set_option maxHeartbeats 4000000 in
set_option maxRecDepth 100000 in
theorem m_ringsLeft (l : Launch) (D : va_G) (ks : Nat → ClassId) (bx : Nat) (bm : Nat) (hbm : bx ≤ bm) (X : Nat → Nat → Int) (H : Heap) (hM : PM D ks bm X H) (hV : VS X) (u v2 : Int) (hu : -2147483648 ≤ u ∧ u < 2147483648) (hv2 : -2147483648 ≤ v2 ∧ v2 < 2147483648) : KM l yX5_ringsLeft wsX5_ringsLeft ({ frames := 2, cells := 0, slots := 0, locals := 42 } : Room) D ks bx [.ref bm, .int (z2 u), .int (z2 v2)] H (RM bm) (fun v H1 => ∃ (r : Int) (Y : Nat → Nat → Int), ro_ringsLeft X u v2 r Y ∧ v = some (.int (z2 r)) ∧ PM D ks bm Y H1) (fun _ _ => False) := by
  refine KM.of (cc := cX5_ringsLeft) (maxL := 3) (ret := (some .int)) (by decide) rfl (Nat.le_of_ble_eq_true rfl) ?_
  intro p e s m below meth c hx hb hml hr hlocks hown hname hts hext hH0 hG ls hl
  subst hH0
  have hown : s.vm.findClass RX5 = some m.cls := hown
  have hS : va_S (AR (RM bm) s.heap.size) s.heap s.heap [] := va_S.rf
  have hl : lv_has ls 3 [(0, .ref bm), (1, .int (z2 (u))), (2, .int (z2 (v2)))] := hl
  have inX5 : ∀ w ∈ wsX50, w ∈ wsX5_ringsLeft := by decide +kernel
  have b1 : 0 ≤ X 1 0 ∧ X 1 0 ≤ 12 := hV.1 1 0 (by decide) rfl
  refine lv_aload_n hx hb dX5_ringsLeft_0 rfl (lv_at hl 0 rfl) ?_
  refine lv_iload_n hx hb dX5_ringsLeft_1 rfl (lv_at hl 1 rfl) ?_
  refine g_run (vx_runS (As := [.int (z2 (u))]) (rest := [.ref bm]) ⟨hx, hb, hml, hown, hts⟩ (m_isHouse l D ks bx bm hbm _ (u) ⟨by omega, by omega⟩) (cwS 1 hts gX5_ringsLeft_X5_isHouse rfl rfl rfl (by decide +kernel) ⟨Nat.le_of_ble_eq_true rfl, Nat.le_of_ble_eq_true rfl⟩) (g_preS hG hS (rm_ge hbm)) rfl rfl hl.1 rfl (lv_room (Nat.le_of_ble_eq_true rfl)) dX5_ringsLeft_2 ⟨Nat.le_of_ble_eq_true rfl, Nat.le_of_ble_eq_true rfl⟩) hS (fun _ h => h) (fun _ _ _ _ _ h => h.elim) (fun v H1 locs hp hz9 hk9 hS => ?_)
  obtain ⟨rfl, hH9⟩ := hp
  obtain rfl := hH9.symm
  obtain ⟨iv_2, ev_2, ib_2⟩ : ∃ z : Int, z = (if 0 ≤ u ∧ u ≤ 7 then 1 else 0) ∧ (((0 ≤ u ∧ u ≤ 7) ∧ z = 1) ∨ (¬ (0 ≤ u ∧ u ≤ 7) ∧ z = 0)) := ⟨_, rfl, by split <;> omega⟩
  rw [← ev_2]
  refine W.eq (g2 := F0 m 5 ls [.int (z2 (iv_2)), .ref bm]) rfl ?_
  refine b_if_eq (tgt := 26) hx hb dX5_ringsLeft_5 (by decide) ⟨by omega, by omega⟩ (fun c_5 => ?_) (fun c_5 => ?_)
  · skip
    refine b_iconst hx hb dX5_ringsLeft_26 ?_
    refine g_put (C := RX5) (T := TX5) (N := 23) hx hb hts inX5 tyX5 tyX5_ok nmX5 hown hG hS hM.1 (Or.inl ⟨by omega, by omega⟩) rfl 22 (by decide) (by decide +kernel) rfl rfl (v := .int (z2 (1))) rfl rfl (Nat.le_of_ble_eq_true rfl) dX5_ringsLeft_27 (fun H locs he hz oq hS => ?_)
    have hM : PM D ks bm (up X 22 0 (1)) H := hM.own (k := 22) (by decide) he oq
    refine lv_aload_n hx hb dX5_ringsLeft_30 rfl (lv_at hl 0 rfl) ?_
    refine g_get (C := RX5) (T := TX5) (N := 23) hx hb hts inX5 hown hG hM.1 rfl 22 (by decide) (by decide +kernel) rfl (v := .int (z2 (1))) (congrArg (fun z => some (Value.int (z2 z))) (by simp [up] : (up X 22 0 (1)) 22 0 = 1)) dX5_ringsLeft_31 ?_
    refine b_if_le (tgt := 39) hx hb dX5_ringsLeft_34 (by decide) ⟨by omega, by omega⟩ (fun c => absurd c (by omega)) (fun _ => ?_)
    refine b_iconst hx hb dX5_ringsLeft_37 ?_
    exact g_iret hx hb hr hlocks hS ⟨Nat.le_of_ble_eq_true rfl, Nat.le_of_ble_eq_true rfl⟩ (⟨0, up X 22 0 (1), Or.inr (⟨by omega, rfl⟩), rfl, hM⟩) dX5_ringsLeft_38
  · skip
    refine lv_iload_n hx hb dX5_ringsLeft_8 rfl (lv_at hl 2 rfl) ?_
    refine b_iconst hx hb dX5_ringsLeft_9 ?_
    refine lv_aload_n hx hb dX5_ringsLeft_10 rfl (lv_at hl 0 rfl) ?_
    have b_11 : 0 ≤ X 1 0 ∧ X 1 0 ≤ 12 := hV.1 1 _ (by decide) rfl
    refine g_get (C := RX5) (T := TX5) (N := 23) hx hb hts inX5 hown hG hM.1 rfl 1 (by decide) (by decide +kernel) rfl (v := .int (z2 (X 1 0))) rfl dX5_ringsLeft_11 ?_
    refine b_iconst hx hb dX5_ringsLeft_14 ?_
    refine b_isub hx hb dX5_ringsLeft_15 ?_
    refine g_run (vx_runS (As := [.int (z2 (v2)), .int (z2 (0)), .int (z2 ((X 1 0) - 1))]) (rest := [.ref bm]) ⟨hx, hb, hml, hown, hts⟩ (m_in l D ks bx bm _ (v2) (0) ((X 1 0) - 1) ⟨⟨by omega, by omega⟩, ⟨by omega, by omega⟩, by omega, by omega⟩) (cwS 3 hts gX5_ringsLeft_X5_in rfl rfl rfl (by decide +kernel) ⟨Nat.le_of_ble_eq_true rfl, Nat.le_of_ble_eq_true rfl⟩) (g_preS hG hS (rm_ge hbm)) rfl rfl hl.1 rfl (lv_room (Nat.le_of_ble_eq_true rfl)) dX5_ringsLeft_16 ⟨Nat.le_of_ble_eq_true rfl, Nat.le_of_ble_eq_true rfl⟩) hS (fun _ h => h) (fun _ _ _ _ _ h => h.elim) (fun v H1 locs hp hz9 hk9 hS => ?_)
    obtain ⟨rfl, hH9⟩ := hp
    obtain rfl := hH9.symm
    obtain ⟨iv_16, ev_16, ib_16⟩ : ∃ z : Int, z = (if 0 ≤ v2 ∧ v2 ≤ (X 1 0) - 1 then 1 else 0) ∧ (((0 ≤ v2 ∧ v2 ≤ (X 1 0) - 1) ∧ z = 1) ∨ (¬ (0 ≤ v2 ∧ v2 ≤ (X 1 0) - 1) ∧ z = 0)) := ⟨_, rfl, by split <;> omega⟩
    rw [← ev_16]
    refine W.eq (g2 := F0 m 19 ls [.int (z2 (iv_16)), .ref bm]) rfl ?_
    refine b_if_eq (tgt := 26) hx hb dX5_ringsLeft_19 (by decide) ⟨by omega, by omega⟩ (fun c_19 => ?_) (fun c_19 => ?_)
    · skip
      refine b_iconst hx hb dX5_ringsLeft_26 ?_
      refine g_put (C := RX5) (T := TX5) (N := 23) hx hb hts inX5 tyX5 tyX5_ok nmX5 hown hG hS hM.1 (Or.inl ⟨by omega, by omega⟩) rfl 22 (by decide) (by decide +kernel) rfl rfl (v := .int (z2 (1))) rfl rfl (Nat.le_of_ble_eq_true rfl) dX5_ringsLeft_27 (fun H locs he hz oq hS => ?_)
      have hM : PM D ks bm (up X 22 0 (1)) H := hM.own (k := 22) (by decide) he oq
      refine lv_aload_n hx hb dX5_ringsLeft_30 rfl (lv_at hl 0 rfl) ?_
      refine g_get (C := RX5) (T := TX5) (N := 23) hx hb hts inX5 hown hG hM.1 rfl 22 (by decide) (by decide +kernel) rfl (v := .int (z2 (1))) (congrArg (fun z => some (Value.int (z2 z))) (by simp [up] : (up X 22 0 (1)) 22 0 = 1)) dX5_ringsLeft_31 ?_
      refine b_if_le (tgt := 39) hx hb dX5_ringsLeft_34 (by decide) ⟨by omega, by omega⟩ (fun c => absurd c (by omega)) (fun _ => ?_)
      refine b_iconst hx hb dX5_ringsLeft_37 ?_
      exact g_iret hx hb hr hlocks hS ⟨Nat.le_of_ble_eq_true rfl, Nat.le_of_ble_eq_true rfl⟩ (⟨0, up X 22 0 (1), Or.inr (⟨by omega, rfl⟩), rfl, hM⟩) dX5_ringsLeft_38
    · skip
      refine b_iconst hx hb dX5_ringsLeft_22 ?_
      refine lv_goto (tgt := 27) hx hb dX5_ringsLeft_23 (by decide) ?_
      refine g_put (C := RX5) (T := TX5) (N := 23) hx hb hts inX5 tyX5 tyX5_ok nmX5 hown hG hS hM.1 (Or.inl ⟨by omega, by omega⟩) rfl 22 (by decide) (by decide +kernel) rfl rfl (v := .int (z2 (0))) rfl rfl (Nat.le_of_ble_eq_true rfl) dX5_ringsLeft_27 (fun H locs he hz oq hS => ?_)
      have hM : PM D ks bm (up X 22 0 (0)) H := hM.own (k := 22) (by decide) he oq
      refine lv_aload_n hx hb dX5_ringsLeft_30 rfl (lv_at hl 0 rfl) ?_
      refine g_get (C := RX5) (T := TX5) (N := 23) hx hb hts inX5 hown hG hM.1 rfl 22 (by decide) (by decide +kernel) rfl (v := .int (z2 (0))) (congrArg (fun z => some (Value.int (z2 z))) (by simp [up] : (up X 22 0 (0)) 22 0 = 0)) dX5_ringsLeft_31 ?_
      refine b_if_le (tgt := 39) hx hb dX5_ringsLeft_34 (by decide) ⟨by omega, by omega⟩ (fun _ => ?_) (fun c => absurd c (by omega))
      obtain ⟨n, rfl⟩ : ∃ n : Nat, u = n := ⟨(u).toNat, by omega⟩
      obtain ⟨k, rfl⟩ : ∃ k : Nat, v2 = k := ⟨(v2).toNat, by omega⟩
      refine lv_aload_n hx hb dX5_ringsLeft_39 rfl (lv_at hl 0 rfl) ?_
      refine g_get (C := RX5) (T := TX5) (N := 23) hx hb hts inX5 hown hG hM.1 rfl 2 (by decide) (by decide +kernel) rfl (v := .ref (bm + 1)) rfl dX5_ringsLeft_40 ?_
      refine lv_iload_n hx hb dX5_ringsLeft_43 rfl (lv_at hl 2 rfl) ?_
      have b_44 : 0 ≤ X 2 k ∧ X 2 k ≤ 7 := hV.1 2 _ (by decide) rfl
      refine g_iald (n := 12) hx hb hG (f := fun i => z2 ((up X 22 0 (0)) 2 i)) (show ca D (bm + 1) (iA (ks 0) 12 (fun i => z2 ((up X 22 0 (0)) 2 i))) _ from hM.2.1 2 (sr_of (by decide))) k ⟨by omega, by omega, by decide⟩ dX5_ringsLeft_44 ?_
      refine W.eq (g2 := F0 m 45 ls (.int (z2 (X 2 k)) :: [])) rfl ?_
      refine lv_iload_n hx hb dX5_ringsLeft_45 rfl (lv_at hl 1 rfl) ?_
      refine b_icmp_ne (tgt := 53) hx hb dX5_ringsLeft_46 (by decide) ⟨⟨by omega, by omega⟩, ⟨by omega, by omega⟩⟩ (fun c_46 => ?_) (fun c_46 => ?_)
      · skip
        refine lv_aload_n hx hb dX5_ringsLeft_53 rfl (lv_at hl 0 rfl) ?_
        refine g_get (C := RX5) (T := TX5) (N := 23) hx hb hts inX5 hown hG hM.1 rfl 8 (by decide) (by decide +kernel) rfl (v := .ref (bm + 7)) rfl dX5_ringsLeft_54 ?_
        refine b_bipush hx hb dX5_ringsLeft_57 (by decide +kernel) ?_
        refine lv_iload_n hx hb dX5_ringsLeft_59 rfl (lv_at hl 1 rfl) ?_
        refine b_imul hx hb dX5_ringsLeft_60 ?_
        refine lv_iload_n hx hb dX5_ringsLeft_61 rfl (lv_at hl 2 rfl) ?_
        refine b_iadd hx hb dX5_ringsLeft_62 ?_
        have b_63 : 0 ≤ X 8 (12 * n + k) ∧ X 8 (12 * n + k) ≤ 1000 := hV.1 8 _ (by decide) rfl
        refine g_iald (n := 96) hx hb hG (f := fun i => z2 ((up X 22 0 (0)) 8 i)) (show ca D (bm + 7) (iA (ks 0) 96 (fun i => z2 ((up X 22 0 (0)) 8 i))) _ from hM.2.1 8 (sr_of (by decide))) (12 * n + k) ⟨by omega, by omega, by decide⟩ dX5_ringsLeft_63 ?_
        refine W.eq (g2 := F0 m 64 ls (.int (z2 (X 8 (12 * n + k))) :: [])) rfl ?_
        exact g_iret hx hb hr hlocks hS ⟨Nat.le_of_ble_eq_true rfl, Nat.le_of_ble_eq_true rfl⟩ (⟨X 8 (12 * n + k), up X 22 0 (0), Or.inl (⟨n, k, by omega, by first | rw [if_pos (by omega)] | rw [if_neg (by omega)], rfl⟩), rfl, hM⟩) dX5_ringsLeft_64
      · skip
        refine b_iconst hx hb dX5_ringsLeft_49 ?_
        refine lv_goto (tgt := 64) hx hb dX5_ringsLeft_50 (by decide) ?_
        exact g_iret hx hb hr hlocks hS ⟨Nat.le_of_ble_eq_true rfl, Nat.le_of_ble_eq_true rfl⟩ (⟨(-1), up X 22 0 (0), Or.inl (⟨n, k, by omega, by first | rw [if_pos (by omega)] | rw [if_neg (by omega)], rfl⟩), rfl, hM⟩) dX5_ringsLeft_64
set_option maxHeartbeats 4000000 in
set_option maxRecDepth 100000 in
theorem m_faultAt (l : Launch) (D : va_G) (ks : Nat → ClassId) (bx : Nat) (bm : Nat) (hbm : bx ≤ bm) (X : Nat → Nat → Int) (H : Heap) (hM : PM D ks bm X H) (hV : VS X) (u : Int) (hu : -2147483648 ≤ u ∧ u < 2147483648) : KM l yX5_faultAt wsX5_faultAt ({ frames := 1, cells := 0, slots := 0, locals := 22 } : Room) D ks bx [.ref bm, .int (z2 u)] H (RM bm) (fun v H1 => ∃ (r : Int) (Y : Nat → Nat → Int), ro_faultAt X u r Y ∧ v = some (.int (z2 r)) ∧ PM D ks bm Y H1) (fun _ _ => False) := by
  refine KM.of (cc := cX5_faultAt) (maxL := 2) (ret := (some .int)) (by decide) rfl (Nat.le_of_ble_eq_true rfl) ?_
  intro p e s m below meth c hx hb hml hr hlocks hown hname hts hext hH0 hG ls hl
  subst hH0
  have hown : s.vm.findClass RX5 = some m.cls := hown
  have hS : va_S (AR (RM bm) s.heap.size) s.heap s.heap [] := va_S.rf
  have hl : lv_has ls 2 [(0, .ref bm), (1, .int (z2 (u)))] := hl
  have inX5 : ∀ w ∈ wsX50, w ∈ wsX5_faultAt := by decide +kernel
  refine lv_aload_n hx hb dX5_faultAt_0 rfl (lv_at hl 0 rfl) ?_
  refine lv_iload_n hx hb dX5_faultAt_1 rfl (lv_at hl 1 rfl) ?_
  refine b_iconst hx hb dX5_faultAt_2 ?_
  refine lv_aload_n hx hb dX5_faultAt_3 rfl (lv_at hl 0 rfl) ?_
  have b_4 : 0 ≤ X 20 0 ∧ X 20 0 ≤ 100 := hV.1 20 _ (by decide) rfl
  refine g_get (C := RX5) (T := TX5) (N := 23) hx hb hts inX5 hown hG hM.1 rfl 20 (by decide) (by decide +kernel) rfl (v := .int (z2 (X 20 0))) rfl dX5_faultAt_4 ?_
  refine b_iconst hx hb dX5_faultAt_7 ?_
  refine b_isub hx hb dX5_faultAt_8 ?_
  refine g_run (vx_runS (As := [.int (z2 (u)), .int (z2 (0)), .int (z2 ((X 20 0) - 1))]) (rest := [.ref bm]) ⟨hx, hb, hml, hown, hts⟩ (m_in l D ks bx bm _ (u) (0) ((X 20 0) - 1) ⟨⟨by omega, by omega⟩, ⟨by omega, by omega⟩, by omega, by omega⟩) (cwS 3 hts gX5_faultAt_X5_in rfl rfl rfl (by decide +kernel) ⟨Nat.le_of_ble_eq_true rfl, Nat.le_of_ble_eq_true rfl⟩) (g_preS hG hS (rm_ge hbm)) rfl rfl hl.1 rfl (lv_room (Nat.le_of_ble_eq_true rfl)) dX5_faultAt_9 ⟨Nat.le_of_ble_eq_true rfl, Nat.le_of_ble_eq_true rfl⟩) hS (fun _ h => h) (fun _ _ _ _ _ h => h.elim) (fun v H1 locs hp hz9 hk9 hS => ?_)
  obtain ⟨rfl, hH9⟩ := hp
  obtain rfl := hH9.symm
  obtain ⟨iv_9, ev_9, ib_9⟩ : ∃ z : Int, z = (if 0 ≤ u ∧ u ≤ (X 20 0) - 1 then 1 else 0) ∧ (((0 ≤ u ∧ u ≤ (X 20 0) - 1) ∧ z = 1) ∨ (¬ (0 ≤ u ∧ u ≤ (X 20 0) - 1) ∧ z = 0)) := ⟨_, rfl, by split <;> omega⟩
  rw [← ev_9]
  refine W.eq (g2 := F0 m 12 ls [.int (z2 (iv_9)), .ref bm]) rfl ?_
  refine b_if_eq (tgt := 19) hx hb dX5_faultAt_12 (by decide) ⟨by omega, by omega⟩ (fun c_12 => ?_) (fun c_12 => ?_)
  · skip
    refine b_iconst hx hb dX5_faultAt_19 ?_
    refine g_put (C := RX5) (T := TX5) (N := 23) hx hb hts inX5 tyX5 tyX5_ok nmX5 hown hG hS hM.1 (Or.inl ⟨by omega, by omega⟩) rfl 22 (by decide) (by decide +kernel) rfl rfl (v := .int (z2 (1))) rfl rfl (Nat.le_of_ble_eq_true rfl) dX5_faultAt_20 (fun H locs he hz oq hS => ?_)
    have hM : PM D ks bm (up X 22 0 (1)) H := hM.own (k := 22) (by decide) he oq
    refine lv_aload_n hx hb dX5_faultAt_23 rfl (lv_at hl 0 rfl) ?_
    refine g_get (C := RX5) (T := TX5) (N := 23) hx hb hts inX5 hown hG hM.1 rfl 22 (by decide) (by decide +kernel) rfl (v := .int (z2 (1))) (congrArg (fun z => some (Value.int (z2 z))) (by simp [up] : (up X 22 0 (1)) 22 0 = 1)) dX5_faultAt_24 ?_
    refine b_if_ne (tgt := 39) hx hb dX5_faultAt_27 (by decide) ⟨by omega, by omega⟩ (fun _ => ?_) (fun c => absurd c (by omega))
    refine b_iconst hx hb dX5_faultAt_39 ?_
    exact g_iret hx hb hr hlocks hS ⟨Nat.le_of_ble_eq_true rfl, Nat.le_of_ble_eq_true rfl⟩ (⟨0, up X 22 0 (1), Or.inr (⟨by omega, rfl⟩), rfl, hM⟩) dX5_faultAt_40
  · skip
    refine b_iconst hx hb dX5_faultAt_15 ?_
    refine lv_goto (tgt := 20) hx hb dX5_faultAt_16 (by decide) ?_
    refine g_put (C := RX5) (T := TX5) (N := 23) hx hb hts inX5 tyX5 tyX5_ok nmX5 hown hG hS hM.1 (Or.inl ⟨by omega, by omega⟩) rfl 22 (by decide) (by decide +kernel) rfl rfl (v := .int (z2 (0))) rfl rfl (Nat.le_of_ble_eq_true rfl) dX5_faultAt_20 (fun H locs he hz oq hS => ?_)
    have hM : PM D ks bm (up X 22 0 (0)) H := hM.own (k := 22) (by decide) he oq
    refine lv_aload_n hx hb dX5_faultAt_23 rfl (lv_at hl 0 rfl) ?_
    refine g_get (C := RX5) (T := TX5) (N := 23) hx hb hts inX5 hown hG hM.1 rfl 22 (by decide) (by decide +kernel) rfl (v := .int (z2 (0))) (congrArg (fun z => some (Value.int (z2 z))) (by simp [up] : (up X 22 0 (0)) 22 0 = 0)) dX5_faultAt_24 ?_
    refine b_if_ne (tgt := 39) hx hb dX5_faultAt_27 (by decide) ⟨by omega, by omega⟩ (fun c => absurd c (by omega)) (fun _ => ?_)
    obtain ⟨q, rfl⟩ : ∃ q : Nat, u = q := ⟨(u).toNat, by omega⟩
    refine lv_aload_n hx hb dX5_faultAt_30 rfl (lv_at hl 0 rfl) ?_
    refine g_get (C := RX5) (T := TX5) (N := 23) hx hb hts inX5 hown hG hM.1 rfl 21 (by decide) (by decide +kernel) rfl (v := .ref (bm + 19)) rfl dX5_faultAt_31 ?_
    refine lv_iload_n hx hb dX5_faultAt_34 rfl (lv_at hl 1 rfl) ?_
    refine g_iald (n := 100) hx hb hG (f := fun i => z2 ((up X 22 0 (0)) 21 i)) (show ca D (bm + 19) (iA (ks 0) 100 (fun i => z2 ((up X 22 0 (0)) 21 i))) _ from hM.2.1 21 (sr_of (by decide))) q ⟨by omega, by omega, by decide⟩ dX5_faultAt_35 ?_
    refine W.eq (g2 := F0 m 36 ls (.int (z2 (X 21 q)) :: [])) rfl ?_
    refine lv_goto (tgt := 40) hx hb dX5_faultAt_36 (by decide) ?_
    exact g_iret hx hb hr hlocks hS ⟨Nat.le_of_ble_eq_true rfl, Nat.le_of_ble_eq_true rfl⟩ (⟨X 21 q, up X 22 0 (0), Or.inl (⟨q, by omega, rfl, rfl⟩), rfl, hM⟩) dX5_faultAt_40
set_option maxHeartbeats 4000000 in
set_option maxRecDepth 100000 in
theorem m_toneAt (l : Launch) (D : va_G) (ks : Nat → ClassId) (bx : Nat) (bm : Nat) (hbm : bx ≤ bm) (X : Nat → Nat → Int) (H : Heap) (hM : PM D ks bm X H) (hV : VS X) (u v2 : Int) (hu : -2147483648 ≤ u ∧ u < 2147483648) (hv2 : -2147483648 ≤ v2 ∧ v2 < 2147483648) : KM l yX5_toneAt wsX5_toneAt ({ frames := 2, cells := 0, slots := 0, locals := 43 } : Room) D ks bx [.ref bm, .int (z2 u), .int (z2 v2)] H (RM bm) (fun v H1 => ∃ (r : Int) (Y : Nat → Nat → Int), ro_toneAt X u v2 r Y ∧ v = some (.int (z2 r)) ∧ PM D ks bm Y H1) (fun _ _ => False) := by
  refine KM.of (cc := cX5_toneAt) (maxL := 3) (ret := (some .int)) (by decide) rfl (Nat.le_of_ble_eq_true rfl) ?_
  intro p e s m below meth c hx hb hml hr hlocks hown hname hts hext hH0 hG ls hl
  subst hH0
  have hown : s.vm.findClass RX5 = some m.cls := hown
  have hS : va_S (AR (RM bm) s.heap.size) s.heap s.heap [] := va_S.rf
  have hl : lv_has ls 3 [(0, .ref bm), (1, .int (z2 (u))), (2, .int (z2 (v2)))] := hl
  have inX5 : ∀ w ∈ wsX50, w ∈ wsX5_toneAt := by decide +kernel
  have b1 : 0 ≤ X 1 0 ∧ X 1 0 ≤ 12 := hV.1 1 0 (by decide) rfl
  have b3 : ∀ q : Nat, 0 ≤ X 3 q ∧ X 3 q ≤ 12 := fun q => hV.1 3 q (by decide) rfl
  refine lv_aload_n hx hb dX5_toneAt_0 rfl (lv_at hl 0 rfl) ?_
  refine lv_iload_n hx hb dX5_toneAt_1 rfl (lv_at hl 1 rfl) ?_
  refine g_run (vx_runV (As := [.int (z2 (u))]) (rest := []) ⟨hx, hb, hml, hown, hts⟩ (m_isMelody l D ks bx bm hbm X _ hM hV (u) (by omega)) (cwV 1 hts gX5_toneAt_X5_isMelody rfl rfl rfl (by decide +kernel) ⟨Nat.le_of_ble_eq_true rfl, Nat.le_of_ble_eq_true rfl⟩) (g_preV (r := (RX5, TX5, 23)) hG hS (rm_ge hbm) hM.1 rfl) rfl rfl hl.1 rfl (lv_room (Nat.le_of_ble_eq_true rfl)) dX5_toneAt_2 ⟨Nat.le_of_ble_eq_true rfl, Nat.le_of_ble_eq_true rfl⟩) hS (fun _ h => h) (fun _ _ _ _ _ h => h.elim) (fun v H1 locs hp hz9 hk9 hS => ?_)
  rcases hp with ⟨q9, rfl, hM⟩ | ⟨q9, rfl, hM⟩
  · skip
    refine W.eq (g2 := F0 m 5 ls [.int (z2 (1))]) rfl ?_
    refine b_if_ne (tgt := 10) hx hb dX5_toneAt_5 (by decide) ⟨by omega, by omega⟩ (fun _ => ?_) (fun c => absurd c (by omega))
    obtain ⟨k, rfl⟩ : ∃ k : Nat, u = k := ⟨(u).toNat, by omega⟩
    refine lv_iload_n hx hb dX5_toneAt_10 rfl (lv_at hl 2 rfl) ?_
    refine b_iconst hx hb dX5_toneAt_11 ?_
    refine lv_aload_n hx hb dX5_toneAt_12 rfl (lv_at hl 0 rfl) ?_
    refine g_get (C := RX5) (T := TX5) (N := 23) hx hb hts inX5 hown hG hM.1 rfl 3 (by decide) (by decide +kernel) rfl (v := .ref (bm + 2)) rfl dX5_toneAt_13 ?_
    refine lv_iload_n hx hb dX5_toneAt_16 rfl (lv_at hl 1 rfl) ?_
    have b_17 : 0 ≤ X 3 k ∧ X 3 k ≤ 12 := hV.1 3 _ (by decide) rfl
    refine g_iald (n := 12) hx hb hG (f := fun i => z2 ((up X 22 0 (0)) 3 i)) (show ca D (bm + 2) (iA (ks 0) 12 (fun i => z2 ((up X 22 0 (0)) 3 i))) _ from hM.2.1 3 (sr_of (by decide))) k ⟨by omega, by omega, by decide⟩ dX5_toneAt_17 ?_
    refine W.eq (g2 := F0 m 18 ls (.int (z2 (X 3 k)) :: [.int (z2 (0)), .int (z2 (v2))])) rfl ?_
    refine b_iconst hx hb dX5_toneAt_18 ?_
    refine b_isub hx hb dX5_toneAt_19 ?_
    refine g_run (vx_runS (As := [.int (z2 (v2)), .int (z2 (0)), .int (z2 ((X 3 k) - 1))]) (rest := []) ⟨hx, hb, hml, hown, hts⟩ (m_in l D ks bx bm _ (v2) (0) ((X 3 k) - 1) ⟨⟨by omega, by omega⟩, ⟨by omega, by omega⟩, by omega, by omega⟩) (cwS 3 hts gX5_toneAt_X5_in rfl rfl rfl (by decide +kernel) ⟨Nat.le_of_ble_eq_true rfl, Nat.le_of_ble_eq_true rfl⟩) (g_preS hG hS (rm_ge hbm)) rfl rfl hl.1 rfl (lv_room (Nat.le_of_ble_eq_true rfl)) dX5_toneAt_20 ⟨Nat.le_of_ble_eq_true rfl, Nat.le_of_ble_eq_true rfl⟩) hS (fun _ h => h) (fun _ _ _ _ _ h => h.elim) (fun v H1 locs hp hz9 hk9 hS => ?_)
    obtain ⟨rfl, hH9⟩ := hp
    obtain rfl := hH9.symm
    obtain ⟨iv_20, ev_20, ib_20⟩ : ∃ z : Int, z = (if 0 ≤ v2 ∧ v2 ≤ (X 3 k) - 1 then 1 else 0) ∧ (((0 ≤ v2 ∧ v2 ≤ (X 3 k) - 1) ∧ z = 1) ∨ (¬ (0 ≤ v2 ∧ v2 ≤ (X 3 k) - 1) ∧ z = 0)) := ⟨_, rfl, by split <;> omega⟩
    rw [← ev_20]
    refine W.eq (g2 := F0 m 23 ls [.int (z2 (iv_20))]) rfl ?_
    refine b_if_eq (tgt := 35) hx hb dX5_toneAt_23 (by decide) ⟨by omega, by omega⟩ (fun c_23 => ?_) (fun c_23 => ?_)
    · skip
      refine lv_aload_n hx hb dX5_toneAt_35 rfl (lv_at hl 0 rfl) ?_
      refine b_iconst hx hb dX5_toneAt_36 ?_
      refine g_run (vx_runV (As := [.int (z2 (1))]) (rest := []) ⟨hx, hb, hml, hown, hts⟩ (m_fails l D ks bx bm hbm (up X 22 0 (0)) _ hM (vs_uf (hV) (by decide)) (1)) (cwV 1 hts gX5_toneAt_X5_fails rfl rfl rfl (by decide +kernel) ⟨Nat.le_of_ble_eq_true rfl, Nat.le_of_ble_eq_true rfl⟩) (g_preV (r := (RX5, TX5, 23)) hG hS (rm_ge hbm) hM.1 rfl) rfl rfl hl.1 rfl (lv_room (Nat.le_of_ble_eq_true rfl)) dX5_toneAt_37 ⟨Nat.le_of_ble_eq_true rfl, Nat.le_of_ble_eq_true rfl⟩) hS (fun _ h => h) (fun _ _ _ _ _ h => h.elim) (fun v H1 locs hp hz9 hk9 hS => ?_)
      obtain ⟨rfl, hM⟩ := hp
      refine W.eq (g2 := F0 m 40 ls [.int (z2 (0))]) rfl ?_
      exact g_iret hx hb hr hlocks hS ⟨Nat.le_of_ble_eq_true rfl, Nat.le_of_ble_eq_true rfl⟩ (⟨0, (up ((up X 22 0 (0))) 22 0 (1)), Or.inr (Or.inr (⟨⟨k, by omega⟩, rfl⟩)), rfl, hM⟩) dX5_toneAt_40
    · skip
      obtain ⟨q, rfl⟩ : ∃ q : Nat, v2 = q := ⟨(v2).toNat, by omega⟩
      refine lv_aload_n hx hb dX5_toneAt_26 rfl (lv_at hl 0 rfl) ?_
      refine lv_iload_n hx hb dX5_toneAt_27 rfl (lv_at hl 1 rfl) ?_
      refine lv_iload_n hx hb dX5_toneAt_28 rfl (lv_at hl 2 rfl) ?_
      refine g_run (vx_runV (As := [.int (z2 (((k : Nat) : Int))), .int (z2 (((q : Nat) : Int)))]) (rest := []) ⟨hx, hb, hml, hown, hts⟩ (m_tone l D ks bx bm hbm (up X 22 0 (0)) _ hM (vs_uf (hV) (by decide)) (k := k) (q := q) (((k : Nat) : Int)) (((q : Nat) : Int)) (by omega) (by omega)) (cwV 2 hts gX5_toneAt_X5_tone rfl rfl rfl (by decide +kernel) ⟨Nat.le_of_ble_eq_true rfl, Nat.le_of_ble_eq_true rfl⟩) (g_preV (r := (RX5, TX5, 23)) hG hS (rm_ge hbm) hM.1 rfl) rfl rfl hl.1 rfl (lv_room (Nat.le_of_ble_eq_true rfl)) dX5_toneAt_29 ⟨Nat.le_of_ble_eq_true rfl, Nat.le_of_ble_eq_true rfl⟩) hS (fun _ h => h) (fun _ _ _ _ _ h => h.elim) (fun v H1 locs hp hz9 hk9 hS => ?_)
      obtain ⟨rfl, hH9⟩ := hp
      obtain rfl := hH9.symm
      have tb_29 := toS_b (X 4 k) q
      refine W.eq (g2 := F0 m 32 ls [.int (z2 (toS (X 4 k) q))]) rfl ?_
      refine lv_goto (tgt := 40) hx hb dX5_toneAt_32 (by decide) ?_
      exact g_iret hx hb hr hlocks hS ⟨Nat.le_of_ble_eq_true rfl, Nat.le_of_ble_eq_true rfl⟩ (⟨toS (X 4 k) q, (up X 22 0 (0)), Or.inl (⟨k, q, by omega, rfl, rfl⟩), rfl, hM⟩) dX5_toneAt_40
  · skip
    refine W.eq (g2 := F0 m 5 ls [.int (z2 (0))]) rfl ?_
    refine b_if_ne (tgt := 10) hx hb dX5_toneAt_5 (by decide) ⟨by omega, by omega⟩ (fun c => absurd c (by omega)) (fun _ => ?_)
    refine b_iconst hx hb dX5_toneAt_8 ?_
    exact g_iret hx hb hr hlocks hS ⟨Nat.le_of_ble_eq_true rfl, Nat.le_of_ble_eq_true rfl⟩ (⟨0, (up X 22 0 (1)), Or.inr (Or.inl (⟨by omega, rfl⟩)), rfl, hM⟩) dX5_toneAt_9
set_option maxHeartbeats 4000000 in
set_option maxRecDepth 100000 in
theorem m_shifted (l : Launch) (D : va_G) (ks : Nat → ClassId) (bx : Nat) (bm : Nat) (hbm : bx ≤ bm) (X : Nat → Nat → Int) (H : Heap) (hM : PM D ks bm X H) (hV : VS X) (u v2 : Int) (hu : -2147483648 ≤ u ∧ u < 2147483648) (hv2 : -2147483648 ≤ v2 ∧ v2 < 2147483648) : KM l yX5_shifted wsX5_shifted ({ frames := 2, cells := 0, slots := 0, locals := 43 } : Room) D ks bx [.ref bm, .int (z2 u), .int (z2 v2)] H (RM bm) (fun v H1 => ∃ (r : Int) (Y : Nat → Nat → Int), ro_shifted X u v2 r Y ∧ v = some (.long (l2 r)) ∧ PM D ks bm Y H1) (fun _ _ => False) := by
  refine KM.of (cc := cX5_shifted) (maxL := 6) (ret := (some .long)) (by decide) rfl (Nat.le_of_ble_eq_true rfl) ?_
  intro p e s m below meth c hx hb hml hr hlocks hown hname hts hext hH0 hG ls hl
  subst hH0
  have hown : s.vm.findClass RX5 = some m.cls := hown
  have hS : va_S (AR (RM bm) s.heap.size) s.heap s.heap [] := va_S.rf
  have hl : lv_has ls 6 [(0, .ref bm), (1, .int (z2 (u))), (2, .int (z2 (v2)))] := hl
  have inX5 : ∀ w ∈ wsX50, w ∈ wsX5_shifted := by decide +kernel
  have b1 : 0 ≤ X 1 0 ∧ X 1 0 ≤ 12 := hV.1 1 0 (by decide) rfl
  have b3 : ∀ q : Nat, 0 ≤ X 3 q ∧ X 3 q ≤ 12 := fun q => hV.1 3 q (by decide) rfl
  refine lv_aload_n hx hb dX5_shifted_0 rfl (lv_at hl 0 rfl) ?_
  refine lv_iload_n hx hb dX5_shifted_1 rfl (lv_at hl 1 rfl) ?_
  refine g_run (vx_runV (As := [.int (z2 (u))]) (rest := []) ⟨hx, hb, hml, hown, hts⟩ (m_isMelody l D ks bx bm hbm X _ hM hV (u) (by omega)) (cwV 1 hts gX5_shifted_X5_isMelody rfl rfl rfl (by decide +kernel) ⟨Nat.le_of_ble_eq_true rfl, Nat.le_of_ble_eq_true rfl⟩) (g_preV (r := (RX5, TX5, 23)) hG hS (rm_ge hbm) hM.1 rfl) rfl rfl hl.1 rfl (lv_room (Nat.le_of_ble_eq_true rfl)) dX5_shifted_2 ⟨Nat.le_of_ble_eq_true rfl, Nat.le_of_ble_eq_true rfl⟩) hS (fun _ h => h) (fun _ _ _ _ _ h => h.elim) (fun v H1 locs hp hz9 hk9 hS => ?_)
  rcases hp with ⟨q9, rfl, hM⟩ | ⟨q9, rfl, hM⟩
  · skip
    refine W.eq (g2 := F0 m 5 ls [.int (z2 (1))]) rfl ?_
    refine b_if_ne (tgt := 10) hx hb dX5_shifted_5 (by decide) ⟨by omega, by omega⟩ (fun _ => ?_) (fun c => absurd c (by omega))
    obtain ⟨k, rfl⟩ : ∃ k : Nat, u = k := ⟨(u).toNat, by omega⟩
    refine lv_iload_n hx hb dX5_shifted_10 rfl (lv_at hl 2 rfl) ?_
    refine b_iconst hx hb dX5_shifted_11 ?_
    refine b_bipush hx hb dX5_shifted_12 (by decide +kernel) ?_
    refine g_run (vx_runS (As := [.int (z2 (v2)), .int (z2 (0)), .int (z2 (15))]) (rest := []) ⟨hx, hb, hml, hown, hts⟩ (m_in l D ks bx bm _ (v2) (0) (15) ⟨⟨by omega, by omega⟩, ⟨by omega, by omega⟩, by omega, by omega⟩) (cwS 3 hts gX5_shifted_X5_in rfl rfl rfl (by decide +kernel) ⟨Nat.le_of_ble_eq_true rfl, Nat.le_of_ble_eq_true rfl⟩) (g_preS hG hS (rm_ge hbm)) rfl rfl hl.1 rfl (lv_room (Nat.le_of_ble_eq_true rfl)) dX5_shifted_14 ⟨Nat.le_of_ble_eq_true rfl, Nat.le_of_ble_eq_true rfl⟩) hS (fun _ h => h) (fun _ _ _ _ _ h => h.elim) (fun v H1 locs hp hz9 hk9 hS => ?_)
    obtain ⟨rfl, hH9⟩ := hp
    obtain rfl := hH9.symm
    obtain ⟨iv_14, ev_14, ib_14⟩ : ∃ z : Int, z = (if 0 ≤ v2 ∧ v2 ≤ 15 then 1 else 0) ∧ (((0 ≤ v2 ∧ v2 ≤ 15) ∧ z = 1) ∨ (¬ (0 ≤ v2 ∧ v2 ≤ 15) ∧ z = 0)) := ⟨_, rfl, by split <;> omega⟩
    rw [← ev_14]
    refine W.eq (g2 := F0 m 17 ls [.int (z2 (iv_14))]) rfl ?_
    refine b_if_ne (tgt := 27) hx hb dX5_shifted_17 (by decide) ⟨by omega, by omega⟩ (fun c_17 => ?_) (fun c_17 => ?_)
    · skip
      obtain ⟨cn, hcn⟩ : ∃ cn : Nat, X 3 k = cn := ⟨(X 3 k).toNat, by have := b3 k; omega⟩
      have b3k := b3 k
      refine lv_lconst (v := l2 0) hx hb dX5_shifted_27 (by decide +kernel) ?_
      refine lv_lstore_n (lv' := [(3, .long (l2 0)), (0, .ref bm), (1, .int (z2 (((k : Nat) : Int)))), (2, .int (z2 (v2)))]) hx hb dX5_shifted_28 rfl hl (by decide) rfl (fun ls hl => ?_)
      refine lv_aload_n hx hb dX5_shifted_29 rfl (lv_at hl 1 rfl) ?_
      refine g_get (C := RX5) (T := TX5) (N := 23) hx hb hts inX5 hown hG hM.1 rfl 3 (by decide) (by decide +kernel) rfl (v := .ref (bm + 2)) rfl dX5_shifted_30 ?_
      refine lv_iload_n hx hb dX5_shifted_33 rfl (lv_at hl 2 rfl) ?_
      have b_34 : 0 ≤ X 3 k ∧ X 3 k ≤ 12 := hV.1 3 _ (by decide) rfl
      refine g_iald (n := 12) hx hb hG (f := fun i => z2 ((up X 22 0 (0)) 3 i)) (show ca D (bm + 2) (iA (ks 0) 12 (fun i => z2 ((up X 22 0 (0)) 3 i))) _ from hM.2.1 3 (sr_of (by decide))) k ⟨by omega, by omega, by decide⟩ dX5_shifted_34 ?_
      refine W.eq (g2 := F0 m 35 ls (.int (z2 (X 3 k)) :: [])) rfl ?_
      refine b_iconst hx hb dX5_shifted_35 ?_
      refine b_isub hx hb dX5_shifted_36 ?_
      refine lv_istore (lv' := [(5, .int (z2 ((X 3 k) - 1))), (3, .long (l2 0)), (0, .ref bm), (1, .int (z2 (((k : Nat) : Int)))), (2, .int (z2 (v2)))]) hx hb dX5_shifted_37 hl (by decide) rfl (fun ls hl => ?_)
      refine lp_ms (σ := Nat) (fun j H locs ls => j ≤ cn ∧ PM D ks bm (up X 22 0 (0)) H ∧ va_S (AR (RM bm) s.heap.size) s.heap H locs ∧ lv_has ls 6 [(0, .ref bm), (1, .int (z2 (((k : Nat) : Int)))), (2, .int (z2 (v2))), (3, .long (l2 (shR (X 4 k) v2 cn j))), (5, .int (z2 ((cn : Int) - 1 - ((j : Nat) : Int))))]) (fun j => cn - j) (fun j H locs ls hI ih => ?_) 0 ⟨by omega, hM, hS, (by have e0 : (cn : Int) - 1 - ((0 : Nat) : Int) = X 3 k - 1 := (by omega); rw [e0]; exact lv_sub hl [2, 3, 4, 1, 0] rfl)⟩
      obtain ⟨hkN, hM, hS, hl⟩ := hI
      have sb := shR_b (X 4 k) v2 cn j
      have sp := p16 (k := j) (by omega)
      refine lv_iload hx hb dX5_shifted_39 (lv_at hl 4 rfl) ?_
      refine b_if_lt (tgt := 68) hx hb dX5_shifted_41 (by decide) ⟨by omega, by omega⟩ (fun c_41 => ?_) (fun c_41 => ?_)
      · skip
        obtain rfl : j = cn := by omega
        refine lv_lload_n hx hb dX5_shifted_68 rfl (lv_at hl 3 rfl) ?_
        exact g_lret hx hb hr hlocks hS ⟨Nat.le_of_ble_eq_true rfl, Nat.le_of_ble_eq_true rfl⟩ (⟨(shR (X 4 k) v2 cn cn), (up X 22 0 (0)), Or.inl (⟨k, cn, by omega, rfl, rfl⟩), rfl, hM⟩) dX5_shifted_69
      · skip
        refine lv_lload_n hx hb dX5_shifted_44 rfl (lv_at hl 3 rfl) ?_
        refine b_iconst hx hb dX5_shifted_45 ?_
        refine lv_lshl hx hb dX5_shifted_46 rfl ?_
        refine lv_aload_n hx hb dX5_shifted_47 rfl (lv_at hl 0 rfl) ?_
        refine lv_iload_n hx hb dX5_shifted_48 rfl (lv_at hl 1 rfl) ?_
        refine lv_iload hx hb dX5_shifted_49 (lv_at hl 4 rfl) ?_
        refine g_run (vx_runV (As := [.int (z2 (((k : Nat) : Int))), .int (z2 ((cn : Int) - 1 - ((j : Nat) : Int)))]) (rest := [.long ((l2 (shR (X 4 k) v2 cn j)) <<< ((z2 (4)).toInt64 &&& 63))]) ⟨hx, hb, hml, hown, hts⟩ (m_tone l D ks bx bm hbm (up X 22 0 (0)) _ hM (vs_uf (hV) (by decide)) (k := k) (q := cn - 1 - j) (((k : Nat) : Int)) ((cn : Int) - 1 - ((j : Nat) : Int)) (by omega) (by omega)) (cwV 2 hts gX5_shifted_X5_tone rfl rfl rfl (by decide +kernel) ⟨Nat.le_of_ble_eq_true rfl, Nat.le_of_ble_eq_true rfl⟩) (g_preV (r := (RX5, TX5, 23)) hG hS (rm_ge hbm) hM.1 rfl) rfl rfl hl.1 rfl (lv_room (Nat.le_of_ble_eq_true rfl)) dX5_shifted_51 ⟨Nat.le_of_ble_eq_true rfl, Nat.le_of_ble_eq_true rfl⟩) hS (fun _ h => h) (fun _ _ _ _ _ h => h.elim) (fun v H1 locs hp hz9 hk9 hS => ?_)
        obtain ⟨rfl, hH9⟩ := hp
        obtain rfl := hH9.symm
        have tb_51 := toS_b (X 4 k) (cn - 1 - j)
        refine W.eq (g2 := F0 m 54 ls [.int (z2 (toS (X 4 k) (cn - 1 - j))), .long ((l2 (shR (X 4 k) v2 cn j)) <<< ((z2 (4)).toInt64 &&& 63))]) rfl ?_
        refine lv_iload_n hx hb dX5_shifted_54 rfl (lv_at hl 2 rfl) ?_
        refine b_iadd hx hb dX5_shifted_55 ?_
        refine b_bipush hx hb dX5_shifted_56 (by decide +kernel) ?_
        refine b_irem hx hb ⟨⟨by omega, by omega⟩, by decide, by decide⟩ dX5_shifted_58 ?_
        refine lv_i2l (v := l2 (((toS (X 4 k) (cn - 1 - j)) + v2) % 16)) hx hb dX5_shifted_59 (z2_l2 ⟨by omega, by omega⟩) ?_
        refine lv_lor hx hb dX5_shifted_60 ?_
        refine b_topl (v := shR (X 4 k) v2 cn (j + 1)) (l2_dig ⟨by omega, by omega⟩ ⟨Int.emod_nonneg _ (by decide), Int.emod_lt_of_pos _ (by decide)⟩) ?_
        refine lv_lstore_n (lv' := [(3, .long (l2 (shR (X 4 k) v2 cn (j + 1)))), (0, .ref bm), (1, .int (z2 (((k : Nat) : Int)))), (2, .int (z2 (v2))), (5, .int (z2 ((cn : Int) - 1 - ((j : Nat) : Int))))]) hx hb dX5_shifted_61 rfl hl (by decide) rfl (fun ls hl => ?_)
        refine b_iinc (lv' := [(5, .int (z2 (((cn : Int) - 1 - ((j : Nat) : Int)) + (-1)))), (3, .long (l2 (shR (X 4 k) v2 cn (j + 1)))), (0, .ref bm), (1, .int (z2 (((k : Nat) : Int)))), (2, .int (z2 (v2)))]) hx hb dX5_shifted_62 hl (k := 4) rfl (by decide) rfl (fun ls hl => ?_)
        refine lv_goto (tgt := 39) hx hb dX5_shifted_65 (by decide) ?_
        have e1 : (cn : Int) - 1 - ((j + 1 : Nat) : Int) = (cn : Int) - 1 - ((j : Nat) : Int) + -1 := by omega
        exact ih (j + 1) _ _ _ (by omega) ⟨by omega, hM, hS, by rw [e1]; exact lv_sub hl [2, 3, 4, 1, 0] rfl⟩
    · skip
      refine lv_aload_n hx hb dX5_shifted_20 rfl (lv_at hl 0 rfl) ?_
      refine b_iconst hx hb dX5_shifted_21 ?_
      refine g_run (vx_runV (As := [.int (z2 (2))]) (rest := []) ⟨hx, hb, hml, hown, hts⟩ (m_fails l D ks bx bm hbm (up X 22 0 (0)) _ hM (vs_uf (hV) (by decide)) (2)) (cwV 1 hts gX5_shifted_X5_fails rfl rfl rfl (by decide +kernel) ⟨Nat.le_of_ble_eq_true rfl, Nat.le_of_ble_eq_true rfl⟩) (g_preV (r := (RX5, TX5, 23)) hG hS (rm_ge hbm) hM.1 rfl) rfl rfl hl.1 rfl (lv_room (Nat.le_of_ble_eq_true rfl)) dX5_shifted_22 ⟨Nat.le_of_ble_eq_true rfl, Nat.le_of_ble_eq_true rfl⟩) hS (fun _ h => h) (fun _ _ _ _ _ h => h.elim) (fun v H1 locs hp hz9 hk9 hS => ?_)
      obtain ⟨rfl, hM⟩ := hp
      refine W.eq (g2 := F0 m 25 ls [.int (z2 (0))]) rfl ?_
      refine lv_i2l (v := l2 (0)) hx hb dX5_shifted_25 (z2_l2 ⟨by omega, by omega⟩) ?_
      exact g_lret hx hb hr hlocks hS ⟨Nat.le_of_ble_eq_true rfl, Nat.le_of_ble_eq_true rfl⟩ (⟨(0), (up ((up X 22 0 (0))) 22 0 (2)), Or.inr (Or.inr (⟨by omega, rfl⟩)), rfl, hM⟩) dX5_shifted_26
  · skip
    refine W.eq (g2 := F0 m 5 ls [.int (z2 (0))]) rfl ?_
    refine b_if_ne (tgt := 10) hx hb dX5_shifted_5 (by decide) ⟨by omega, by omega⟩ (fun c => absurd c (by omega)) (fun _ => ?_)
    refine lv_lconst (v := l2 0) hx hb dX5_shifted_8 (by decide +kernel) ?_
    exact g_lret hx hb hr hlocks hS ⟨Nat.le_of_ble_eq_true rfl, Nat.le_of_ble_eq_true rfl⟩ (⟨0, (up X 22 0 (1)), Or.inr (Or.inl (⟨by omega, rfl⟩)), rfl, hM⟩) dX5_shifted_9
set_option maxHeartbeats 4000000 in
set_option maxRecDepth 100000 in
theorem m_turned (l : Launch) (D : va_G) (ks : Nat → ClassId) (bx : Nat) (bm : Nat) (hbm : bx ≤ bm) (X : Nat → Nat → Int) (H : Heap) (hM : PM D ks bm X H) (hV : VS X) (u : Int) (hu : -2147483648 ≤ u ∧ u < 2147483648) : KM l yX5_turned wsX5_turned ({ frames := 2, cells := 0, slots := 0, locals := 43 } : Room) D ks bx [.ref bm, .int (z2 u)] H (RM bm) (fun v H1 => ∃ (r : Int) (Y : Nat → Nat → Int), ro_turned X u r Y ∧ v = some (.long (l2 r)) ∧ PM D ks bm Y H1) (fun _ _ => False) := by
  refine KM.of (cc := cX5_turned) (maxL := 5) (ret := (some .long)) (by decide) rfl (Nat.le_of_ble_eq_true rfl) ?_
  intro p e s m below meth c hx hb hml hr hlocks hown hname hts hext hH0 hG ls hl
  subst hH0
  have hown : s.vm.findClass RX5 = some m.cls := hown
  have hS : va_S (AR (RM bm) s.heap.size) s.heap s.heap [] := va_S.rf
  have hl : lv_has ls 5 [(0, .ref bm), (1, .int (z2 (u)))] := hl
  have inX5 : ∀ w ∈ wsX50, w ∈ wsX5_turned := by decide +kernel
  have b1 : 0 ≤ X 1 0 ∧ X 1 0 ≤ 12 := hV.1 1 0 (by decide) rfl
  have b3 : ∀ q : Nat, 0 ≤ X 3 q ∧ X 3 q ≤ 12 := fun q => hV.1 3 q (by decide) rfl
  refine lv_aload_n hx hb dX5_turned_0 rfl (lv_at hl 0 rfl) ?_
  refine lv_iload_n hx hb dX5_turned_1 rfl (lv_at hl 1 rfl) ?_
  refine g_run (vx_runV (As := [.int (z2 (u))]) (rest := []) ⟨hx, hb, hml, hown, hts⟩ (m_isMelody l D ks bx bm hbm X _ hM hV (u) (by omega)) (cwV 1 hts gX5_turned_X5_isMelody rfl rfl rfl (by decide +kernel) ⟨Nat.le_of_ble_eq_true rfl, Nat.le_of_ble_eq_true rfl⟩) (g_preV (r := (RX5, TX5, 23)) hG hS (rm_ge hbm) hM.1 rfl) rfl rfl hl.1 rfl (lv_room (Nat.le_of_ble_eq_true rfl)) dX5_turned_2 ⟨Nat.le_of_ble_eq_true rfl, Nat.le_of_ble_eq_true rfl⟩) hS (fun _ h => h) (fun _ _ _ _ _ h => h.elim) (fun v H1 locs hp hz9 hk9 hS => ?_)
  rcases hp with ⟨q9, rfl, hM⟩ | ⟨q9, rfl, hM⟩
  · skip
    refine W.eq (g2 := F0 m 5 ls [.int (z2 (1))]) rfl ?_
    refine b_if_ne (tgt := 10) hx hb dX5_turned_5 (by decide) ⟨by omega, by omega⟩ (fun _ => ?_) (fun c => absurd c (by omega))
    obtain ⟨k, rfl⟩ : ∃ k : Nat, u = k := ⟨(u).toNat, by omega⟩
    obtain ⟨cn, hcn⟩ : ∃ cn : Nat, X 3 k = cn := ⟨(X 3 k).toNat, by have := b3 k; omega⟩
    have b3k := b3 k
    refine lv_lconst (v := l2 0) hx hb dX5_turned_10 (by decide +kernel) ?_
    refine lv_lstore_n (lv' := [(2, .long (l2 0)), (0, .ref bm), (1, .int (z2 (((k : Nat) : Int))))]) hx hb dX5_turned_11 rfl hl (by decide) rfl (fun ls hl => ?_)
    refine b_iconst hx hb dX5_turned_12 ?_
    refine lv_istore (lv' := [(4, .int (z2 (0))), (2, .long (l2 0)), (0, .ref bm), (1, .int (z2 (((k : Nat) : Int))))]) hx hb dX5_turned_13 hl (by decide) rfl (fun ls hl => ?_)
    refine lp_ms (σ := Nat) (fun j H locs ls => j ≤ cn ∧ PM D ks bm (up X 22 0 (0)) H ∧ va_S (AR (RM bm) s.heap.size) s.heap H locs ∧ lv_has ls 5 [(0, .ref bm), (1, .int (z2 (((k : Nat) : Int)))), (2, .long (l2 (tuR (X 4 k) j))), (4, .int (z2 (((j : Nat) : Int))))]) (fun j => cn - j) (fun j H locs ls hI ih => ?_) 0 ⟨by omega, hM, hS, lv_sub hl [2, 3, 1, 0] rfl⟩
    obtain ⟨hkN, hM, hS, hl⟩ := hI
    have sb := tuR_b (X 4 k) j
    have sp := p16 (k := j) (by omega)
    refine lv_iload hx hb dX5_turned_15 (lv_at hl 3 rfl) ?_
    refine lv_aload_n hx hb dX5_turned_17 rfl (lv_at hl 0 rfl) ?_
    refine g_get (C := RX5) (T := TX5) (N := 23) hx hb hts inX5 hown hG hM.1 rfl 3 (by decide) (by decide +kernel) rfl (v := .ref (bm + 2)) rfl dX5_turned_18 ?_
    refine lv_iload_n hx hb dX5_turned_21 rfl (lv_at hl 1 rfl) ?_
    have b_22 : 0 ≤ X 3 k ∧ X 3 k ≤ 12 := hV.1 3 _ (by decide) rfl
    refine g_iald (n := 12) hx hb hG (f := fun i => z2 ((up X 22 0 (0)) 3 i)) (show ca D (bm + 2) (iA (ks 0) 12 (fun i => z2 ((up X 22 0 (0)) 3 i))) _ from hM.2.1 3 (sr_of (by decide))) k ⟨by omega, by omega, by decide⟩ dX5_turned_22 ?_
    refine W.eq (g2 := F0 m 23 ls (.int (z2 (X 3 k)) :: [.int (z2 (((j : Nat) : Int)))])) rfl ?_
    refine b_icmp_ge (tgt := 45) hx hb dX5_turned_23 (by decide) ⟨⟨by omega, by omega⟩, ⟨by omega, by omega⟩⟩ (fun c_23 => ?_) (fun c_23 => ?_)
    · skip
      obtain rfl : j = cn := by omega
      refine lv_lload_n hx hb dX5_turned_45 rfl (lv_at hl 2 rfl) ?_
      exact g_lret hx hb hr hlocks hS ⟨Nat.le_of_ble_eq_true rfl, Nat.le_of_ble_eq_true rfl⟩ (⟨(tuR (X 4 k) cn), (up X 22 0 (0)), Or.inl (⟨k, cn, by omega, rfl, rfl⟩), rfl, hM⟩) dX5_turned_46
    · skip
      refine lv_lload_n hx hb dX5_turned_26 rfl (lv_at hl 2 rfl) ?_
      refine b_iconst hx hb dX5_turned_27 ?_
      refine lv_lshl hx hb dX5_turned_28 rfl ?_
      refine lv_aload_n hx hb dX5_turned_29 rfl (lv_at hl 0 rfl) ?_
      refine lv_iload_n hx hb dX5_turned_30 rfl (lv_at hl 1 rfl) ?_
      refine lv_iload hx hb dX5_turned_31 (lv_at hl 3 rfl) ?_
      refine g_run (vx_runV (As := [.int (z2 (((k : Nat) : Int))), .int (z2 (((j : Nat) : Int)))]) (rest := [.long ((l2 (tuR (X 4 k) j)) <<< ((z2 (4)).toInt64 &&& 63))]) ⟨hx, hb, hml, hown, hts⟩ (m_tone l D ks bx bm hbm (up X 22 0 (0)) _ hM (vs_uf (hV) (by decide)) (k := k) (q := j) (((k : Nat) : Int)) (((j : Nat) : Int)) (by omega) (by omega)) (cwV 2 hts gX5_turned_X5_tone rfl rfl rfl (by decide +kernel) ⟨Nat.le_of_ble_eq_true rfl, Nat.le_of_ble_eq_true rfl⟩) (g_preV (r := (RX5, TX5, 23)) hG hS (rm_ge hbm) hM.1 rfl) rfl rfl hl.1 rfl (lv_room (Nat.le_of_ble_eq_true rfl)) dX5_turned_33 ⟨Nat.le_of_ble_eq_true rfl, Nat.le_of_ble_eq_true rfl⟩) hS (fun _ h => h) (fun _ _ _ _ _ h => h.elim) (fun v H1 locs hp hz9 hk9 hS => ?_)
      obtain ⟨rfl, hH9⟩ := hp
      obtain rfl := hH9.symm
      have tb_33 := toS_b (X 4 k) j
      refine W.eq (g2 := F0 m 36 ls [.int (z2 (toS (X 4 k) j)), .long ((l2 (tuR (X 4 k) j)) <<< ((z2 (4)).toInt64 &&& 63))]) rfl ?_
      refine lv_i2l (v := l2 (toS (X 4 k) j)) hx hb dX5_turned_36 (z2_l2 ⟨by omega, by omega⟩) ?_
      refine lv_lor hx hb dX5_turned_37 ?_
      refine b_topl (v := tuR (X 4 k) (j + 1)) (l2_dig ⟨by omega, by omega⟩ (toS_b _ _)) ?_
      refine lv_lstore_n (lv' := [(2, .long (l2 (tuR (X 4 k) (j + 1)))), (0, .ref bm), (1, .int (z2 (((k : Nat) : Int)))), (4, .int (z2 (((j : Nat) : Int))))]) hx hb dX5_turned_38 rfl hl (by decide) rfl (fun ls hl => ?_)
      refine b_iinc (lv' := [(4, .int (z2 (((j : Nat) : Int) + 1))), (2, .long (l2 (tuR (X 4 k) (j + 1)))), (0, .ref bm), (1, .int (z2 (((k : Nat) : Int))))]) hx hb dX5_turned_39 hl (k := 3) rfl (by decide) rfl (fun ls hl => ?_)
      refine lv_goto (tgt := 15) hx hb dX5_turned_42 (by decide) ?_
      exact ih (j + 1) _ _ _ (by omega) ⟨by omega, hM, hS, lv_sub hl [2, 3, 1, 0] rfl⟩
  · skip
    refine W.eq (g2 := F0 m 5 ls [.int (z2 (0))]) rfl ?_
    refine b_if_ne (tgt := 10) hx hb dX5_turned_5 (by decide) ⟨by omega, by omega⟩ (fun c => absurd c (by omega)) (fun _ => ?_)
    refine lv_lconst (v := l2 0) hx hb dX5_turned_8 (by decide +kernel) ?_
    exact g_lret hx hb hr hlocks hS ⟨Nat.le_of_ble_eq_true rfl, Nat.le_of_ble_eq_true rfl⟩ (⟨0, (up X 22 0 (1)), Or.inr (⟨by omega, rfl⟩), rfl, hM⟩) dX5_turned_9
set_option maxHeartbeats 4000000 in
set_option maxRecDepth 100000 in
theorem m_areAlike (l : Launch) (D : va_G) (ks : Nat → ClassId) (bx : Nat) (bm : Nat) (hbm : bx ≤ bm) (X : Nat → Nat → Int) (H : Heap) (hM : PM D ks bm X H) (hV : VS X) (u v2 : Int) (hu : -2147483648 ≤ u ∧ u < 2147483648) (hv2 : -2147483648 ≤ v2 ∧ v2 < 2147483648) : KM l yX5_areAlike wsX5_areAlike ({ frames := 1, cells := 0, slots := 0, locals := 22 } : Room) D ks bx [.ref bm, .int (z2 u), .int (z2 v2)] H (RM bm) (fun v H1 => ∃ (r : Int) (Y : Nat → Nat → Int), ro_areAlike X u v2 r Y ∧ v = some (.int (z2 r)) ∧ PM D ks bm Y H1) (fun _ _ => False) := by
  refine KM.of (cc := cX5_areAlike) (maxL := 5) (ret := (some .boolean)) (by decide) rfl (Nat.le_of_ble_eq_true rfl) ?_
  intro p e s m below meth c hx hb hml hr hlocks hown hname hts hext hH0 hG ls hl
  subst hH0
  have hown : s.vm.findClass RX5 = some m.cls := hown
  have hS : va_S (AR (RM bm) s.heap.size) s.heap s.heap [] := va_S.rf
  have hl : lv_has ls 5 [(0, .ref bm), (1, .int (z2 (u))), (2, .int (z2 (v2)))] := hl
  have inX5 : ∀ w ∈ wsX50, w ∈ wsX5_areAlike := by decide +kernel
  have b1 : 0 ≤ X 1 0 ∧ X 1 0 ≤ 12 := hV.1 1 0 (by decide) rfl
  have b3 : ∀ q : Nat, 0 ≤ X 3 q ∧ X 3 q ≤ 12 := fun q => hV.1 3 q (by decide) rfl
  refine lv_aload_n hx hb dX5_areAlike_0 rfl (lv_at hl 0 rfl) ?_
  refine lv_iload_n hx hb dX5_areAlike_1 rfl (lv_at hl 1 rfl) ?_
  refine b_iconst hx hb dX5_areAlike_2 ?_
  refine lv_aload_n hx hb dX5_areAlike_3 rfl (lv_at hl 0 rfl) ?_
  have b_4 : 0 ≤ X 1 0 ∧ X 1 0 ≤ 12 := hV.1 1 _ (by decide) rfl
  refine g_get (C := RX5) (T := TX5) (N := 23) hx hb hts inX5 hown hG hM.1 rfl 1 (by decide) (by decide +kernel) rfl (v := .int (z2 (X 1 0))) rfl dX5_areAlike_4 ?_
  refine b_iconst hx hb dX5_areAlike_7 ?_
  refine b_isub hx hb dX5_areAlike_8 ?_
  refine g_run (vx_runS (As := [.int (z2 (u)), .int (z2 (0)), .int (z2 ((X 1 0) - 1))]) (rest := [.ref bm]) ⟨hx, hb, hml, hown, hts⟩ (m_in l D ks bx bm _ (u) (0) ((X 1 0) - 1) ⟨⟨by omega, by omega⟩, ⟨by omega, by omega⟩, by omega, by omega⟩) (cwS 3 hts gX5_areAlike_X5_in rfl rfl rfl (by decide +kernel) ⟨Nat.le_of_ble_eq_true rfl, Nat.le_of_ble_eq_true rfl⟩) (g_preS hG hS (rm_ge hbm)) rfl rfl hl.1 rfl (lv_room (Nat.le_of_ble_eq_true rfl)) dX5_areAlike_9 ⟨Nat.le_of_ble_eq_true rfl, Nat.le_of_ble_eq_true rfl⟩) hS (fun _ h => h) (fun _ _ _ _ _ h => h.elim) (fun v H1 locs hp hz9 hk9 hS => ?_)
  obtain ⟨rfl, hH9⟩ := hp
  obtain rfl := hH9.symm
  obtain ⟨iv_9, ev_9, ib_9⟩ : ∃ z : Int, z = (if 0 ≤ u ∧ u ≤ (X 1 0) - 1 then 1 else 0) ∧ (((0 ≤ u ∧ u ≤ (X 1 0) - 1) ∧ z = 1) ∨ (¬ (0 ≤ u ∧ u ≤ (X 1 0) - 1) ∧ z = 0)) := ⟨_, rfl, by split <;> omega⟩
  rw [← ev_9]
  refine W.eq (g2 := F0 m 12 ls [.int (z2 (iv_9)), .ref bm]) rfl ?_
  refine b_if_eq (tgt := 33) hx hb dX5_areAlike_12 (by decide) ⟨by omega, by omega⟩ (fun c_12 => ?_) (fun c_12 => ?_)
  · skip
    refine b_iconst hx hb dX5_areAlike_33 ?_
    refine g_put (C := RX5) (T := TX5) (N := 23) hx hb hts inX5 tyX5 tyX5_ok nmX5 hown hG hS hM.1 (Or.inl ⟨by omega, by omega⟩) rfl 22 (by decide) (by decide +kernel) rfl rfl (v := .int (z2 (1))) rfl rfl (Nat.le_of_ble_eq_true rfl) dX5_areAlike_34 (fun H locs he hz oq hS => ?_)
    have hM : PM D ks bm (up X 22 0 (1)) H := hM.own (k := 22) (by decide) he oq
    refine lv_aload_n hx hb dX5_areAlike_37 rfl (lv_at hl 0 rfl) ?_
    refine g_get (C := RX5) (T := TX5) (N := 23) hx hb hts inX5 hown hG hM.1 rfl 22 (by decide) (by decide +kernel) rfl (v := .int (z2 (1))) (congrArg (fun z => some (Value.int (z2 z))) (by simp [up] : (up X 22 0 (1)) 22 0 = 1)) dX5_areAlike_38 ?_
    refine b_if_gt (tgt := 59) hx hb dX5_areAlike_41 (by decide) ⟨by omega, by omega⟩ (fun _ => ?_) (fun c => absurd c (by omega))
    refine b_iconst hx hb dX5_areAlike_59 ?_
    exact g_zret hx hb hr hlocks hS (by decide +kernel) ⟨Nat.le_of_ble_eq_true rfl, Nat.le_of_ble_eq_true rfl⟩ (⟨0, up X 22 0 (1), Or.inr (⟨by omega, rfl⟩), rfl, hM⟩) dX5_areAlike_60
  · skip
    refine lv_iload_n hx hb dX5_areAlike_15 rfl (lv_at hl 2 rfl) ?_
    refine b_iconst hx hb dX5_areAlike_16 ?_
    refine lv_aload_n hx hb dX5_areAlike_17 rfl (lv_at hl 0 rfl) ?_
    have b_18 : 0 ≤ X 1 0 ∧ X 1 0 ≤ 12 := hV.1 1 _ (by decide) rfl
    refine g_get (C := RX5) (T := TX5) (N := 23) hx hb hts inX5 hown hG hM.1 rfl 1 (by decide) (by decide +kernel) rfl (v := .int (z2 (X 1 0))) rfl dX5_areAlike_18 ?_
    refine b_iconst hx hb dX5_areAlike_21 ?_
    refine b_isub hx hb dX5_areAlike_22 ?_
    refine g_run (vx_runS (As := [.int (z2 (v2)), .int (z2 (0)), .int (z2 ((X 1 0) - 1))]) (rest := [.ref bm]) ⟨hx, hb, hml, hown, hts⟩ (m_in l D ks bx bm _ (v2) (0) ((X 1 0) - 1) ⟨⟨by omega, by omega⟩, ⟨by omega, by omega⟩, by omega, by omega⟩) (cwS 3 hts gX5_areAlike_X5_in rfl rfl rfl (by decide +kernel) ⟨Nat.le_of_ble_eq_true rfl, Nat.le_of_ble_eq_true rfl⟩) (g_preS hG hS (rm_ge hbm)) rfl rfl hl.1 rfl (lv_room (Nat.le_of_ble_eq_true rfl)) dX5_areAlike_23 ⟨Nat.le_of_ble_eq_true rfl, Nat.le_of_ble_eq_true rfl⟩) hS (fun _ h => h) (fun _ _ _ _ _ h => h.elim) (fun v H1 locs hp hz9 hk9 hS => ?_)
    obtain ⟨rfl, hH9⟩ := hp
    obtain rfl := hH9.symm
    obtain ⟨iv_23, ev_23, ib_23⟩ : ∃ z : Int, z = (if 0 ≤ v2 ∧ v2 ≤ (X 1 0) - 1 then 1 else 0) ∧ (((0 ≤ v2 ∧ v2 ≤ (X 1 0) - 1) ∧ z = 1) ∨ (¬ (0 ≤ v2 ∧ v2 ≤ (X 1 0) - 1) ∧ z = 0)) := ⟨_, rfl, by split <;> omega⟩
    rw [← ev_23]
    refine W.eq (g2 := F0 m 26 ls [.int (z2 (iv_23)), .ref bm]) rfl ?_
    refine b_if_eq (tgt := 33) hx hb dX5_areAlike_26 (by decide) ⟨by omega, by omega⟩ (fun c_26 => ?_) (fun c_26 => ?_)
    · skip
      refine b_iconst hx hb dX5_areAlike_33 ?_
      refine g_put (C := RX5) (T := TX5) (N := 23) hx hb hts inX5 tyX5 tyX5_ok nmX5 hown hG hS hM.1 (Or.inl ⟨by omega, by omega⟩) rfl 22 (by decide) (by decide +kernel) rfl rfl (v := .int (z2 (1))) rfl rfl (Nat.le_of_ble_eq_true rfl) dX5_areAlike_34 (fun H locs he hz oq hS => ?_)
      have hM : PM D ks bm (up X 22 0 (1)) H := hM.own (k := 22) (by decide) he oq
      refine lv_aload_n hx hb dX5_areAlike_37 rfl (lv_at hl 0 rfl) ?_
      refine g_get (C := RX5) (T := TX5) (N := 23) hx hb hts inX5 hown hG hM.1 rfl 22 (by decide) (by decide +kernel) rfl (v := .int (z2 (1))) (congrArg (fun z => some (Value.int (z2 z))) (by simp [up] : (up X 22 0 (1)) 22 0 = 1)) dX5_areAlike_38 ?_
      refine b_if_gt (tgt := 59) hx hb dX5_areAlike_41 (by decide) ⟨by omega, by omega⟩ (fun _ => ?_) (fun c => absurd c (by omega))
      refine b_iconst hx hb dX5_areAlike_59 ?_
      exact g_zret hx hb hr hlocks hS (by decide +kernel) ⟨Nat.le_of_ble_eq_true rfl, Nat.le_of_ble_eq_true rfl⟩ (⟨0, up X 22 0 (1), Or.inr (⟨by omega, rfl⟩), rfl, hM⟩) dX5_areAlike_60
    · skip
      refine b_iconst hx hb dX5_areAlike_29 ?_
      refine lv_goto (tgt := 34) hx hb dX5_areAlike_30 (by decide) ?_
      refine g_put (C := RX5) (T := TX5) (N := 23) hx hb hts inX5 tyX5 tyX5_ok nmX5 hown hG hS hM.1 (Or.inl ⟨by omega, by omega⟩) rfl 22 (by decide) (by decide +kernel) rfl rfl (v := .int (z2 (0))) rfl rfl (Nat.le_of_ble_eq_true rfl) dX5_areAlike_34 (fun H locs he hz oq hS => ?_)
      have hM : PM D ks bm (up X 22 0 (0)) H := hM.own (k := 22) (by decide) he oq
      refine lv_aload_n hx hb dX5_areAlike_37 rfl (lv_at hl 0 rfl) ?_
      refine g_get (C := RX5) (T := TX5) (N := 23) hx hb hts inX5 hown hG hM.1 rfl 22 (by decide) (by decide +kernel) rfl (v := .int (z2 (0))) (congrArg (fun z => some (Value.int (z2 z))) (by simp [up] : (up X 22 0 (0)) 22 0 = 0)) dX5_areAlike_38 ?_
      refine b_if_gt (tgt := 59) hx hb dX5_areAlike_41 (by decide) ⟨by omega, by omega⟩ (fun c => absurd c (by omega)) (fun _ => ?_)
      refine lv_aload_n hx hb dX5_areAlike_44 rfl (lv_at hl 0 rfl) ?_
      refine g_get (C := RX5) (T := TX5) (N := 23) hx hb hts inX5 hown hG hM.1 rfl 3 (by decide) (by decide +kernel) rfl (v := .ref (bm + 2)) rfl dX5_areAlike_45 ?_
      refine lv_iload_n hx hb dX5_areAlike_48 rfl (lv_at hl 1 rfl) ?_
      have b_49 : 0 ≤ X 3 ((u).toNat) ∧ X 3 ((u).toNat) ≤ 12 := hV.1 3 _ (by decide) rfl
      refine g_iald (n := 12) hx hb hG (f := fun i => z2 ((up X 22 0 (0)) 3 i)) (show ca D (bm + 2) (iA (ks 0) 12 (fun i => z2 ((up X 22 0 (0)) 3 i))) _ from hM.2.1 3 (sr_of (by decide))) ((u).toNat) ⟨by omega, by omega, by decide⟩ dX5_areAlike_49 ?_
      refine W.eq (g2 := F0 m 50 ls (.int (z2 (X 3 ((u).toNat))) :: [])) rfl ?_
      refine lv_aload_n hx hb dX5_areAlike_50 rfl (lv_at hl 0 rfl) ?_
      refine g_get (C := RX5) (T := TX5) (N := 23) hx hb hts inX5 hown hG hM.1 rfl 3 (by decide) (by decide +kernel) rfl (v := .ref (bm + 2)) rfl dX5_areAlike_51 ?_
      refine lv_iload_n hx hb dX5_areAlike_54 rfl (lv_at hl 2 rfl) ?_
      have b_55 : 0 ≤ X 3 ((v2).toNat) ∧ X 3 ((v2).toNat) ≤ 12 := hV.1 3 _ (by decide) rfl
      refine g_iald (n := 12) hx hb hG (f := fun i => z2 ((up X 22 0 (0)) 3 i)) (show ca D (bm + 2) (iA (ks 0) 12 (fun i => z2 ((up X 22 0 (0)) 3 i))) _ from hM.2.1 3 (sr_of (by decide))) ((v2).toNat) ⟨by omega, by omega, by decide⟩ dX5_areAlike_55 ?_
      refine W.eq (g2 := F0 m 56 ls (.int (z2 (X 3 ((v2).toNat))) :: [.int (z2 (X 3 ((u).toNat)))])) rfl ?_
      refine b_icmp_eq (tgt := 61) hx hb dX5_areAlike_56 (by decide) ⟨⟨by omega, by omega⟩, ⟨by omega, by omega⟩⟩ (fun c_56 => ?_) (fun c_56 => ?_)
      · skip
        obtain ⟨k, rfl⟩ : ∃ k : Nat, u = k := ⟨(u).toNat, by omega⟩
        obtain ⟨k2, rfl⟩ : ∃ k2 : Nat, v2 = k2 := ⟨(v2).toNat, by omega⟩
        obtain ⟨cn, hcn⟩ : ∃ cn : Nat, X 3 k = cn := ⟨(X 3 k).toNat, by have := b3 k; omega⟩
        have b3k := b3 k
        refine b_iconst hx hb dX5_areAlike_61 ?_
        refine lv_istore_n (lv' := [(3, .int (z2 (1))), (0, .ref bm), (1, .int (z2 (((k : Nat) : Int)))), (2, .int (z2 (((k2 : Nat) : Int))))]) hx hb dX5_areAlike_62 rfl hl (by decide) rfl (fun ls hl => ?_)
        refine b_iconst hx hb dX5_areAlike_63 ?_
        refine lv_istore (lv' := [(4, .int (z2 (1))), (3, .int (z2 (1))), (0, .ref bm), (1, .int (z2 (((k : Nat) : Int)))), (2, .int (z2 (((k2 : Nat) : Int))))]) hx hb dX5_areAlike_64 hl (by decide) rfl (fun ls hl => ?_)
        refine lp_ms (σ := Nat) (fun j H locs ls => j ≤ cn ∧ (j = 0 ∨ j + 1 ≤ cn) ∧ PM D ks bm (up X 22 0 (0)) H ∧ va_S (AR (RM bm) s.heap.size) s.heap H locs ∧ lv_has ls 5 [(0, .ref bm), (1, .int (z2 (((k : Nat) : Int)))), (2, .int (z2 (((k2 : Nat) : Int)))), (3, .int (z2 (alM X k k2 j))), (4, .int (z2 (((j + 1 : Nat) : Int))))]) (fun j => cn - j) (fun j H locs ls hI ih => ?_) 0 ⟨by omega, Or.inl rfl, hM, hS, lv_sub hl [2, 3, 4, 1, 0] rfl⟩
        obtain ⟨hkN, hj0, hM, hS, hl⟩ := hI
        have ab := alM_b X k k2 j
        refine lv_iload hx hb dX5_areAlike_66 (lv_at hl 4 rfl) ?_
        refine lv_aload_n hx hb dX5_areAlike_68 rfl (lv_at hl 0 rfl) ?_
        refine g_get (C := RX5) (T := TX5) (N := 23) hx hb hts inX5 hown hG hM.1 rfl 3 (by decide) (by decide +kernel) rfl (v := .ref (bm + 2)) rfl dX5_areAlike_69 ?_
        refine lv_iload_n hx hb dX5_areAlike_72 rfl (lv_at hl 1 rfl) ?_
        have b_73 : 0 ≤ X 3 k ∧ X 3 k ≤ 12 := hV.1 3 _ (by decide) rfl
        refine g_iald (n := 12) hx hb hG (f := fun i => z2 ((up X 22 0 (0)) 3 i)) (show ca D (bm + 2) (iA (ks 0) 12 (fun i => z2 ((up X 22 0 (0)) 3 i))) _ from hM.2.1 3 (sr_of (by decide))) k ⟨by omega, by omega, by decide⟩ dX5_areAlike_73 ?_
        refine W.eq (g2 := F0 m 74 ls (.int (z2 (X 3 k)) :: [.int (z2 (((j + 1 : Nat) : Int)))])) rfl ?_
        refine b_icmp_ge (tgt := 128) hx hb dX5_areAlike_74 (by decide) ⟨⟨by omega, by omega⟩, ⟨by omega, by omega⟩⟩ (fun c_74 => ?_) (fun c_74 => ?_)
        · skip
          have zn9 : narrow .boolean (.int (z2 (alM X k k2 j))) = .int (z2 (alM X k k2 j)) := by rcases (show alM X k k2 j = 1 ∨ alM X k k2 j = 0 by omega) with q | q <;> (rw [q]; decide +kernel)
          refine lv_iload_n hx hb dX5_areAlike_128 rfl (lv_at hl 3 rfl) ?_
          obtain rfl : j = cn - 1 := by omega
          exact g_zret hx hb hr hlocks hS zn9 ⟨Nat.le_of_ble_eq_true rfl, Nat.le_of_ble_eq_true rfl⟩ (⟨alM X k k2 j, (up X 22 0 (0)), Or.inl (⟨k, k2, by omega, by rw [if_pos (by omega), hcn]; rfl, rfl⟩), rfl, hM⟩) dX5_areAlike_129
        · skip
          refine lv_iload_n hx hb dX5_areAlike_77 rfl (lv_at hl 3 rfl) ?_
          refine b_if_eq (tgt := 120) hx hb dX5_areAlike_78 (by decide) ⟨by omega, by omega⟩ (fun c_78 => ?_) (fun c_78 => ?_)
          · skip
            refine b_iconst hx hb dX5_areAlike_120 ?_
            refine lv_istore_n (lv' := [(3, .int (z2 (0))), (0, .ref bm), (1, .int (z2 (((k : Nat) : Int)))), (2, .int (z2 (((k2 : Nat) : Int)))), (4, .int (z2 (((j + 1 : Nat) : Int))))]) hx hb dX5_areAlike_121 rfl hl (by decide) rfl (fun ls hl => ?_)
            refine b_iinc (lv' := [(4, .int (z2 (((j + 1 : Nat) : Int) + 1))), (3, .int (z2 (0))), (0, .ref bm), (1, .int (z2 (((k : Nat) : Int)))), (2, .int (z2 (((k2 : Nat) : Int))))]) hx hb dX5_areAlike_122 hl (k := 4) rfl (by decide) rfl (fun ls hl => ?_)
            refine lv_goto (tgt := 66) hx hb dX5_areAlike_125 (by decide) ?_
            have e1 : alM X k k2 (j + 1) = 0 := if_neg (fun q => by omega)
            exact ih (j + 1) _ _ _ (by omega) ⟨by omega, (by omega), hM, hS, by rw [e1]; exact lv_sub hl [2, 3, 4, 1, 0] rfl⟩
          · skip
            refine lv_aload_n hx hb dX5_areAlike_81 rfl (lv_at hl 0 rfl) ?_
            refine lv_iload_n hx hb dX5_areAlike_82 rfl (lv_at hl 1 rfl) ?_
            refine lv_iload hx hb dX5_areAlike_83 (lv_at hl 4 rfl) ?_
            refine g_run (vx_runV (As := [.int (z2 (((k : Nat) : Int))), .int (z2 (((j + 1 : Nat) : Int)))]) (rest := []) ⟨hx, hb, hml, hown, hts⟩ (m_tone l D ks bx bm hbm (up X 22 0 (0)) _ hM (vs_uf (hV) (by decide)) (k := k) (q := j + 1) (((k : Nat) : Int)) (((j + 1 : Nat) : Int)) (by omega) (by omega)) (cwV 2 hts gX5_areAlike_X5_tone rfl rfl rfl (by decide +kernel) ⟨Nat.le_of_ble_eq_true rfl, Nat.le_of_ble_eq_true rfl⟩) (g_preV (r := (RX5, TX5, 23)) hG hS (rm_ge hbm) hM.1 rfl) rfl rfl hl.1 rfl (lv_room (Nat.le_of_ble_eq_true rfl)) dX5_areAlike_85 ⟨Nat.le_of_ble_eq_true rfl, Nat.le_of_ble_eq_true rfl⟩) hS (fun _ h => h) (fun _ _ _ _ _ h => h.elim) (fun v H1 locs hp hz9 hk9 hS => ?_)
            obtain ⟨rfl, hH9⟩ := hp
            obtain rfl := hH9.symm
            have tb_85 := toS_b (X 4 k) (j + 1)
            refine W.eq (g2 := F0 m 88 ls [.int (z2 (toS (X 4 k) (j + 1)))]) rfl ?_
            refine lv_aload_n hx hb dX5_areAlike_88 rfl (lv_at hl 0 rfl) ?_
            refine lv_iload_n hx hb dX5_areAlike_89 rfl (lv_at hl 2 rfl) ?_
            refine lv_iload hx hb dX5_areAlike_90 (lv_at hl 4 rfl) ?_
            refine g_run (vx_runV (As := [.int (z2 (((k2 : Nat) : Int))), .int (z2 (((j + 1 : Nat) : Int)))]) (rest := [.int (z2 (toS (X 4 k) (j + 1)))]) ⟨hx, hb, hml, hown, hts⟩ (m_tone l D ks bx bm hbm (up X 22 0 (0)) _ hM (vs_uf (hV) (by decide)) (k := k2) (q := j + 1) (((k2 : Nat) : Int)) (((j + 1 : Nat) : Int)) (by omega) (by omega)) (cwV 2 hts gX5_areAlike_X5_tone rfl rfl rfl (by decide +kernel) ⟨Nat.le_of_ble_eq_true rfl, Nat.le_of_ble_eq_true rfl⟩) (g_preV (r := (RX5, TX5, 23)) hG hS (rm_ge hbm) hM.1 rfl) rfl rfl hl.1 rfl (lv_room (Nat.le_of_ble_eq_true rfl)) dX5_areAlike_92 ⟨Nat.le_of_ble_eq_true rfl, Nat.le_of_ble_eq_true rfl⟩) hS (fun _ h => h) (fun _ _ _ _ _ h => h.elim) (fun v H1 locs hp hz9 hk9 hS => ?_)
            obtain ⟨rfl, hH9⟩ := hp
            obtain rfl := hH9.symm
            have tb_92 := toS_b (X 4 k2) (j + 1)
            refine W.eq (g2 := F0 m 95 ls [.int (z2 (toS (X 4 k2) (j + 1))), .int (z2 (toS (X 4 k) (j + 1)))]) rfl ?_
            refine b_isub hx hb dX5_areAlike_95 ?_
            refine lv_aload_n hx hb dX5_areAlike_96 rfl (lv_at hl 0 rfl) ?_
            refine lv_iload_n hx hb dX5_areAlike_97 rfl (lv_at hl 1 rfl) ?_
            refine b_iconst hx hb dX5_areAlike_98 ?_
            refine g_run (vx_runV (As := [.int (z2 (((k : Nat) : Int))), .int (z2 (0))]) (rest := [.int (z2 ((toS (X 4 k) (j + 1)) - (toS (X 4 k2) (j + 1))))]) ⟨hx, hb, hml, hown, hts⟩ (m_tone l D ks bx bm hbm (up X 22 0 (0)) _ hM (vs_uf (hV) (by decide)) (k := k) (q := 0) (((k : Nat) : Int)) (0) (by omega) (by omega)) (cwV 2 hts gX5_areAlike_X5_tone rfl rfl rfl (by decide +kernel) ⟨Nat.le_of_ble_eq_true rfl, Nat.le_of_ble_eq_true rfl⟩) (g_preV (r := (RX5, TX5, 23)) hG hS (rm_ge hbm) hM.1 rfl) rfl rfl hl.1 rfl (lv_room (Nat.le_of_ble_eq_true rfl)) dX5_areAlike_99 ⟨Nat.le_of_ble_eq_true rfl, Nat.le_of_ble_eq_true rfl⟩) hS (fun _ h => h) (fun _ _ _ _ _ h => h.elim) (fun v H1 locs hp hz9 hk9 hS => ?_)
            obtain ⟨rfl, hH9⟩ := hp
            obtain rfl := hH9.symm
            have tb_99 := toS_b (X 4 k) 0
            refine W.eq (g2 := F0 m 102 ls [.int (z2 (toS (X 4 k) 0)), .int (z2 ((toS (X 4 k) (j + 1)) - (toS (X 4 k2) (j + 1))))]) rfl ?_
            refine b_isub hx hb dX5_areAlike_102 ?_
            refine lv_aload_n hx hb dX5_areAlike_103 rfl (lv_at hl 0 rfl) ?_
            refine lv_iload_n hx hb dX5_areAlike_104 rfl (lv_at hl 2 rfl) ?_
            refine b_iconst hx hb dX5_areAlike_105 ?_
            refine g_run (vx_runV (As := [.int (z2 (((k2 : Nat) : Int))), .int (z2 (0))]) (rest := [.int (z2 (((toS (X 4 k) (j + 1)) - (toS (X 4 k2) (j + 1))) - (toS (X 4 k) 0)))]) ⟨hx, hb, hml, hown, hts⟩ (m_tone l D ks bx bm hbm (up X 22 0 (0)) _ hM (vs_uf (hV) (by decide)) (k := k2) (q := 0) (((k2 : Nat) : Int)) (0) (by omega) (by omega)) (cwV 2 hts gX5_areAlike_X5_tone rfl rfl rfl (by decide +kernel) ⟨Nat.le_of_ble_eq_true rfl, Nat.le_of_ble_eq_true rfl⟩) (g_preV (r := (RX5, TX5, 23)) hG hS (rm_ge hbm) hM.1 rfl) rfl rfl hl.1 rfl (lv_room (Nat.le_of_ble_eq_true rfl)) dX5_areAlike_106 ⟨Nat.le_of_ble_eq_true rfl, Nat.le_of_ble_eq_true rfl⟩) hS (fun _ h => h) (fun _ _ _ _ _ h => h.elim) (fun v H1 locs hp hz9 hk9 hS => ?_)
            obtain ⟨rfl, hH9⟩ := hp
            obtain rfl := hH9.symm
            have tb_106 := toS_b (X 4 k2) 0
            refine W.eq (g2 := F0 m 109 ls [.int (z2 (toS (X 4 k2) 0)), .int (z2 (((toS (X 4 k) (j + 1)) - (toS (X 4 k2) (j + 1))) - (toS (X 4 k) 0)))]) rfl ?_
            refine b_iadd hx hb dX5_areAlike_109 ?_
            refine b_bipush hx hb dX5_areAlike_110 (by decide +kernel) ?_
            refine lv_irem hx hb dX5_areAlike_112 (by decide +kernel) ?_
            rw [z2_tm _ ⟨by omega, by omega⟩]
            have tm9 := tm_b ((((toS (X 4 k) (j + 1)) - (toS (X 4 k2) (j + 1))) - (toS (X 4 k) 0)) + (toS (X 4 k2) 0)) ⟨by omega, by omega⟩
            refine b_if_ne (tgt := 120) hx hb dX5_areAlike_113 (by decide) ⟨by omega, by omega⟩ (fun c_113 => ?_) (fun c_113 => ?_)
            · skip
              refine b_iconst hx hb dX5_areAlike_120 ?_
              refine lv_istore_n (lv' := [(3, .int (z2 (0))), (0, .ref bm), (1, .int (z2 (((k : Nat) : Int)))), (2, .int (z2 (((k2 : Nat) : Int)))), (4, .int (z2 (((j + 1 : Nat) : Int))))]) hx hb dX5_areAlike_121 rfl hl (by decide) rfl (fun ls hl => ?_)
              refine b_iinc (lv' := [(4, .int (z2 (((j + 1 : Nat) : Int) + 1))), (3, .int (z2 (0))), (0, .ref bm), (1, .int (z2 (((k : Nat) : Int)))), (2, .int (z2 (((k2 : Nat) : Int))))]) hx hb dX5_areAlike_122 hl (k := 4) rfl (by decide) rfl (fun ls hl => ?_)
              refine lv_goto (tgt := 66) hx hb dX5_areAlike_125 (by decide) ?_
              have e1 : alM X k k2 (j + 1) = 0 := if_neg (fun q => by omega)
              exact ih (j + 1) _ _ _ (by omega) ⟨by omega, (by omega), hM, hS, by rw [e1]; exact lv_sub hl [2, 3, 4, 1, 0] rfl⟩
            · skip
              refine b_iconst hx hb dX5_areAlike_116 ?_
              refine lv_goto (tgt := 121) hx hb dX5_areAlike_117 (by decide) ?_
              refine lv_istore_n (lv' := [(3, .int (z2 (1))), (0, .ref bm), (1, .int (z2 (((k : Nat) : Int)))), (2, .int (z2 (((k2 : Nat) : Int)))), (4, .int (z2 (((j + 1 : Nat) : Int))))]) hx hb dX5_areAlike_121 rfl hl (by decide) rfl (fun ls hl => ?_)
              refine b_iinc (lv' := [(4, .int (z2 (((j + 1 : Nat) : Int) + 1))), (3, .int (z2 (1))), (0, .ref bm), (1, .int (z2 (((k : Nat) : Int)))), (2, .int (z2 (((k2 : Nat) : Int))))]) hx hb dX5_areAlike_122 hl (k := 4) rfl (by decide) rfl (fun ls hl => ?_)
              refine lv_goto (tgt := 66) hx hb dX5_areAlike_125 (by decide) ?_
              have e1 : alM X k k2 (j + 1) = 1 := if_pos ⟨by omega, by omega⟩
              exact ih (j + 1) _ _ _ (by omega) ⟨by omega, (by omega), hM, hS, by rw [e1]; exact lv_sub hl [2, 3, 4, 1, 0] rfl⟩
      · skip
        refine b_iconst hx hb dX5_areAlike_59 ?_
        exact g_zret hx hb hr hlocks hS (by decide +kernel) ⟨Nat.le_of_ble_eq_true rfl, Nat.le_of_ble_eq_true rfl⟩ (⟨0, up X 22 0 (0), Or.inl (⟨(u).toNat, (v2).toNat, by omega, (if_neg (by omega)).symm, rfl⟩), rfl, hM⟩) dX5_areAlike_60
set_option maxHeartbeats 4000000 in
set_option maxRecDepth 100000 in
theorem m_addMelody (l : Launch) (D : va_G) (ks : Nat → ClassId) (bx : Nat) (bm : Nat) (hbm : bx ≤ bm) (X : Nat → Nat → Int) (H : Heap) (hM : PM D ks bm X H) (hV : VS X) (u v2 t : Int) (hu : -2147483648 ≤ u ∧ u < 2147483648) (hv2 : -2147483648 ≤ v2 ∧ v2 < 2147483648) (ht : -9223372036854775808 ≤ t ∧ t < 9223372036854775808) : KM l yX5_addMelody wsX5_addMelody ({ frames := 2, cells := 0, slots := 0, locals := 42 } : Room) D ks bx [.ref bm, .int (z2 u), .int (z2 v2), .long (l2 t)] H (RM bm) (fun v H1 => ∃ (r : Int) (Y : Nat → Nat → Int), ro_addMelody X u v2 t r Y ∧ v = some (.int (z2 r)) ∧ PM D ks bm Y H1) (fun _ _ => False) := by
  refine KM.of (cc := cX5_addMelody) (maxL := 5) (ret := (some .int)) (by decide) rfl (Nat.le_of_ble_eq_true rfl) ?_
  intro p e s m below meth c hx hb hml hr hlocks hown hname hts hext hH0 hG ls hl
  subst hH0
  have hown : s.vm.findClass RX5 = some m.cls := hown
  have hS : va_S (AR (RM bm) s.heap.size) s.heap s.heap [] := va_S.rf
  have hl : lv_has ls 5 [(0, .ref bm), (1, .int (z2 (u))), (2, .int (z2 (v2))), (3, .long (l2 t))] := hl
  have inX5 : ∀ w ∈ wsX50, w ∈ wsX5_addMelody := by decide +kernel
  have b1 : 0 ≤ X 1 0 ∧ X 1 0 ≤ 12 := hV.1 1 0 (by decide) rfl
  refine lv_aload_n hx hb dX5_addMelody_0 rfl (lv_at hl 0 rfl) ?_
  refine lv_iload_n hx hb dX5_addMelody_1 rfl (lv_at hl 1 rfl) ?_
  refine g_run (vx_runS (As := [.int (z2 (u))]) (rest := [.ref bm]) ⟨hx, hb, hml, hown, hts⟩ (m_isHouse l D ks bx bm hbm _ (u) ⟨by omega, by omega⟩) (cwS 1 hts gX5_addMelody_X5_isHouse rfl rfl rfl (by decide +kernel) ⟨Nat.le_of_ble_eq_true rfl, Nat.le_of_ble_eq_true rfl⟩) (g_preS hG hS (rm_ge hbm)) rfl rfl hl.1 rfl (lv_room (Nat.le_of_ble_eq_true rfl)) dX5_addMelody_2 ⟨Nat.le_of_ble_eq_true rfl, Nat.le_of_ble_eq_true rfl⟩) hS (fun _ h => h) (fun _ _ _ _ _ h => h.elim) (fun v H1 locs hp hz9 hk9 hS => ?_)
  obtain ⟨rfl, hH9⟩ := hp
  obtain rfl := hH9.symm
  obtain ⟨iv_2, ev_2, ib_2⟩ : ∃ z : Int, z = (if 0 ≤ u ∧ u ≤ 7 then 1 else 0) ∧ (((0 ≤ u ∧ u ≤ 7) ∧ z = 1) ∨ (¬ (0 ≤ u ∧ u ≤ 7) ∧ z = 0)) := ⟨_, rfl, by split <;> omega⟩
  rw [← ev_2]
  refine W.eq (g2 := F0 m 5 ls [.int (z2 (iv_2)), .ref bm]) rfl ?_
  refine b_if_eq (tgt := 12) hx hb dX5_addMelody_5 (by decide) ⟨by omega, by omega⟩ (fun c_5 => ?_) (fun c_5 => ?_)
  · skip
    refine b_iconst hx hb dX5_addMelody_12 ?_
    refine g_put (C := RX5) (T := TX5) (N := 23) hx hb hts inX5 tyX5 tyX5_ok nmX5 hown hG hS hM.1 (Or.inl ⟨by omega, by omega⟩) rfl 22 (by decide) (by decide +kernel) rfl rfl (v := .int (z2 (1))) rfl rfl (Nat.le_of_ble_eq_true rfl) dX5_addMelody_13 (fun H locs he hz oq hS => ?_)
    have hM : PM D ks bm (up X 22 0 (1)) H := hM.own (k := 22) (by decide) he oq
    refine lv_aload_n hx hb dX5_addMelody_16 rfl (lv_at hl 0 rfl) ?_
    refine g_get (C := RX5) (T := TX5) (N := 23) hx hb hts inX5 hown hG hM.1 rfl 22 (by decide) (by decide +kernel) rfl (v := .int (z2 (1))) (congrArg (fun z => some (Value.int (z2 z))) (by simp [up] : (up X 22 0 (1)) 22 0 = 1)) dX5_addMelody_17 ?_
    refine b_if_le (tgt := 25) hx hb dX5_addMelody_20 (by decide) ⟨by omega, by omega⟩ (fun c => absurd c (by omega)) (fun _ => ?_)
    refine b_iconst hx hb dX5_addMelody_23 ?_
    exact g_iret hx hb hr hlocks hS ⟨Nat.le_of_ble_eq_true rfl, Nat.le_of_ble_eq_true rfl⟩ (⟨0, up X 22 0 (1), Or.inr (Or.inl (⟨by omega, rfl⟩)), rfl, hM⟩) dX5_addMelody_24
  · skip
    refine b_iconst hx hb dX5_addMelody_8 ?_
    refine lv_goto (tgt := 13) hx hb dX5_addMelody_9 (by decide) ?_
    refine g_put (C := RX5) (T := TX5) (N := 23) hx hb hts inX5 tyX5 tyX5_ok nmX5 hown hG hS hM.1 (Or.inl ⟨by omega, by omega⟩) rfl 22 (by decide) (by decide +kernel) rfl rfl (v := .int (z2 (0))) rfl rfl (Nat.le_of_ble_eq_true rfl) dX5_addMelody_13 (fun H locs he hz oq hS => ?_)
    have hM : PM D ks bm (up X 22 0 (0)) H := hM.own (k := 22) (by decide) he oq
    refine lv_aload_n hx hb dX5_addMelody_16 rfl (lv_at hl 0 rfl) ?_
    refine g_get (C := RX5) (T := TX5) (N := 23) hx hb hts inX5 hown hG hM.1 rfl 22 (by decide) (by decide +kernel) rfl (v := .int (z2 (0))) (congrArg (fun z => some (Value.int (z2 z))) (by simp [up] : (up X 22 0 (0)) 22 0 = 0)) dX5_addMelody_17 ?_
    refine b_if_le (tgt := 25) hx hb dX5_addMelody_20 (by decide) ⟨by omega, by omega⟩ (fun _ => ?_) (fun c => absurd c (by omega))
    refine lv_iload_n hx hb dX5_addMelody_25 rfl (lv_at hl 2 rfl) ?_
    refine b_iconst hx hb dX5_addMelody_26 ?_
    refine b_bipush hx hb dX5_addMelody_27 (by decide +kernel) ?_
    refine g_run (vx_runS (As := [.int (z2 (v2)), .int (z2 (1)), .int (z2 (12))]) (rest := []) ⟨hx, hb, hml, hown, hts⟩ (m_in l D ks bx bm _ (v2) (1) (12) ⟨⟨by omega, by omega⟩, ⟨by omega, by omega⟩, by omega, by omega⟩) (cwS 3 hts gX5_addMelody_X5_in rfl rfl rfl (by decide +kernel) ⟨Nat.le_of_ble_eq_true rfl, Nat.le_of_ble_eq_true rfl⟩) (g_preS hG hS (rm_ge hbm)) rfl rfl hl.1 rfl (lv_room (Nat.le_of_ble_eq_true rfl)) dX5_addMelody_29 ⟨Nat.le_of_ble_eq_true rfl, Nat.le_of_ble_eq_true rfl⟩) hS (fun _ h => h) (fun _ _ _ _ _ h => h.elim) (fun v H1 locs hp hz9 hk9 hS => ?_)
    obtain ⟨rfl, hH9⟩ := hp
    obtain rfl := hH9.symm
    obtain ⟨iv_29, ev_29, ib_29⟩ : ∃ z : Int, z = (if 1 ≤ v2 ∧ v2 ≤ 12 then 1 else 0) ∧ (((1 ≤ v2 ∧ v2 ≤ 12) ∧ z = 1) ∨ (¬ (1 ≤ v2 ∧ v2 ≤ 12) ∧ z = 0)) := ⟨_, rfl, by split <;> omega⟩
    rw [← ev_29]
    refine W.eq (g2 := F0 m 32 ls [.int (z2 (iv_29))]) rfl ?_
    refine b_if_eq (tgt := 51) hx hb dX5_addMelody_32 (by decide) ⟨by omega, by omega⟩ (fun c_32 => ?_) (fun c_32 => ?_)
    · skip
      refine lv_aload_n hx hb dX5_addMelody_51 rfl (lv_at hl 0 rfl) ?_
      refine b_iconst hx hb dX5_addMelody_52 ?_
      refine g_run (vx_runV (As := [.int (z2 (2))]) (rest := []) ⟨hx, hb, hml, hown, hts⟩ (m_fails l D ks bx bm hbm (up X 22 0 (0)) _ hM (vs_uf (hV) (by decide)) (2)) (cwV 1 hts gX5_addMelody_X5_fails rfl rfl rfl (by decide +kernel) ⟨Nat.le_of_ble_eq_true rfl, Nat.le_of_ble_eq_true rfl⟩) (g_preV (r := (RX5, TX5, 23)) hG hS (rm_ge hbm) hM.1 rfl) rfl rfl hl.1 rfl (lv_room (Nat.le_of_ble_eq_true rfl)) dX5_addMelody_53 ⟨Nat.le_of_ble_eq_true rfl, Nat.le_of_ble_eq_true rfl⟩) hS (fun _ h => h) (fun _ _ _ _ _ h => h.elim) (fun v H1 locs hp hz9 hk9 hS => ?_)
      obtain ⟨rfl, hM⟩ := hp
      refine W.eq (g2 := F0 m 56 ls [.int (z2 (0))]) rfl ?_
      exact g_iret hx hb hr hlocks hS ⟨Nat.le_of_ble_eq_true rfl, Nat.le_of_ble_eq_true rfl⟩ (⟨0, (up (up X 22 0 (0)) 22 0 (2)), Or.inr (Or.inr (Or.inl (⟨⟨by omega, AM2⟩, rfl⟩))), rfl, hM⟩) dX5_addMelody_56
    · skip
      obtain ⟨cn, rfl⟩ : ∃ cn : Nat, v2 = cn := ⟨(v2).toNat, by omega⟩
      have tb : 0 ≤ t → 0 ≤ t / 16 ^ cn ∧ t / 16 ^ cn ≤ t := fun h => ⟨Int.ediv_nonneg h (Int.le_of_lt (Int.pow_pos (by decide))), Int.ediv_le_self _ h⟩
      refine lv_lload_n hx hb dX5_addMelody_35 rfl (lv_at hl 3 rfl) ?_
      refine lv_lconst (v := l2 0) hx hb dX5_addMelody_36 (by decide +kernel) ?_
      refine W.lcmp hx hb dX5_addMelody_37 ?_
      obtain ⟨cv37, ecv37, bcv37⟩ : ∃ z : Int, z = (if 0 < t then 1 else if t = 0 then 0 else -1) ∧ -1 ≤ z ∧ z ≤ 1 := ⟨_, rfl, by (repeat' split) <;> omega, by (repeat' split) <;> omega⟩
      refine b_top (v := cv37) ((l2_cmp ⟨by omega, by omega⟩ ⟨by omega, by omega⟩).trans (by rw [ecv37])) ?_
      refine b_if_lt (tgt := 51) hx hb dX5_addMelody_38 (by decide) ⟨by omega, by omega⟩ (fun c_38 => ?_) (fun c_38 => ?_)
      · skip
        refine lv_aload_n hx hb dX5_addMelody_51 rfl (lv_at hl 0 rfl) ?_
        refine b_iconst hx hb dX5_addMelody_52 ?_
        refine g_run (vx_runV (As := [.int (z2 (2))]) (rest := []) ⟨hx, hb, hml, hown, hts⟩ (m_fails l D ks bx bm hbm (up X 22 0 (0)) _ hM (vs_uf (hV) (by decide)) (2)) (cwV 1 hts gX5_addMelody_X5_fails rfl rfl rfl (by decide +kernel) ⟨Nat.le_of_ble_eq_true rfl, Nat.le_of_ble_eq_true rfl⟩) (g_preV (r := (RX5, TX5, 23)) hG hS (rm_ge hbm) hM.1 rfl) rfl rfl hl.1 rfl (lv_room (Nat.le_of_ble_eq_true rfl)) dX5_addMelody_53 ⟨Nat.le_of_ble_eq_true rfl, Nat.le_of_ble_eq_true rfl⟩) hS (fun _ h => h) (fun _ _ _ _ _ h => h.elim) (fun v H1 locs hp hz9 hk9 hS => ?_)
        obtain ⟨rfl, hM⟩ := hp
        refine W.eq (g2 := F0 m 56 ls [.int (z2 (0))]) rfl ?_
        exact g_iret hx hb hr hlocks hS ⟨Nat.le_of_ble_eq_true rfl, Nat.le_of_ble_eq_true rfl⟩ (⟨0, (up (up X 22 0 (0)) 22 0 (2)), Or.inr (Or.inr (Or.inl (⟨⟨by omega, AM2⟩, rfl⟩))), rfl, hM⟩) dX5_addMelody_56
      · skip
        refine lv_lload_n hx hb dX5_addMelody_41 rfl (lv_at hl 3 rfl) ?_
        refine b_iconst hx hb dX5_addMelody_42 ?_
        refine lv_iload_n hx hb dX5_addMelody_43 rfl (lv_at hl 2 rfl) ?_
        refine b_imul hx hb dX5_addMelody_44 ?_
        refine lv_lshr hx hb dX5_addMelody_45 rfl ?_
        have tb2 := tb (by omega)
        refine b_topl (v := t / 16 ^ cn) (l2_tone ⟨by omega, by omega⟩ (by omega)) ?_
        refine lv_lconst (v := l2 0) hx hb dX5_addMelody_46 (by decide +kernel) ?_
        refine W.lcmp hx hb dX5_addMelody_47 ?_
        obtain ⟨cv47, ecv47, bcv47⟩ : ∃ z : Int, z = (if 0 < (t / 16 ^ cn) then 1 else if (t / 16 ^ cn) = 0 then 0 else -1) ∧ -1 ≤ z ∧ z ≤ 1 := ⟨_, rfl, by (repeat' split) <;> omega, by (repeat' split) <;> omega⟩
        refine b_top (v := cv47) ((l2_cmp ⟨by omega, by omega⟩ ⟨by omega, by omega⟩).trans (by rw [ecv47])) ?_
        refine b_if_eq (tgt := 57) hx hb dX5_addMelody_48 (by decide) ⟨by omega, by omega⟩ (fun c_48 => ?_) (fun c_48 => ?_)
        · skip
          refine lv_aload_n hx hb dX5_addMelody_57 rfl (lv_at hl 0 rfl) ?_
          have b_58 : 0 ≤ X 1 0 ∧ X 1 0 ≤ 12 := hV.1 1 _ (by decide) rfl
          refine g_get (C := RX5) (T := TX5) (N := 23) hx hb hts inX5 hown hG hM.1 rfl 1 (by decide) (by decide +kernel) rfl (v := .int (z2 (X 1 0))) rfl dX5_addMelody_58 ?_
          refine b_bipush hx hb dX5_addMelody_61 (by decide +kernel) ?_
          refine b_icmp_ne (tgt := 72) hx hb dX5_addMelody_63 (by decide) ⟨⟨by omega, by omega⟩, ⟨by omega, by omega⟩⟩ (fun c_63 => ?_) (fun c_63 => ?_)
          · skip
            refine lv_aload_n hx hb dX5_addMelody_72 rfl (lv_at hl 0 rfl) ?_
            refine g_get (C := RX5) (T := TX5) (N := 23) hx hb hts inX5 hown hG hM.1 rfl 2 (by decide) (by decide +kernel) rfl (v := .ref (bm + 1)) rfl dX5_addMelody_73 ?_
            refine lv_aload_n hx hb dX5_addMelody_76 rfl (lv_at hl 0 rfl) ?_
            have b_77 : 0 ≤ X 1 0 ∧ X 1 0 ≤ 12 := hV.1 1 _ (by decide) rfl
            refine g_get (C := RX5) (T := TX5) (N := 23) hx hb hts inX5 hown hG hM.1 rfl 1 (by decide) (by decide +kernel) rfl (v := .int (z2 (X 1 0))) rfl dX5_addMelody_77 ?_
            refine lv_iload_n hx hb dX5_addMelody_80 rfl (lv_at hl 1 rfl) ?_
            refine g_iast (n := 12) hx hb hG hS (f := fun i => z2 ((up X 22 0 (0)) 2 i)) (show ca D (bm + 1) (iA (ks 0) 12 (fun i => z2 ((up X 22 0 (0)) 2 i))) _ from hM.2.1 2 (sr_of (by decide))) (Or.inl ⟨by omega, by omega⟩) ((X 1 0).toNat) ⟨by omega, by omega, by decide⟩ dX5_addMelody_81 (fun H locs he hz oq hS => ?_)
            have hM : PM D ks bm (up (up X 22 0 (0)) 2 ((X 1 0).toNat) (u)) H := hM.row (f := 2) (sr_of (by decide)) he oq
            refine lv_aload_n hx hb dX5_addMelody_82 rfl (lv_at hl 0 rfl) ?_
            refine g_get (C := RX5) (T := TX5) (N := 23) hx hb hts inX5 hown hG hM.1 rfl 3 (by decide) (by decide +kernel) rfl (v := .ref (bm + 2)) rfl dX5_addMelody_83 ?_
            refine lv_aload_n hx hb dX5_addMelody_86 rfl (lv_at hl 0 rfl) ?_
            have b_87 : 0 ≤ X 1 0 ∧ X 1 0 ≤ 12 := hV.1 1 _ (by decide) rfl
            refine g_get (C := RX5) (T := TX5) (N := 23) hx hb hts inX5 hown hG hM.1 rfl 1 (by decide) (by decide +kernel) rfl (v := .int (z2 (X 1 0))) rfl dX5_addMelody_87 ?_
            refine lv_iload_n hx hb dX5_addMelody_90 rfl (lv_at hl 2 rfl) ?_
            refine g_iast (n := 12) hx hb hG hS (f := fun i => z2 ((up (up X 22 0 (0)) 2 ((X 1 0).toNat) (u)) 3 i)) (show ca D (bm + 2) (iA (ks 0) 12 (fun i => z2 ((up (up X 22 0 (0)) 2 ((X 1 0).toNat) (u)) 3 i))) _ from hM.2.1 3 (sr_of (by decide))) (Or.inl ⟨by omega, by omega⟩) ((X 1 0).toNat) ⟨by omega, by omega, by decide⟩ dX5_addMelody_91 (fun H locs he hz oq hS => ?_)
            have hM : PM D ks bm (up (up (up X 22 0 (0)) 2 ((X 1 0).toNat) (u)) 3 ((X 1 0).toNat) (((cn : Nat) : Int))) H := hM.row (f := 3) (sr_of (by decide)) he oq
            refine lv_aload_n hx hb dX5_addMelody_92 rfl (lv_at hl 0 rfl) ?_
            refine g_get (C := RX5) (T := TX5) (N := 23) hx hb hts inX5 hown hG hM.1 rfl 4 (by decide) (by decide +kernel) rfl (v := .ref (bm + 3)) rfl dX5_addMelody_93 ?_
            refine lv_aload_n hx hb dX5_addMelody_96 rfl (lv_at hl 0 rfl) ?_
            have b_97 : 0 ≤ X 1 0 ∧ X 1 0 ≤ 12 := hV.1 1 _ (by decide) rfl
            refine g_get (C := RX5) (T := TX5) (N := 23) hx hb hts inX5 hown hG hM.1 rfl 1 (by decide) (by decide +kernel) rfl (v := .int (z2 (X 1 0))) rfl dX5_addMelody_97 ?_
            refine lv_lload_n hx hb dX5_addMelody_100 rfl (lv_at hl 3 rfl) ?_
            refine g_last (n := 12) hx hb hG hS (f := fun i => l2 ((up (up (up X 22 0 (0)) 2 ((X 1 0).toNat) (u)) 3 ((X 1 0).toNat) (((cn : Nat) : Int))) 4 i)) hM.2.2 (Or.inl ⟨by omega, by omega⟩) ((X 1 0).toNat) ⟨by omega, by omega, by decide⟩ dX5_addMelody_101 (fun H locs he hz oq hS => ?_)
            have hM : PM D ks bm (up (up (up (up X 22 0 (0)) 2 ((X 1 0).toNat) (u)) 3 ((X 1 0).toNat) (((cn : Nat) : Int))) 4 ((X 1 0).toNat) (t)) H := hM.tone he oq
            refine lv_aload_n hx hb dX5_addMelody_102 rfl (lv_at hl 0 rfl) ?_
            refine lv_dup hx hb dX5_addMelody_103 rfl ?_
            have b_104 : 0 ≤ X 1 0 ∧ X 1 0 ≤ 12 := hV.1 1 _ (by decide) rfl
            refine g_get (C := RX5) (T := TX5) (N := 23) hx hb hts inX5 hown hG hM.1 rfl 1 (by decide) (by decide +kernel) rfl (v := .int (z2 (X 1 0))) rfl dX5_addMelody_104 ?_
            refine b_iconst hx hb dX5_addMelody_107 ?_
            refine b_iadd hx hb dX5_addMelody_108 ?_
            refine g_put (C := RX5) (T := TX5) (N := 23) hx hb hts inX5 tyX5 tyX5_ok nmX5 hown hG hS hM.1 (Or.inl ⟨by omega, by omega⟩) rfl 1 (by decide) (by decide +kernel) rfl rfl (v := .int (z2 ((X 1 0) + 1))) rfl rfl (Nat.le_of_ble_eq_true rfl) dX5_addMelody_109 (fun H locs he hz oq hS => ?_)
            have hM : PM D ks bm (up (up (up (up (up X 22 0 (0)) 2 ((X 1 0).toNat) (u)) 3 ((X 1 0).toNat) (((cn : Nat) : Int))) 4 ((X 1 0).toNat) (t)) 1 0 ((X 1 0) + 1)) H := hM.own (k := 1) (by decide) he oq
            refine lv_aload_n hx hb dX5_addMelody_112 rfl (lv_at hl 0 rfl) ?_
            refine g_get (C := RX5) (T := TX5) (N := 23) hx hb hts inX5 hown hG hM.1 rfl 1 (by decide) (by decide +kernel) rfl (v := .int (z2 ((X 1 0) + 1))) (congrArg (fun z => some (Value.int (z2 z))) (by simp [up] : (up (up (up (up (up X 22 0 (0)) 2 ((X 1 0).toNat) (u)) 3 ((X 1 0).toNat) (((cn : Nat) : Int))) 4 ((X 1 0).toNat) (t)) 1 0 ((X 1 0) + 1)) 1 0 = (X 1 0) + 1)) dX5_addMelody_113 ?_
            refine b_iconst hx hb dX5_addMelody_116 ?_
            refine b_isub hx hb dX5_addMelody_117 ?_
            exact g_iret hx hb hr hlocks hS ⟨Nat.le_of_ble_eq_true rfl, Nat.le_of_ble_eq_true rfl⟩ (⟨((X 1 0) + 1) - 1, up (up (up (up (up X 22 0 (0)) 2 ((X 1 0).toNat) (u)) 3 ((X 1 0).toNat) (((cn : Nat) : Int))) 4 ((X 1 0).toNat) (t)) 1 0 ((X 1 0) + 1), Or.inl (⟨(u).toNat, cn, by omega, by omega, rfl⟩), rfl, hM⟩) dX5_addMelody_118
          · skip
            refine lv_aload_n hx hb dX5_addMelody_66 rfl (lv_at hl 0 rfl) ?_
            refine b_iconst hx hb dX5_addMelody_67 ?_
            refine g_run (vx_runV (As := [.int (z2 (3))]) (rest := []) ⟨hx, hb, hml, hown, hts⟩ (m_fails l D ks bx bm hbm (up X 22 0 (0)) _ hM (vs_uf (hV) (by decide)) (3)) (cwV 1 hts gX5_addMelody_X5_fails rfl rfl rfl (by decide +kernel) ⟨Nat.le_of_ble_eq_true rfl, Nat.le_of_ble_eq_true rfl⟩) (g_preV (r := (RX5, TX5, 23)) hG hS (rm_ge hbm) hM.1 rfl) rfl rfl hl.1 rfl (lv_room (Nat.le_of_ble_eq_true rfl)) dX5_addMelody_68 ⟨Nat.le_of_ble_eq_true rfl, Nat.le_of_ble_eq_true rfl⟩) hS (fun _ h => h) (fun _ _ _ _ _ h => h.elim) (fun v H1 locs hp hz9 hk9 hS => ?_)
            obtain ⟨rfl, hM⟩ := hp
            refine W.eq (g2 := F0 m 71 ls [.int (z2 (0))]) rfl ?_
            exact g_iret hx hb hr hlocks hS ⟨Nat.le_of_ble_eq_true rfl, Nat.le_of_ble_eq_true rfl⟩ (⟨0, (up (up X 22 0 (0)) 22 0 (3)), Or.inr (Or.inr (Or.inr (⟨⟨(u).toNat, cn, by omega⟩, rfl⟩))), rfl, hM⟩) dX5_addMelody_71
        · skip
          refine lv_aload_n hx hb dX5_addMelody_51 rfl (lv_at hl 0 rfl) ?_
          refine b_iconst hx hb dX5_addMelody_52 ?_
          refine g_run (vx_runV (As := [.int (z2 (2))]) (rest := []) ⟨hx, hb, hml, hown, hts⟩ (m_fails l D ks bx bm hbm (up X 22 0 (0)) _ hM (vs_uf (hV) (by decide)) (2)) (cwV 1 hts gX5_addMelody_X5_fails rfl rfl rfl (by decide +kernel) ⟨Nat.le_of_ble_eq_true rfl, Nat.le_of_ble_eq_true rfl⟩) (g_preV (r := (RX5, TX5, 23)) hG hS (rm_ge hbm) hM.1 rfl) rfl rfl hl.1 rfl (lv_room (Nat.le_of_ble_eq_true rfl)) dX5_addMelody_53 ⟨Nat.le_of_ble_eq_true rfl, Nat.le_of_ble_eq_true rfl⟩) hS (fun _ h => h) (fun _ _ _ _ _ h => h.elim) (fun v H1 locs hp hz9 hk9 hS => ?_)
          obtain ⟨rfl, hM⟩ := hp
          refine W.eq (g2 := F0 m 56 ls [.int (z2 (0))]) rfl ?_
          exact g_iret hx hb hr hlocks hS ⟨Nat.le_of_ble_eq_true rfl, Nat.le_of_ble_eq_true rfl⟩ (⟨0, (up (up X 22 0 (0)) 22 0 (2)), Or.inr (Or.inr (Or.inl (⟨⟨by omega, AM2⟩, rfl⟩))), rfl, hM⟩) dX5_addMelody_56
