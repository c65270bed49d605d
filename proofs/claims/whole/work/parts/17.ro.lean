/-! THE REFERENCE: its public methods. -/
def ro_license (X : Nat → Nat → Int) (u v2 u3 : Int) (r : Int) (Y : Nat → Nat → Int) : Prop := (∃ n k : Nat, ((u = n ∧ n < 8) ∧ (v2 = k ∧ (k : Int) < X 1 0) ∧ 1 ≤ u3 ∧ u3 ≤ 1000 ∧ X 2 k ≠ n ∧ X 8 (12 * n + k) + u3 ≤ 1000) ∧ r = X 8 (12 * n + k) + u3 ∧ Y = up (up X 22 0 0) 8 (12 * n + k) (X 8 (12 * n + k) + u3)) ∨ ((¬ ((0 ≤ u ∧ u < 8) ∧ (0 ≤ v2 ∧ v2 < X 1 0))) ∧ Y = up X 22 0 1) ∨ (((0 ≤ u ∧ u < 8) ∧ (0 ≤ v2 ∧ v2 < X 1 0) ∧ ¬ (1 ≤ u3 ∧ u3 ≤ 1000)) ∧ Y = up X 22 0 2) ∨ ((∃ n k : Nat, ((u = n ∧ n < 8) ∧ (v2 = k ∧ (k : Int) < X 1 0) ∧ 1 ≤ u3 ∧ u3 ≤ 1000 ∧ (X 2 k = n ∨ 1000 < X 8 (12 * n + k) + u3))) ∧ Y = up (up X 22 0 0) 22 0 3)
def ro_setQuiet (X : Nat → Nat → Int) (u v2 u3 : Int) (r : Int) (Y : Nat → Nat → Int) : Prop := (∃ n : Nat, ((u = n ∧ n < 8) ∧ (0 ≤ v2 ∧ v2 < 1000 ∧ 0 ≤ u3 ∧ u3 < 1000)) ∧ r = qM (up (up (up X 22 0 0) 9 n v2) 10 n u3) n ∧ Y = (up (up (up X 22 0 0) 9 n v2) 10 n u3)) ∨ ((¬ (0 ≤ u ∧ u < 8)) ∧ Y = up X 22 0 1) ∨ (((0 ≤ u ∧ u < 8) ∧ ¬ (0 ≤ v2 ∧ v2 < 1000 ∧ 0 ≤ u3 ∧ u3 < 1000)) ∧ Y = up X 22 0 2)
def ro_lay (X : Nat → Nat → Int) (u v2 u3 u4 : Int) (r : Int) (Y : Nat → Nat → Int) : Prop := (∃ n b : Nat, ((u = n ∧ n < 8) ∧ (v2 = b ∧ b < 3) ∧ (u3 = -1 ∨ (0 ≤ u3 ∧ u3 < X 1 0)) ∧ 1 ≤ u4 ∧ u4 ≤ 9) ∧ r = X 5 (3 * n + b) - 1 ∧ Y = up (up (up (up X 22 0 0) 5 (3 * n + b) (u3 + 1)) 6 (3 * n + b) u4) 7 (3 * n + b) 0) ∨ ((¬ ((0 ≤ u ∧ u < 8) ∧ (0 ≤ v2 ∧ v2 < 3) ∧ (u3 = -1 ∨ (0 ≤ u3 ∧ u3 < X 1 0)))) ∧ Y = up X 22 0 1) ∨ ((((0 ≤ u ∧ u < 8) ∧ (0 ≤ v2 ∧ v2 < 3) ∧ (u3 = -1 ∨ (0 ≤ u3 ∧ u3 < X 1 0))) ∧ ¬ (1 ≤ u4 ∧ u4 ≤ 9)) ∧ Y = up X 22 0 2)
def ro_press (X : Nat → Nat → Int) (u v2 : Int) (r : Int) (Y : Nat → Nat → Int) : Prop := (∃ n b k : Nat, ((u = n ∧ n < 8) ∧ (v2 = b ∧ b < 3) ∧ X 5 (3 * n + b) = k + 1) ∧ r = pmV X n (3 * n + b) k ∧ Y = pmS X (up X 22 0 0) n (3 * n + b) k) ∨ ((¬ ((0 ≤ u ∧ u < 8) ∧ 0 ≤ v2 ∧ v2 < 3)) ∧ Y = up X 22 0 1) ∨ ((∃ n b : Nat, (u = n ∧ n < 8) ∧ (v2 = b ∧ b < 3) ∧ X 5 (3 * n + b) = 0) ∧ Y = up (up X 22 0 0) 22 0 2)
def ro_fault (X : Nat → Nat → Int) (u : Int) (r : Int) (Y : Nat → Nat → Int) : Prop := (∃ n : Nat, ((u = n ∧ n < 8) ∧ X 11 n ≠ 1 ∧ X 20 0 ≠ 100) ∧ r = flN (up X 22 0 0) n 12 ∧ Y = fmR (up X 22 0 0) n) ∨ ((¬ (0 ≤ u ∧ u < 8)) ∧ Y = up X 22 0 1) ∨ ((∃ n : Nat, (u = n ∧ n < 8) ∧ (X 11 n = 1 ∨ X 20 0 = 100)) ∧ Y = up X 22 0 2)
def ro_repair (X : Nat → Nat → Int) (u : Int) (r : Int) (Y : Nat → Nat → Int) : Prop := (∃ n : Nat, ((u = n ∧ n < 8) ∧ X 11 n ≠ 0 ∧ X 18 (n / 4) ≤ 0) ∧ r = X 0 0 + 50 ∧ Y = up (up (up X 22 0 0) 18 (n / 4) (X 0 0 + 50)) 19 (n / 4) n) ∨ ((¬ (0 ≤ u ∧ u < 8)) ∧ Y = up X 22 0 1) ∨ ((∃ n : Nat, (u = n ∧ n < 8) ∧ (X 11 n = 0 ∨ 0 < X 18 (n / 4))) ∧ Y = up (up X 22 0 0) 22 0 2)
def ro_pass (X : Nat → Nat → Int) (u : Int) (r : Int) (Y : Nat → Nat → Int) : Prop := (∃ w : Nat, ((1 ≤ u ∧ u ≤ 2000) ∧ X 0 0 + u ≤ 1000000 ∧ u = w) ∧ r = seN (up X 22 0 0) w 0 0 ∧ Y = seN (up X 22 0 0) w) ∨ ((¬ (1 ≤ u ∧ u ≤ 2000)) ∧ Y = up X 22 0 1) ∨ (((1 ≤ u ∧ u ≤ 2000) ∧ 1000000 < X 0 0 + u) ∧ Y = up X 22 0 2)
def ro_points (X : Nat → Nat → Int) (u : Int) (r : Int) (Y : Nat → Nat → Int) : Prop := (∃ n : Nat, (u = n ∧ n < 8) ∧ r = X 12 n ∧ Y = (up X 22 0 0)) ∨ ((¬ (0 ≤ u ∧ u < 8)) ∧ Y = up X 22 0 1)
def ro_secondsRung (X : Nat → Nat → Int) (u : Int) (r : Int) (Y : Nat → Nat → Int) : Prop := (∃ n : Nat, (u = n ∧ n < 8) ∧ r = X 13 n ∧ Y = (up X 22 0 0)) ∨ ((¬ (0 ≤ u ∧ u < 8)) ∧ Y = up X 22 0 1)
def ro_quietBroken (X : Nat → Nat → Int) (u : Int) (r : Int) (Y : Nat → Nat → Int) : Prop := (∃ n : Nat, (u = n ∧ n < 8) ∧ r = X 14 n ∧ Y = (up X 22 0 0)) ∨ ((¬ (0 ≤ u ∧ u < 8)) ∧ Y = up X 22 0 1)
def ro_hushed (X : Nat → Nat → Int) (u : Int) (r : Int) (Y : Nat → Nat → Int) : Prop := (∃ n : Nat, (u = n ∧ n < 8) ∧ r = X 15 n ∧ Y = (up X 22 0 0)) ∨ ((¬ (0 ≤ u ∧ u < 8)) ∧ Y = up X 22 0 1)
def ro_isSound (X : Nat → Nat → Int) (u : Int) (r : Int) (Y : Nat → Nat → Int) : Prop := (∃ n : Nat, (u = n ∧ n < 8) ∧ r = (if X 11 n = 0 then 1 else 0) ∧ Y = (up X 22 0 0)) ∨ ((¬ (0 ≤ u ∧ u < 8)) ∧ Y = up X 22 0 1)
def ro_ringing (X : Nat → Nat → Int) (u : Int) (r : Int) (Y : Nat → Nat → Int) : Prop := (∃ n : Nat, (u = n ∧ n < 8) ∧ r = rsM X n ∧ Y = (up X 22 0 0)) ∨ ((¬ (0 ≤ u ∧ u < 8)) ∧ Y = up X 22 0 1)
def ro_ringsLeft (X : Nat → Nat → Int) (u v2 : Int) (r : Int) (Y : Nat → Nat → Int) : Prop := (∃ n k : Nat, ((u = n ∧ n < 8) ∧ v2 = k ∧ (k : Int) < X 1 0) ∧ r = (if X 2 k = n then -1 else X 8 (12 * n + k)) ∧ Y = (up X 22 0 0)) ∨ ((¬ ((0 ≤ u ∧ u < 8) ∧ (0 ≤ v2 ∧ v2 < X 1 0))) ∧ Y = up X 22 0 1)
def ro_faultAt (X : Nat → Nat → Int) (u : Int) (r : Int) (Y : Nat → Nat → Int) : Prop := (∃ q : Nat, (u = q ∧ (q : Int) < X 20 0) ∧ r = X 21 q ∧ Y = (up X 22 0 0)) ∨ ((¬ (0 ≤ u ∧ u < X 20 0)) ∧ Y = up X 22 0 1)
def ro_toneAt (X : Nat → Nat → Int) (u v2 : Int) (r : Int) (Y : Nat → Nat → Int) : Prop := (∃ k q : Nat, ((u = k ∧ (k : Int) < X 1 0) ∧ v2 = q ∧ (q : Int) < X 3 k) ∧ r = toS (X 4 k) q ∧ Y = (up X 22 0 0)) ∨ ((¬ (0 ≤ u ∧ u < X 1 0)) ∧ Y = up X 22 0 1) ∨ ((∃ k : Nat, (u = k ∧ (k : Int) < X 1 0) ∧ ¬ (0 ≤ v2 ∧ v2 < X 3 k)) ∧ Y = up (up X 22 0 0) 22 0 1)
def ro_shifted (X : Nat → Nat → Int) (u v2 : Int) (r : Int) (Y : Nat → Nat → Int) : Prop := (∃ k cn : Nat, ((u = k ∧ (k : Int) < X 1 0) ∧ X 3 k = cn ∧ 0 ≤ v2 ∧ v2 ≤ 15) ∧ r = shR (X 4 k) v2 cn cn ∧ Y = (up X 22 0 0)) ∨ ((¬ (0 ≤ u ∧ u < X 1 0)) ∧ Y = up X 22 0 1) ∨ (((0 ≤ u ∧ u < X 1 0) ∧ ¬ (0 ≤ v2 ∧ v2 ≤ 15)) ∧ Y = up (up X 22 0 0) 22 0 2)
def ro_turned (X : Nat → Nat → Int) (u : Int) (r : Int) (Y : Nat → Nat → Int) : Prop := (∃ k cn : Nat, ((u = k ∧ (k : Int) < X 1 0) ∧ X 3 k = cn) ∧ r = tuR (X 4 k) cn ∧ Y = (up X 22 0 0)) ∨ ((¬ (0 ≤ u ∧ u < X 1 0)) ∧ Y = up X 22 0 1)
def ro_areAlike (X : Nat → Nat → Int) (u v2 : Int) (r : Int) (Y : Nat → Nat → Int) : Prop := (∃ k k2 : Nat, ((u = k ∧ (k : Int) < X 1 0) ∧ v2 = k2 ∧ (k2 : Int) < X 1 0) ∧ r = (if X 3 k = X 3 k2 then alM X k k2 ((X 3 k).toNat - 1) else 0) ∧ Y = (up X 22 0 0)) ∨ ((¬ ((0 ≤ u ∧ u < X 1 0) ∧ (0 ≤ v2 ∧ v2 < X 1 0))) ∧ Y = up X 22 0 1)
def ro_addMelody (X : Nat → Nat → Int) (u v2 t : Int) (r : Int) (Y : Nat → Nat → Int) : Prop := (∃ n cn : Nat, ((u = n ∧ n < 8) ∧ (v2 = cn ∧ 1 ≤ cn ∧ cn ≤ 12) ∧ 0 ≤ t ∧ t / 16 ^ cn = 0 ∧ X 1 0 ≠ 12) ∧ r = X 1 0 ∧ Y = up (up (up (up (up X 22 0 0) 2 (X 1 0).toNat u) 3 (X 1 0).toNat v2) 4 (X 1 0).toNat t) 1 0 (X 1 0 + 1)) ∨ ((¬ (0 ≤ u ∧ u < 8)) ∧ Y = up X 22 0 1) ∨ (((0 ≤ u ∧ u < 8) ∧ ¬ ∃ cn : Nat, (v2 = cn ∧ 1 ≤ cn ∧ cn ≤ 12) ∧ 0 ≤ t ∧ t / 16 ^ cn = 0) ∧ Y = up (up X 22 0 0) 22 0 2) ∨ (((∃ n cn : Nat, ((u = n ∧ n < 8) ∧ (v2 = cn ∧ 1 ≤ cn ∧ cn ≤ 12) ∧ 0 ≤ t ∧ t / 16 ^ cn = 0) ∧ X 1 0 = 12)) ∧ Y = up (up X 22 0 0) 22 0 3)
set_option maxHeartbeats 4000000 in
set_option maxRecDepth 100000 in
theorem m_license (l : Launch) (D : va_G) (ks : Nat → ClassId) (bx : Nat) (bm : Nat) (hbm : bx ≤ bm) (X : Nat → Nat → Int) (H : Heap) (hM : PM D ks bm X H) (hV : VS X) (u v2 u3 : Int) (hu : -2147483648 ≤ u ∧ u < 2147483648) (hv2 : -2147483648 ≤ v2 ∧ v2 < 2147483648) (hu3 : -2147483648 ≤ u3 ∧ u3 < 2147483648) : KM l yX5_license wsX5_license ({ frames := 2, cells := 0, slots := 0, locals := 42 } : Room) D ks bx [.ref bm, .int (z2 u), .int (z2 v2), .int (z2 u3)] H (RM bm) (fun v H1 => ∃ (r : Int) (Y : Nat → Nat → Int), ro_license X u v2 u3 r Y ∧ v = some (.int (z2 r)) ∧ PM D ks bm Y H1) (fun _ _ => False) := by
  refine KM.of (cc := cX5_license) (maxL := 5) (ret := (some .int)) (by decide) rfl (Nat.le_of_ble_eq_true rfl) ?_
  intro p e s m below meth c hx hb hml hr hlocks hown hname hts hext hH0 hG ls hl
  subst hH0
  have hown : s.vm.findClass RX5 = some m.cls := hown
  have hS : va_S (AR (RM bm) s.heap.size) s.heap s.heap [] := va_S.rf
  have hl : lv_has ls 5 [(0, .ref bm), (1, .int (z2 (u))), (2, .int (z2 (v2))), (3, .int (z2 (u3)))] := hl
  have inX5 : ∀ w ∈ wsX50, w ∈ wsX5_license := by decide +kernel
  have b1 : 0 ≤ X 1 0 ∧ X 1 0 ≤ 12 := hV.1 1 0 (by decide) rfl
  refine lv_aload_n hx hb dX5_license_0 rfl (lv_at hl 0 rfl) ?_
  refine lv_iload_n hx hb dX5_license_1 rfl (lv_at hl 1 rfl) ?_
  refine g_run (vx_runS (As := [.int (z2 (u))]) (rest := [.ref bm]) ⟨hx, hb, hml, hown, hts⟩ (m_isHouse l D ks bx bm hbm _ (u) ⟨by omega, by omega⟩) (cwS 1 hts gX5_license_X5_isHouse rfl rfl rfl (by decide +kernel) ⟨Nat.le_of_ble_eq_true rfl, Nat.le_of_ble_eq_true rfl⟩) (g_preS hG hS (rm_ge hbm)) rfl rfl hl.1 rfl (lv_room (Nat.le_of_ble_eq_true rfl)) dX5_license_2 ⟨Nat.le_of_ble_eq_true rfl, Nat.le_of_ble_eq_true rfl⟩) hS (fun _ h => h) (fun _ _ _ _ _ h => h.elim) (fun v H1 locs hp hz9 hk9 hS => ?_)
  obtain ⟨rfl, hH9⟩ := hp
  obtain rfl := hH9.symm
  obtain ⟨iv_2, ev_2, ib_2⟩ : ∃ z : Int, z = (if 0 ≤ u ∧ u ≤ 7 then 1 else 0) ∧ (((0 ≤ u ∧ u ≤ 7) ∧ z = 1) ∨ (¬ (0 ≤ u ∧ u ≤ 7) ∧ z = 0)) := ⟨_, rfl, by split <;> omega⟩
  rw [← ev_2]
  refine W.eq (g2 := F0 m 5 ls [.int (z2 (iv_2)), .ref bm]) rfl ?_
  refine b_if_eq (tgt := 22) hx hb dX5_license_5 (by decide) ⟨by omega, by omega⟩ (fun c_5 => ?_) (fun c_5 => ?_)
  · skip
    refine b_iconst hx hb dX5_license_22 ?_
    refine lv_goto (tgt := 42) hx hb dX5_license_23 (by decide) ?_
    refine g_put (C := RX5) (T := TX5) (N := 23) hx hb hts inX5 tyX5 tyX5_ok nmX5 hown hG hS hM.1 (Or.inl ⟨by omega, by omega⟩) rfl 22 (by decide) (by decide +kernel) rfl rfl (v := .int (z2 (1))) rfl rfl (Nat.le_of_ble_eq_true rfl) dX5_license_42 (fun H locs he hz oq hS => ?_)
    have hM : PM D ks bm (up X 22 0 (1)) H := hM.own (k := 22) (by decide) he oq
    refine lv_aload_n hx hb dX5_license_45 rfl (lv_at hl 0 rfl) ?_
    refine g_get (C := RX5) (T := TX5) (N := 23) hx hb hts inX5 hown hG hM.1 rfl 22 (by decide) (by decide +kernel) rfl (v := .int (z2 (1))) (congrArg (fun z => some (Value.int (z2 z))) (by simp [up] : (up X 22 0 (1)) 22 0 = 1)) dX5_license_46 ?_
    refine b_if_le (tgt := 54) hx hb dX5_license_49 (by decide) ⟨by omega, by omega⟩ (fun c => absurd c (by omega)) (fun _ => ?_)
    refine b_iconst hx hb dX5_license_52 ?_
    exact g_iret hx hb hr hlocks hS ⟨Nat.le_of_ble_eq_true rfl, Nat.le_of_ble_eq_true rfl⟩ (⟨0, up X 22 0 (1), Or.inr (Or.inl (⟨by omega, rfl⟩)), rfl, hM⟩) dX5_license_53
  · skip
    refine lv_iload_n hx hb dX5_license_8 rfl (lv_at hl 2 rfl) ?_
    refine b_iconst hx hb dX5_license_9 ?_
    refine lv_aload_n hx hb dX5_license_10 rfl (lv_at hl 0 rfl) ?_
    have b_11 : 0 ≤ X 1 0 ∧ X 1 0 ≤ 12 := hV.1 1 _ (by decide) rfl
    refine g_get (C := RX5) (T := TX5) (N := 23) hx hb hts inX5 hown hG hM.1 rfl 1 (by decide) (by decide +kernel) rfl (v := .int (z2 (X 1 0))) rfl dX5_license_11 ?_
    refine b_iconst hx hb dX5_license_14 ?_
    refine b_isub hx hb dX5_license_15 ?_
    refine g_run (vx_runS (As := [.int (z2 (v2)), .int (z2 (0)), .int (z2 ((X 1 0) - 1))]) (rest := [.ref bm]) ⟨hx, hb, hml, hown, hts⟩ (m_in l D ks bx bm _ (v2) (0) ((X 1 0) - 1) ⟨⟨by omega, by omega⟩, ⟨by omega, by omega⟩, by omega, by omega⟩) (cwS 3 hts gX5_license_X5_in rfl rfl rfl (by decide +kernel) ⟨Nat.le_of_ble_eq_true rfl, Nat.le_of_ble_eq_true rfl⟩) (g_preS hG hS (rm_ge hbm)) rfl rfl hl.1 rfl (lv_room (Nat.le_of_ble_eq_true rfl)) dX5_license_16 ⟨Nat.le_of_ble_eq_true rfl, Nat.le_of_ble_eq_true rfl⟩) hS (fun _ h => h) (fun _ _ _ _ _ h => h.elim) (fun v H1 locs hp hz9 hk9 hS => ?_)
    obtain ⟨rfl, hH9⟩ := hp
    obtain rfl := hH9.symm
    obtain ⟨iv_16, ev_16, ib_16⟩ : ∃ z : Int, z = (if 0 ≤ v2 ∧ v2 ≤ (X 1 0) - 1 then 1 else 0) ∧ (((0 ≤ v2 ∧ v2 ≤ (X 1 0) - 1) ∧ z = 1) ∨ (¬ (0 ≤ v2 ∧ v2 ≤ (X 1 0) - 1) ∧ z = 0)) := ⟨_, rfl, by split <;> omega⟩
    rw [← ev_16]
    refine W.eq (g2 := F0 m 19 ls [.int (z2 (iv_16)), .ref bm]) rfl ?_
    refine b_if_ne (tgt := 26) hx hb dX5_license_19 (by decide) ⟨by omega, by omega⟩ (fun c_19 => ?_) (fun c_19 => ?_)
    · skip
      refine lv_iload_n hx hb dX5_license_26 rfl (lv_at hl 3 rfl) ?_
      refine b_iconst hx hb dX5_license_27 ?_
      refine b_sipush hx hb dX5_license_28 (by decide +kernel) ?_
      refine g_run (vx_runS (As := [.int (z2 (u3)), .int (z2 (1)), .int (z2 (1000))]) (rest := [.ref bm]) ⟨hx, hb, hml, hown, hts⟩ (m_in l D ks bx bm _ (u3) (1) (1000) ⟨⟨by omega, by omega⟩, ⟨by omega, by omega⟩, by omega, by omega⟩) (cwS 3 hts gX5_license_X5_in rfl rfl rfl (by decide +kernel) ⟨Nat.le_of_ble_eq_true rfl, Nat.le_of_ble_eq_true rfl⟩) (g_preS hG hS (rm_ge hbm)) rfl rfl hl.1 rfl (lv_room (Nat.le_of_ble_eq_true rfl)) dX5_license_31 ⟨Nat.le_of_ble_eq_true rfl, Nat.le_of_ble_eq_true rfl⟩) hS (fun _ h => h) (fun _ _ _ _ _ h => h.elim) (fun v H1 locs hp hz9 hk9 hS => ?_)
      obtain ⟨rfl, hH9⟩ := hp
      obtain rfl := hH9.symm
      obtain ⟨iv_31, ev_31, ib_31⟩ : ∃ z : Int, z = (if 1 ≤ u3 ∧ u3 ≤ 1000 then 1 else 0) ∧ (((1 ≤ u3 ∧ u3 ≤ 1000) ∧ z = 1) ∨ (¬ (1 ≤ u3 ∧ u3 ≤ 1000) ∧ z = 0)) := ⟨_, rfl, by split <;> omega⟩
      rw [← ev_31]
      refine W.eq (g2 := F0 m 34 ls [.int (z2 (iv_31)), .ref bm]) rfl ?_
      refine b_if_ne (tgt := 41) hx hb dX5_license_34 (by decide) ⟨by omega, by omega⟩ (fun c_34 => ?_) (fun c_34 => ?_)
      · skip
        refine b_iconst hx hb dX5_license_41 ?_
        refine g_put (C := RX5) (T := TX5) (N := 23) hx hb hts inX5 tyX5 tyX5_ok nmX5 hown hG hS hM.1 (Or.inl ⟨by omega, by omega⟩) rfl 22 (by decide) (by decide +kernel) rfl rfl (v := .int (z2 (0))) rfl rfl (Nat.le_of_ble_eq_true rfl) dX5_license_42 (fun H locs he hz oq hS => ?_)
        have hM : PM D ks bm (up X 22 0 (0)) H := hM.own (k := 22) (by decide) he oq
        refine lv_aload_n hx hb dX5_license_45 rfl (lv_at hl 0 rfl) ?_
        refine g_get (C := RX5) (T := TX5) (N := 23) hx hb hts inX5 hown hG hM.1 rfl 22 (by decide) (by decide +kernel) rfl (v := .int (z2 (0))) (congrArg (fun z => some (Value.int (z2 z))) (by simp [up] : (up X 22 0 (0)) 22 0 = 0)) dX5_license_46 ?_
        refine b_if_le (tgt := 54) hx hb dX5_license_49 (by decide) ⟨by omega, by omega⟩ (fun _ => ?_) (fun c => absurd c (by omega))
        obtain ⟨n, rfl⟩ : ∃ n : Nat, u = n := ⟨(u).toNat, by omega⟩
        obtain ⟨k, rfl⟩ : ∃ k : Nat, v2 = k := ⟨(v2).toNat, by omega⟩
        refine b_bipush hx hb dX5_license_54 (by decide +kernel) ?_
        refine lv_iload_n hx hb dX5_license_56 rfl (lv_at hl 1 rfl) ?_
        refine b_imul hx hb dX5_license_57 ?_
        refine lv_iload_n hx hb dX5_license_58 rfl (lv_at hl 2 rfl) ?_
        refine b_iadd hx hb dX5_license_59 ?_
        refine lv_istore (lv' := [(4, .int (z2 ((12 * ((n : Nat) : Int)) + ((k : Nat) : Int)))), (0, .ref bm), (1, .int (z2 (((n : Nat) : Int)))), (2, .int (z2 (((k : Nat) : Int)))), (3, .int (z2 (u3)))]) hx hb dX5_license_60 hl (by decide) rfl (fun ls hl => ?_)
        refine lv_aload_n hx hb dX5_license_62 rfl (lv_at hl 1 rfl) ?_
        refine g_get (C := RX5) (T := TX5) (N := 23) hx hb hts inX5 hown hG hM.1 rfl 2 (by decide) (by decide +kernel) rfl (v := .ref (bm + 1)) rfl dX5_license_63 ?_
        refine lv_iload_n hx hb dX5_license_66 rfl (lv_at hl 3 rfl) ?_
        have b_67 : 0 ≤ X 2 k ∧ X 2 k ≤ 7 := hV.1 2 _ (by decide) rfl
        refine g_iald (n := 12) hx hb hG (f := fun i => z2 ((up X 22 0 (0)) 2 i)) (show ca D (bm + 1) (iA (ks 0) 12 (fun i => z2 ((up X 22 0 (0)) 2 i))) _ from hM.2.1 2 (sr_of (by decide))) k ⟨by omega, by omega, by decide⟩ dX5_license_67 ?_
        refine W.eq (g2 := F0 m 68 ls (.int (z2 (X 2 k)) :: [])) rfl ?_
        refine lv_iload_n hx hb dX5_license_68 rfl (lv_at hl 2 rfl) ?_
        refine b_icmp_eq (tgt := 87) hx hb dX5_license_69 (by decide) ⟨⟨by omega, by omega⟩, ⟨by omega, by omega⟩⟩ (fun c_69 => ?_) (fun c_69 => ?_)
        · skip
          refine lv_aload_n hx hb dX5_license_87 rfl (lv_at hl 1 rfl) ?_
          refine b_iconst hx hb dX5_license_88 ?_
          refine g_run (vx_runV (As := [.int (z2 (3))]) (rest := []) ⟨hx, hb, hml, hown, hts⟩ (m_fails l D ks bx bm hbm (up X 22 0 (0)) _ hM (vs_uf (hV) (by decide)) (3)) (cwV 1 hts gX5_license_X5_fails rfl rfl rfl (by decide +kernel) ⟨Nat.le_of_ble_eq_true rfl, Nat.le_of_ble_eq_true rfl⟩) (g_preV (r := (RX5, TX5, 23)) hG hS (rm_ge hbm) hM.1 rfl) rfl rfl hl.1 rfl (lv_room (Nat.le_of_ble_eq_true rfl)) dX5_license_89 ⟨Nat.le_of_ble_eq_true rfl, Nat.le_of_ble_eq_true rfl⟩) hS (fun _ h => h) (fun _ _ _ _ _ h => h.elim) (fun v H1 locs hp hz9 hk9 hS => ?_)
          obtain ⟨rfl, hM⟩ := hp
          refine W.eq (g2 := F0 m 92 ls [.int (z2 (0))]) rfl ?_
          exact g_iret hx hb hr hlocks hS ⟨Nat.le_of_ble_eq_true rfl, Nat.le_of_ble_eq_true rfl⟩ (⟨0, (up (up X 22 0 (0)) 22 0 (3)), Or.inr (Or.inr (Or.inr (⟨⟨n, k, by omega⟩, rfl⟩))), rfl, hM⟩) dX5_license_92
        · skip
          refine lv_aload_n hx hb dX5_license_72 rfl (lv_at hl 1 rfl) ?_
          refine g_get (C := RX5) (T := TX5) (N := 23) hx hb hts inX5 hown hG hM.1 rfl 8 (by decide) (by decide +kernel) rfl (v := .ref (bm + 7)) rfl dX5_license_73 ?_
          refine lv_iload hx hb dX5_license_76 (lv_at hl 0 rfl) ?_
          have b_78 : 0 ≤ X 8 (12 * n + k) ∧ X 8 (12 * n + k) ≤ 1000 := hV.1 8 _ (by decide) rfl
          refine g_iald (n := 96) hx hb hG (f := fun i => z2 ((up X 22 0 (0)) 8 i)) (show ca D (bm + 7) (iA (ks 0) 96 (fun i => z2 ((up X 22 0 (0)) 8 i))) _ from hM.2.1 8 (sr_of (by decide))) (12 * n + k) ⟨by omega, by omega, by decide⟩ dX5_license_78 ?_
          refine W.eq (g2 := F0 m 79 ls (.int (z2 (X 8 (12 * n + k))) :: [])) rfl ?_
          refine lv_iload_n hx hb dX5_license_79 rfl (lv_at hl 4 rfl) ?_
          refine b_iadd hx hb dX5_license_80 ?_
          refine b_sipush hx hb dX5_license_81 (by decide +kernel) ?_
          refine b_icmp_le (tgt := 93) hx hb dX5_license_84 (by decide) ⟨⟨by omega, by omega⟩, ⟨by omega, by omega⟩⟩ (fun c_84 => ?_) (fun c_84 => ?_)
          · skip
            refine lv_aload_n hx hb dX5_license_93 rfl (lv_at hl 1 rfl) ?_
            refine g_get (C := RX5) (T := TX5) (N := 23) hx hb hts inX5 hown hG hM.1 rfl 8 (by decide) (by decide +kernel) rfl (v := .ref (bm + 7)) rfl dX5_license_94 ?_
            refine lv_iload hx hb dX5_license_97 (lv_at hl 0 rfl) ?_
            refine lv_dup2_11 hx hb dX5_license_99 rfl rfl ?_
            have b_100 : 0 ≤ X 8 (12 * n + k) ∧ X 8 (12 * n + k) ≤ 1000 := hV.1 8 _ (by decide) rfl
            refine g_iald (n := 96) hx hb hG (f := fun i => z2 ((up X 22 0 (0)) 8 i)) (show ca D (bm + 7) (iA (ks 0) 96 (fun i => z2 ((up X 22 0 (0)) 8 i))) _ from hM.2.1 8 (sr_of (by decide))) (12 * n + k) ⟨by omega, by omega, by decide⟩ dX5_license_100 ?_
            refine W.eq (g2 := F0 m 101 ls (.int (z2 (X 8 (12 * n + k))) :: [.int (z2 ((12 * ((n : Nat) : Int)) + ((k : Nat) : Int))), .ref (bm + 7)])) rfl ?_
            refine lv_iload_n hx hb dX5_license_101 rfl (lv_at hl 4 rfl) ?_
            refine b_iadd hx hb dX5_license_102 ?_
            refine g_iast (n := 96) hx hb hG hS (f := fun i => z2 ((up X 22 0 (0)) 8 i)) (show ca D (bm + 7) (iA (ks 0) 96 (fun i => z2 ((up X 22 0 (0)) 8 i))) _ from hM.2.1 8 (sr_of (by decide))) (Or.inl ⟨by omega, by omega⟩) (12 * n + k) ⟨by omega, by omega, by decide⟩ dX5_license_103 (fun H locs he hz oq hS => ?_)
            have hM : PM D ks bm (up (up X 22 0 (0)) 8 (12 * n + k) ((X 8 (12 * n + k)) + u3)) H := hM.row (f := 8) (sr_of (by decide)) he oq
            refine lv_aload_n hx hb dX5_license_104 rfl (lv_at hl 1 rfl) ?_
            refine g_get (C := RX5) (T := TX5) (N := 23) hx hb hts inX5 hown hG hM.1 rfl 8 (by decide) (by decide +kernel) rfl (v := .ref (bm + 7)) rfl dX5_license_105 ?_
            refine lv_iload hx hb dX5_license_108 (lv_at hl 0 rfl) ?_
            refine g_iald (n := 96) hx hb hG (f := fun i => z2 ((up (up X 22 0 (0)) 8 (12 * n + k) ((X 8 (12 * n + k)) + u3)) 8 i)) (show ca D (bm + 7) (iA (ks 0) 96 (fun i => z2 ((up (up X 22 0 (0)) 8 (12 * n + k) ((X 8 (12 * n + k)) + u3)) 8 i))) _ from hM.2.1 8 (sr_of (by decide))) (12 * n + k) ⟨by omega, by omega, by decide⟩ dX5_license_110 ?_
            refine W.eq (g2 := F0 m 111 ls (.int (z2 ((X 8 (12 * n + k)) + u3)) :: [])) (congrArg (fun z => F0 m 111 ls (.int (z2 z) :: [])) (by simp [up] : (up (up X 22 0 (0)) 8 (12 * n + k) ((X 8 (12 * n + k)) + u3)) 8 (12 * n + k) = (X 8 (12 * n + k)) + u3)) ?_
            exact g_iret hx hb hr hlocks hS ⟨Nat.le_of_ble_eq_true rfl, Nat.le_of_ble_eq_true rfl⟩ (⟨(X 8 (12 * n + k)) + u3, up (up X 22 0 (0)) 8 (12 * n + k) ((X 8 (12 * n + k)) + u3), Or.inl (⟨n, k, by omega, rfl, rfl⟩), rfl, hM⟩) dX5_license_111
          · skip
            refine lv_aload_n hx hb dX5_license_87 rfl (lv_at hl 1 rfl) ?_
            refine b_iconst hx hb dX5_license_88 ?_
            refine g_run (vx_runV (As := [.int (z2 (3))]) (rest := []) ⟨hx, hb, hml, hown, hts⟩ (m_fails l D ks bx bm hbm (up X 22 0 (0)) _ hM (vs_uf (hV) (by decide)) (3)) (cwV 1 hts gX5_license_X5_fails rfl rfl rfl (by decide +kernel) ⟨Nat.le_of_ble_eq_true rfl, Nat.le_of_ble_eq_true rfl⟩) (g_preV (r := (RX5, TX5, 23)) hG hS (rm_ge hbm) hM.1 rfl) rfl rfl hl.1 rfl (lv_room (Nat.le_of_ble_eq_true rfl)) dX5_license_89 ⟨Nat.le_of_ble_eq_true rfl, Nat.le_of_ble_eq_true rfl⟩) hS (fun _ h => h) (fun _ _ _ _ _ h => h.elim) (fun v H1 locs hp hz9 hk9 hS => ?_)
            obtain ⟨rfl, hM⟩ := hp
            refine W.eq (g2 := F0 m 92 ls [.int (z2 (0))]) rfl ?_
            exact g_iret hx hb hr hlocks hS ⟨Nat.le_of_ble_eq_true rfl, Nat.le_of_ble_eq_true rfl⟩ (⟨0, (up (up X 22 0 (0)) 22 0 (3)), Or.inr (Or.inr (Or.inr (⟨⟨n, k, by omega⟩, rfl⟩))), rfl, hM⟩) dX5_license_92
      · skip
        refine b_iconst hx hb dX5_license_37 ?_
        refine lv_goto (tgt := 42) hx hb dX5_license_38 (by decide) ?_
        refine g_put (C := RX5) (T := TX5) (N := 23) hx hb hts inX5 tyX5 tyX5_ok nmX5 hown hG hS hM.1 (Or.inl ⟨by omega, by omega⟩) rfl 22 (by decide) (by decide +kernel) rfl rfl (v := .int (z2 (2))) rfl rfl (Nat.le_of_ble_eq_true rfl) dX5_license_42 (fun H locs he hz oq hS => ?_)
        have hM : PM D ks bm (up X 22 0 (2)) H := hM.own (k := 22) (by decide) he oq
        refine lv_aload_n hx hb dX5_license_45 rfl (lv_at hl 0 rfl) ?_
        refine g_get (C := RX5) (T := TX5) (N := 23) hx hb hts inX5 hown hG hM.1 rfl 22 (by decide) (by decide +kernel) rfl (v := .int (z2 (2))) (congrArg (fun z => some (Value.int (z2 z))) (by simp [up] : (up X 22 0 (2)) 22 0 = 2)) dX5_license_46 ?_
        refine b_if_le (tgt := 54) hx hb dX5_license_49 (by decide) ⟨by omega, by omega⟩ (fun c => absurd c (by omega)) (fun _ => ?_)
        refine b_iconst hx hb dX5_license_52 ?_
        exact g_iret hx hb hr hlocks hS ⟨Nat.le_of_ble_eq_true rfl, Nat.le_of_ble_eq_true rfl⟩ (⟨0, up X 22 0 (2), Or.inr (Or.inr (Or.inl (⟨by omega, rfl⟩))), rfl, hM⟩) dX5_license_53
    · skip
      refine b_iconst hx hb dX5_license_22 ?_
      refine lv_goto (tgt := 42) hx hb dX5_license_23 (by decide) ?_
      refine g_put (C := RX5) (T := TX5) (N := 23) hx hb hts inX5 tyX5 tyX5_ok nmX5 hown hG hS hM.1 (Or.inl ⟨by omega, by omega⟩) rfl 22 (by decide) (by decide +kernel) rfl rfl (v := .int (z2 (1))) rfl rfl (Nat.le_of_ble_eq_true rfl) dX5_license_42 (fun H locs he hz oq hS => ?_)
      have hM : PM D ks bm (up X 22 0 (1)) H := hM.own (k := 22) (by decide) he oq
      refine lv_aload_n hx hb dX5_license_45 rfl (lv_at hl 0 rfl) ?_
      refine g_get (C := RX5) (T := TX5) (N := 23) hx hb hts inX5 hown hG hM.1 rfl 22 (by decide) (by decide +kernel) rfl (v := .int (z2 (1))) (congrArg (fun z => some (Value.int (z2 z))) (by simp [up] : (up X 22 0 (1)) 22 0 = 1)) dX5_license_46 ?_
      refine b_if_le (tgt := 54) hx hb dX5_license_49 (by decide) ⟨by omega, by omega⟩ (fun c => absurd c (by omega)) (fun _ => ?_)
      refine b_iconst hx hb dX5_license_52 ?_
      exact g_iret hx hb hr hlocks hS ⟨Nat.le_of_ble_eq_true rfl, Nat.le_of_ble_eq_true rfl⟩ (⟨0, up X 22 0 (1), Or.inr (Or.inl (⟨by omega, rfl⟩)), rfl, hM⟩) dX5_license_53
set_option maxHeartbeats 4000000 in
set_option maxRecDepth 100000 in
theorem m_setQuiet (l : Launch) (D : va_G) (ks : Nat → ClassId) (bx : Nat) (bm : Nat) (hbm : bx ≤ bm) (X : Nat → Nat → Int) (H : Heap) (hM : PM D ks bm X H) (hV : VS X) (u v2 u3 : Int) (hu : -2147483648 ≤ u ∧ u < 2147483648) (hv2 : -2147483648 ≤ v2 ∧ v2 < 2147483648) (hu3 : -2147483648 ≤ u3 ∧ u3 < 2147483648) : KM l yX5_setQuiet wsX5_setQuiet ({ frames := 2, cells := 0, slots := 0, locals := 42 } : Room) D ks bx [.ref bm, .int (z2 u), .int (z2 v2), .int (z2 u3)] H (RM bm) (fun v H1 => ∃ (r : Int) (Y : Nat → Nat → Int), ro_setQuiet X u v2 u3 r Y ∧ v = some (.int (z2 r)) ∧ PM D ks bm Y H1) (fun _ _ => False) := by
  refine KM.of (cc := cX5_setQuiet) (maxL := 4) (ret := (some .boolean)) (by decide) rfl (Nat.le_of_ble_eq_true rfl) ?_
  intro p e s m below meth c hx hb hml hr hlocks hown hname hts hext hH0 hG ls hl
  subst hH0
  have hown : s.vm.findClass RX5 = some m.cls := hown
  have hS : va_S (AR (RM bm) s.heap.size) s.heap s.heap [] := va_S.rf
  have hl : lv_has ls 4 [(0, .ref bm), (1, .int (z2 (u))), (2, .int (z2 (v2))), (3, .int (z2 (u3)))] := hl
  have inX5 : ∀ w ∈ wsX50, w ∈ wsX5_setQuiet := by decide +kernel
  refine lv_aload_n hx hb dX5_setQuiet_0 rfl (lv_at hl 0 rfl) ?_
  refine lv_iload_n hx hb dX5_setQuiet_1 rfl (lv_at hl 1 rfl) ?_
  refine g_run (vx_runS (As := [.int (z2 (u))]) (rest := [.ref bm]) ⟨hx, hb, hml, hown, hts⟩ (m_isHouse l D ks bx bm hbm _ (u) ⟨by omega, by omega⟩) (cwS 1 hts gX5_setQuiet_X5_isHouse rfl rfl rfl (by decide +kernel) ⟨Nat.le_of_ble_eq_true rfl, Nat.le_of_ble_eq_true rfl⟩) (g_preS hG hS (rm_ge hbm)) rfl rfl hl.1 rfl (lv_room (Nat.le_of_ble_eq_true rfl)) dX5_setQuiet_2 ⟨Nat.le_of_ble_eq_true rfl, Nat.le_of_ble_eq_true rfl⟩) hS (fun _ h => h) (fun _ _ _ _ _ h => h.elim) (fun v H1 locs hp hz9 hk9 hS => ?_)
  obtain ⟨rfl, hH9⟩ := hp
  obtain rfl := hH9.symm
  obtain ⟨iv_2, ev_2, ib_2⟩ : ∃ z : Int, z = (if 0 ≤ u ∧ u ≤ 7 then 1 else 0) ∧ (((0 ≤ u ∧ u ≤ 7) ∧ z = 1) ∨ (¬ (0 ≤ u ∧ u ≤ 7) ∧ z = 0)) := ⟨_, rfl, by split <;> omega⟩
  rw [← ev_2]
  refine W.eq (g2 := F0 m 5 ls [.int (z2 (iv_2)), .ref bm]) rfl ?_
  refine b_if_ne (tgt := 12) hx hb dX5_setQuiet_5 (by decide) ⟨by omega, by omega⟩ (fun c_5 => ?_) (fun c_5 => ?_)
  · skip
    refine lv_iload_n hx hb dX5_setQuiet_12 rfl (lv_at hl 2 rfl) ?_
    refine b_iconst hx hb dX5_setQuiet_13 ?_
    refine b_sipush hx hb dX5_setQuiet_14 (by decide +kernel) ?_
    refine g_run (vx_runS (As := [.int (z2 (v2)), .int (z2 (0)), .int (z2 (999))]) (rest := [.ref bm]) ⟨hx, hb, hml, hown, hts⟩ (m_in l D ks bx bm _ (v2) (0) (999) ⟨⟨by omega, by omega⟩, ⟨by omega, by omega⟩, by omega, by omega⟩) (cwS 3 hts gX5_setQuiet_X5_in rfl rfl rfl (by decide +kernel) ⟨Nat.le_of_ble_eq_true rfl, Nat.le_of_ble_eq_true rfl⟩) (g_preS hG hS (rm_ge hbm)) rfl rfl hl.1 rfl (lv_room (Nat.le_of_ble_eq_true rfl)) dX5_setQuiet_17 ⟨Nat.le_of_ble_eq_true rfl, Nat.le_of_ble_eq_true rfl⟩) hS (fun _ h => h) (fun _ _ _ _ _ h => h.elim) (fun v H1 locs hp hz9 hk9 hS => ?_)
    obtain ⟨rfl, hH9⟩ := hp
    obtain rfl := hH9.symm
    obtain ⟨iv_17, ev_17, ib_17⟩ : ∃ z : Int, z = (if 0 ≤ v2 ∧ v2 ≤ 999 then 1 else 0) ∧ (((0 ≤ v2 ∧ v2 ≤ 999) ∧ z = 1) ∨ (¬ (0 ≤ v2 ∧ v2 ≤ 999) ∧ z = 0)) := ⟨_, rfl, by split <;> omega⟩
    rw [← ev_17]
    refine W.eq (g2 := F0 m 20 ls [.int (z2 (iv_17)), .ref bm]) rfl ?_
    refine b_if_eq (tgt := 34) hx hb dX5_setQuiet_20 (by decide) ⟨by omega, by omega⟩ (fun c_20 => ?_) (fun c_20 => ?_)
    · skip
      refine b_iconst hx hb dX5_setQuiet_34 ?_
      refine lv_goto (tgt := 39) hx hb dX5_setQuiet_35 (by decide) ?_
      refine g_put (C := RX5) (T := TX5) (N := 23) hx hb hts inX5 tyX5 tyX5_ok nmX5 hown hG hS hM.1 (Or.inl ⟨by omega, by omega⟩) rfl 22 (by decide) (by decide +kernel) rfl rfl (v := .int (z2 (2))) rfl rfl (Nat.le_of_ble_eq_true rfl) dX5_setQuiet_39 (fun H locs he hz oq hS => ?_)
      have hM : PM D ks bm (up X 22 0 (2)) H := hM.own (k := 22) (by decide) he oq
      refine lv_aload_n hx hb dX5_setQuiet_42 rfl (lv_at hl 0 rfl) ?_
      refine g_get (C := RX5) (T := TX5) (N := 23) hx hb hts inX5 hown hG hM.1 rfl 22 (by decide) (by decide +kernel) rfl (v := .int (z2 (2))) (congrArg (fun z => some (Value.int (z2 z))) (by simp [up] : (up X 22 0 (2)) 22 0 = 2)) dX5_setQuiet_43 ?_
      refine b_if_le (tgt := 51) hx hb dX5_setQuiet_46 (by decide) ⟨by omega, by omega⟩ (fun c => absurd c (by omega)) (fun _ => ?_)
      refine b_iconst hx hb dX5_setQuiet_49 ?_
      exact g_zret hx hb hr hlocks hS (by decide +kernel) ⟨Nat.le_of_ble_eq_true rfl, Nat.le_of_ble_eq_true rfl⟩ (⟨0, up X 22 0 (2), Or.inr (Or.inr (⟨by omega, rfl⟩)), rfl, hM⟩) dX5_setQuiet_50
    · skip
      refine lv_iload_n hx hb dX5_setQuiet_23 rfl (lv_at hl 3 rfl) ?_
      refine b_iconst hx hb dX5_setQuiet_24 ?_
      refine b_sipush hx hb dX5_setQuiet_25 (by decide +kernel) ?_
      refine g_run (vx_runS (As := [.int (z2 (u3)), .int (z2 (0)), .int (z2 (999))]) (rest := [.ref bm]) ⟨hx, hb, hml, hown, hts⟩ (m_in l D ks bx bm _ (u3) (0) (999) ⟨⟨by omega, by omega⟩, ⟨by omega, by omega⟩, by omega, by omega⟩) (cwS 3 hts gX5_setQuiet_X5_in rfl rfl rfl (by decide +kernel) ⟨Nat.le_of_ble_eq_true rfl, Nat.le_of_ble_eq_true rfl⟩) (g_preS hG hS (rm_ge hbm)) rfl rfl hl.1 rfl (lv_room (Nat.le_of_ble_eq_true rfl)) dX5_setQuiet_28 ⟨Nat.le_of_ble_eq_true rfl, Nat.le_of_ble_eq_true rfl⟩) hS (fun _ h => h) (fun _ _ _ _ _ h => h.elim) (fun v H1 locs hp hz9 hk9 hS => ?_)
      obtain ⟨rfl, hH9⟩ := hp
      obtain rfl := hH9.symm
      obtain ⟨iv_28, ev_28, ib_28⟩ : ∃ z : Int, z = (if 0 ≤ u3 ∧ u3 ≤ 999 then 1 else 0) ∧ (((0 ≤ u3 ∧ u3 ≤ 999) ∧ z = 1) ∨ (¬ (0 ≤ u3 ∧ u3 ≤ 999) ∧ z = 0)) := ⟨_, rfl, by split <;> omega⟩
      rw [← ev_28]
      refine W.eq (g2 := F0 m 31 ls [.int (z2 (iv_28)), .ref bm]) rfl ?_
      refine b_if_ne (tgt := 38) hx hb dX5_setQuiet_31 (by decide) ⟨by omega, by omega⟩ (fun c_31 => ?_) (fun c_31 => ?_)
      · skip
        refine b_iconst hx hb dX5_setQuiet_38 ?_
        refine g_put (C := RX5) (T := TX5) (N := 23) hx hb hts inX5 tyX5 tyX5_ok nmX5 hown hG hS hM.1 (Or.inl ⟨by omega, by omega⟩) rfl 22 (by decide) (by decide +kernel) rfl rfl (v := .int (z2 (0))) rfl rfl (Nat.le_of_ble_eq_true rfl) dX5_setQuiet_39 (fun H locs he hz oq hS => ?_)
        have hM : PM D ks bm (up X 22 0 (0)) H := hM.own (k := 22) (by decide) he oq
        refine lv_aload_n hx hb dX5_setQuiet_42 rfl (lv_at hl 0 rfl) ?_
        refine g_get (C := RX5) (T := TX5) (N := 23) hx hb hts inX5 hown hG hM.1 rfl 22 (by decide) (by decide +kernel) rfl (v := .int (z2 (0))) (congrArg (fun z => some (Value.int (z2 z))) (by simp [up] : (up X 22 0 (0)) 22 0 = 0)) dX5_setQuiet_43 ?_
        refine b_if_le (tgt := 51) hx hb dX5_setQuiet_46 (by decide) ⟨by omega, by omega⟩ (fun _ => ?_) (fun c => absurd c (by omega))
        obtain ⟨n, rfl⟩ : ∃ n : Nat, u = n := ⟨(u).toNat, by omega⟩
        refine lv_aload_n hx hb dX5_setQuiet_51 rfl (lv_at hl 0 rfl) ?_
        refine g_get (C := RX5) (T := TX5) (N := 23) hx hb hts inX5 hown hG hM.1 rfl 9 (by decide) (by decide +kernel) rfl (v := .ref (bm + 8)) rfl dX5_setQuiet_52 ?_
        refine lv_iload_n hx hb dX5_setQuiet_55 rfl (lv_at hl 1 rfl) ?_
        refine lv_iload_n hx hb dX5_setQuiet_56 rfl (lv_at hl 2 rfl) ?_
        refine g_iast (n := 8) hx hb hG hS (f := fun i => z2 ((up X 22 0 (0)) 9 i)) (show ca D (bm + 8) (iA (ks 0) 8 (fun i => z2 ((up X 22 0 (0)) 9 i))) _ from hM.2.1 9 (sr_of (by decide))) (Or.inl ⟨by omega, by omega⟩) n ⟨by omega, by omega, by decide⟩ dX5_setQuiet_57 (fun H locs he hz oq hS => ?_)
        have hM : PM D ks bm (up (up X 22 0 (0)) 9 n (v2)) H := hM.row (f := 9) (sr_of (by decide)) he oq
        refine lv_aload_n hx hb dX5_setQuiet_58 rfl (lv_at hl 0 rfl) ?_
        refine g_get (C := RX5) (T := TX5) (N := 23) hx hb hts inX5 hown hG hM.1 rfl 10 (by decide) (by decide +kernel) rfl (v := .ref (bm + 9)) rfl dX5_setQuiet_59 ?_
        refine lv_iload_n hx hb dX5_setQuiet_62 rfl (lv_at hl 1 rfl) ?_
        refine lv_iload_n hx hb dX5_setQuiet_63 rfl (lv_at hl 3 rfl) ?_
        refine g_iast (n := 8) hx hb hG hS (f := fun i => z2 ((up (up X 22 0 (0)) 9 n (v2)) 10 i)) (show ca D (bm + 9) (iA (ks 0) 8 (fun i => z2 ((up (up X 22 0 (0)) 9 n (v2)) 10 i))) _ from hM.2.1 10 (sr_of (by decide))) (Or.inl ⟨by omega, by omega⟩) n ⟨by omega, by omega, by decide⟩ dX5_setQuiet_64 (fun H locs he hz oq hS => ?_)
        have hM : PM D ks bm (up (up (up X 22 0 (0)) 9 n (v2)) 10 n (u3)) H := hM.row (f := 10) (sr_of (by decide)) he oq
        refine lv_aload_n hx hb dX5_setQuiet_65 rfl (lv_at hl 0 rfl) ?_
        refine lv_iload_n hx hb dX5_setQuiet_66 rfl (lv_at hl 1 rfl) ?_
        refine g_run (vx_runV (As := [.int (z2 (((n : Nat) : Int)))]) (rest := []) ⟨hx, hb, hml, hown, hts⟩ (m_isQuiet l D ks bx bm hbm (up (up (up X 22 0 (0)) 9 n (v2)) 10 n (u3)) _ hM (vs_up (vs_up (vs_uf hV (by decide)) (by decide) (fun _ _ => by show 0 ≤ _ ∧ _ ≤ (999 : Int); omega)) (by decide) (fun _ _ => by show 0 ≤ _ ∧ _ ≤ (999 : Int); omega)) (n := n) (((n : Nat) : Int)) ⟨by omega, by omega⟩) (cwV 1 hts gX5_setQuiet_X5_isQuiet rfl rfl rfl (by decide +kernel) ⟨Nat.le_of_ble_eq_true rfl, Nat.le_of_ble_eq_true rfl⟩) (g_preV (r := (RX5, TX5, 23)) hG hS (rm_ge hbm) hM.1 rfl) rfl rfl hl.1 rfl (lv_room (Nat.le_of_ble_eq_true rfl)) dX5_setQuiet_67 ⟨Nat.le_of_ble_eq_true rfl, Nat.le_of_ble_eq_true rfl⟩) hS (fun _ h => h) (fun _ _ _ _ _ h => h.elim) (fun v H1 locs hp hz9 hk9 hS => ?_)
        obtain ⟨rfl, hH9⟩ := hp
        obtain rfl := hH9.symm
        have qb_67 := qM_b (up (up (up X 22 0 (0)) 9 n (v2)) 10 n (u3)) n
        refine W.eq (g2 := F0 m 70 ls [.int (z2 (qM (up (up (up X 22 0 (0)) 9 n (v2)) 10 n (u3)) n))]) rfl ?_
        have zn9 : narrow .boolean (.int (z2 (qM (up (up (up X 22 0 0) 9 n v2) 10 n u3) n))) = .int (z2 (qM (up (up (up X 22 0 0) 9 n v2) 10 n u3) n)) := by rcases (show qM (up (up (up X 22 0 0) 9 n v2) 10 n u3) n = 1 ∨ qM (up (up (up X 22 0 0) 9 n v2) 10 n u3) n = 0 by have := qM_b (up (up (up X 22 0 0) 9 n v2) 10 n u3) n; omega) with q | q <;> (rw [q]; decide +kernel)
        exact g_zret hx hb hr hlocks hS zn9 ⟨Nat.le_of_ble_eq_true rfl, Nat.le_of_ble_eq_true rfl⟩ (⟨qM (up (up (up X 22 0 (0)) 9 n (v2)) 10 n (u3)) n, up (up (up X 22 0 (0)) 9 n (v2)) 10 n (u3), Or.inl (⟨n, by omega, rfl, rfl⟩), rfl, hM⟩) dX5_setQuiet_70
      · skip
        refine b_iconst hx hb dX5_setQuiet_34 ?_
        refine lv_goto (tgt := 39) hx hb dX5_setQuiet_35 (by decide) ?_
        refine g_put (C := RX5) (T := TX5) (N := 23) hx hb hts inX5 tyX5 tyX5_ok nmX5 hown hG hS hM.1 (Or.inl ⟨by omega, by omega⟩) rfl 22 (by decide) (by decide +kernel) rfl rfl (v := .int (z2 (2))) rfl rfl (Nat.le_of_ble_eq_true rfl) dX5_setQuiet_39 (fun H locs he hz oq hS => ?_)
        have hM : PM D ks bm (up X 22 0 (2)) H := hM.own (k := 22) (by decide) he oq
        refine lv_aload_n hx hb dX5_setQuiet_42 rfl (lv_at hl 0 rfl) ?_
        refine g_get (C := RX5) (T := TX5) (N := 23) hx hb hts inX5 hown hG hM.1 rfl 22 (by decide) (by decide +kernel) rfl (v := .int (z2 (2))) (congrArg (fun z => some (Value.int (z2 z))) (by simp [up] : (up X 22 0 (2)) 22 0 = 2)) dX5_setQuiet_43 ?_
        refine b_if_le (tgt := 51) hx hb dX5_setQuiet_46 (by decide) ⟨by omega, by omega⟩ (fun c => absurd c (by omega)) (fun _ => ?_)
        refine b_iconst hx hb dX5_setQuiet_49 ?_
        exact g_zret hx hb hr hlocks hS (by decide +kernel) ⟨Nat.le_of_ble_eq_true rfl, Nat.le_of_ble_eq_true rfl⟩ (⟨0, up X 22 0 (2), Or.inr (Or.inr (⟨by omega, rfl⟩)), rfl, hM⟩) dX5_setQuiet_50
  · skip
    refine b_iconst hx hb dX5_setQuiet_8 ?_
    refine lv_goto (tgt := 39) hx hb dX5_setQuiet_9 (by decide) ?_
    refine g_put (C := RX5) (T := TX5) (N := 23) hx hb hts inX5 tyX5 tyX5_ok nmX5 hown hG hS hM.1 (Or.inl ⟨by omega, by omega⟩) rfl 22 (by decide) (by decide +kernel) rfl rfl (v := .int (z2 (1))) rfl rfl (Nat.le_of_ble_eq_true rfl) dX5_setQuiet_39 (fun H locs he hz oq hS => ?_)
    have hM : PM D ks bm (up X 22 0 (1)) H := hM.own (k := 22) (by decide) he oq
    refine lv_aload_n hx hb dX5_setQuiet_42 rfl (lv_at hl 0 rfl) ?_
    refine g_get (C := RX5) (T := TX5) (N := 23) hx hb hts inX5 hown hG hM.1 rfl 22 (by decide) (by decide +kernel) rfl (v := .int (z2 (1))) (congrArg (fun z => some (Value.int (z2 z))) (by simp [up] : (up X 22 0 (1)) 22 0 = 1)) dX5_setQuiet_43 ?_
    refine b_if_le (tgt := 51) hx hb dX5_setQuiet_46 (by decide) ⟨by omega, by omega⟩ (fun c => absurd c (by omega)) (fun _ => ?_)
    refine b_iconst hx hb dX5_setQuiet_49 ?_
    exact g_zret hx hb hr hlocks hS (by decide +kernel) ⟨Nat.le_of_ble_eq_true rfl, Nat.le_of_ble_eq_true rfl⟩ (⟨0, up X 22 0 (1), Or.inr (Or.inl (⟨by omega, rfl⟩)), rfl, hM⟩) dX5_setQuiet_50
set_option maxHeartbeats 4000000 in
set_option maxRecDepth 100000 in
theorem m_lay (l : Launch) (D : va_G) (ks : Nat → ClassId) (bx : Nat) (bm : Nat) (hbm : bx ≤ bm) (X : Nat → Nat → Int) (H : Heap) (hM : PM D ks bm X H) (hV : VS X) (u v2 u3 u4 : Int) (hu : -2147483648 ≤ u ∧ u < 2147483648) (hv2 : -2147483648 ≤ v2 ∧ v2 < 2147483648) (hu3 : -2147483648 ≤ u3 ∧ u3 < 2147483648) (hu4 : -2147483648 ≤ u4 ∧ u4 < 2147483648) : KM l yX5_lay wsX5_lay ({ frames := 2, cells := 0, slots := 0, locals := 42 } : Room) D ks bx [.ref bm, .int (z2 u), .int (z2 v2), .int (z2 u3), .int (z2 u4)] H (RM bm) (fun v H1 => ∃ (r : Int) (Y : Nat → Nat → Int), ro_lay X u v2 u3 u4 r Y ∧ v = some (.int (z2 r)) ∧ PM D ks bm Y H1) (fun _ _ => False) := by
  refine KM.of (cc := cX5_lay) (maxL := 7) (ret := (some .int)) (by decide) rfl (Nat.le_of_ble_eq_true rfl) ?_
  intro p e s m below meth c hx hb hml hr hlocks hown hname hts hext hH0 hG ls hl
  subst hH0
  have hown : s.vm.findClass RX5 = some m.cls := hown
  have hS : va_S (AR (RM bm) s.heap.size) s.heap s.heap [] := va_S.rf
  have hl : lv_has ls 7 [(0, .ref bm), (1, .int (z2 (u))), (2, .int (z2 (v2))), (3, .int (z2 (u3))), (4, .int (z2 (u4)))] := hl
  have inX5 : ∀ w ∈ wsX50, w ∈ wsX5_lay := by decide +kernel
  have b1 : 0 ≤ X 1 0 ∧ X 1 0 ≤ 12 := hV.1 1 0 (by decide) rfl
  refine lv_aload_n hx hb dX5_lay_0 rfl (lv_at hl 0 rfl) ?_
  refine lv_iload_n hx hb dX5_lay_1 rfl (lv_at hl 1 rfl) ?_
  refine g_run (vx_runS (As := [.int (z2 (u))]) (rest := [.ref bm]) ⟨hx, hb, hml, hown, hts⟩ (m_isHouse l D ks bx bm hbm _ (u) ⟨by omega, by omega⟩) (cwS 1 hts gX5_lay_X5_isHouse rfl rfl rfl (by decide +kernel) ⟨Nat.le_of_ble_eq_true rfl, Nat.le_of_ble_eq_true rfl⟩) (g_preS hG hS (rm_ge hbm)) rfl rfl hl.1 rfl (lv_room (Nat.le_of_ble_eq_true rfl)) dX5_lay_2 ⟨Nat.le_of_ble_eq_true rfl, Nat.le_of_ble_eq_true rfl⟩) hS (fun _ h => h) (fun _ _ _ _ _ h => h.elim) (fun v H1 locs hp hz9 hk9 hS => ?_)
  obtain ⟨rfl, hH9⟩ := hp
  obtain rfl := hH9.symm
  obtain ⟨iv_2, ev_2, ib_2⟩ : ∃ z : Int, z = (if 0 ≤ u ∧ u ≤ 7 then 1 else 0) ∧ (((0 ≤ u ∧ u ≤ 7) ∧ z = 1) ∨ (¬ (0 ≤ u ∧ u ≤ 7) ∧ z = 0)) := ⟨_, rfl, by split <;> omega⟩
  rw [← ev_2]
  refine W.eq (g2 := F0 m 5 ls [.int (z2 (iv_2)), .ref bm]) rfl ?_
  refine b_if_eq (tgt := 36) hx hb dX5_lay_5 (by decide) ⟨by omega, by omega⟩ (fun c_5 => ?_) (fun c_5 => ?_)
  · skip
    refine b_iconst hx hb dX5_lay_36 ?_
    refine lv_goto (tgt := 56) hx hb dX5_lay_37 (by decide) ?_
    refine g_put (C := RX5) (T := TX5) (N := 23) hx hb hts inX5 tyX5 tyX5_ok nmX5 hown hG hS hM.1 (Or.inl ⟨by omega, by omega⟩) rfl 22 (by decide) (by decide +kernel) rfl rfl (v := .int (z2 (1))) rfl rfl (Nat.le_of_ble_eq_true rfl) dX5_lay_56 (fun H locs he hz oq hS => ?_)
    have hM : PM D ks bm (up X 22 0 (1)) H := hM.own (k := 22) (by decide) he oq
    refine lv_aload_n hx hb dX5_lay_59 rfl (lv_at hl 0 rfl) ?_
    refine g_get (C := RX5) (T := TX5) (N := 23) hx hb hts inX5 hown hG hM.1 rfl 22 (by decide) (by decide +kernel) rfl (v := .int (z2 (1))) (congrArg (fun z => some (Value.int (z2 z))) (by simp [up] : (up X 22 0 (1)) 22 0 = 1)) dX5_lay_60 ?_
    refine b_if_le (tgt := 68) hx hb dX5_lay_63 (by decide) ⟨by omega, by omega⟩ (fun c => absurd c (by omega)) (fun _ => ?_)
    refine b_iconst hx hb dX5_lay_66 ?_
    exact g_iret hx hb hr hlocks hS ⟨Nat.le_of_ble_eq_true rfl, Nat.le_of_ble_eq_true rfl⟩ (⟨0, up X 22 0 (1), Or.inr (Or.inl (⟨by omega, rfl⟩)), rfl, hM⟩) dX5_lay_67
  · skip
    refine lv_iload_n hx hb dX5_lay_8 rfl (lv_at hl 2 rfl) ?_
    refine b_iconst hx hb dX5_lay_9 ?_
    refine b_iconst hx hb dX5_lay_10 ?_
    refine g_run (vx_runS (As := [.int (z2 (v2)), .int (z2 (0)), .int (z2 (2))]) (rest := [.ref bm]) ⟨hx, hb, hml, hown, hts⟩ (m_in l D ks bx bm _ (v2) (0) (2) ⟨⟨by omega, by omega⟩, ⟨by omega, by omega⟩, by omega, by omega⟩) (cwS 3 hts gX5_lay_X5_in rfl rfl rfl (by decide +kernel) ⟨Nat.le_of_ble_eq_true rfl, Nat.le_of_ble_eq_true rfl⟩) (g_preS hG hS (rm_ge hbm)) rfl rfl hl.1 rfl (lv_room (Nat.le_of_ble_eq_true rfl)) dX5_lay_11 ⟨Nat.le_of_ble_eq_true rfl, Nat.le_of_ble_eq_true rfl⟩) hS (fun _ h => h) (fun _ _ _ _ _ h => h.elim) (fun v H1 locs hp hz9 hk9 hS => ?_)
    obtain ⟨rfl, hH9⟩ := hp
    obtain rfl := hH9.symm
    obtain ⟨iv_11, ev_11, ib_11⟩ : ∃ z : Int, z = (if 0 ≤ v2 ∧ v2 ≤ 2 then 1 else 0) ∧ (((0 ≤ v2 ∧ v2 ≤ 2) ∧ z = 1) ∨ (¬ (0 ≤ v2 ∧ v2 ≤ 2) ∧ z = 0)) := ⟨_, rfl, by split <;> omega⟩
    rw [← ev_11]
    refine W.eq (g2 := F0 m 14 ls [.int (z2 (iv_11)), .ref bm]) rfl ?_
    refine b_if_eq (tgt := 36) hx hb dX5_lay_14 (by decide) ⟨by omega, by omega⟩ (fun c_14 => ?_) (fun c_14 => ?_)
    · skip
      refine b_iconst hx hb dX5_lay_36 ?_
      refine lv_goto (tgt := 56) hx hb dX5_lay_37 (by decide) ?_
      refine g_put (C := RX5) (T := TX5) (N := 23) hx hb hts inX5 tyX5 tyX5_ok nmX5 hown hG hS hM.1 (Or.inl ⟨by omega, by omega⟩) rfl 22 (by decide) (by decide +kernel) rfl rfl (v := .int (z2 (1))) rfl rfl (Nat.le_of_ble_eq_true rfl) dX5_lay_56 (fun H locs he hz oq hS => ?_)
      have hM : PM D ks bm (up X 22 0 (1)) H := hM.own (k := 22) (by decide) he oq
      refine lv_aload_n hx hb dX5_lay_59 rfl (lv_at hl 0 rfl) ?_
      refine g_get (C := RX5) (T := TX5) (N := 23) hx hb hts inX5 hown hG hM.1 rfl 22 (by decide) (by decide +kernel) rfl (v := .int (z2 (1))) (congrArg (fun z => some (Value.int (z2 z))) (by simp [up] : (up X 22 0 (1)) 22 0 = 1)) dX5_lay_60 ?_
      refine b_if_le (tgt := 68) hx hb dX5_lay_63 (by decide) ⟨by omega, by omega⟩ (fun c => absurd c (by omega)) (fun _ => ?_)
      refine b_iconst hx hb dX5_lay_66 ?_
      exact g_iret hx hb hr hlocks hS ⟨Nat.le_of_ble_eq_true rfl, Nat.le_of_ble_eq_true rfl⟩ (⟨0, up X 22 0 (1), Or.inr (Or.inl (⟨by omega, rfl⟩)), rfl, hM⟩) dX5_lay_67
    · skip
      refine lv_iload_n hx hb dX5_lay_17 rfl (lv_at hl 3 rfl) ?_
      refine b_iconst hx hb dX5_lay_18 ?_
      refine b_icmp_eq (tgt := 40) hx hb dX5_lay_19 (by decide) ⟨⟨by omega, by omega⟩, ⟨by omega, by omega⟩⟩ (fun c_19 => ?_) (fun c_19 => ?_)
      · skip
        refine lv_iload hx hb dX5_lay_40 (lv_at hl 4 rfl) ?_
        refine b_iconst hx hb dX5_lay_42 ?_
        refine b_bipush hx hb dX5_lay_43 (by decide +kernel) ?_
        refine g_run (vx_runS (As := [.int (z2 (u4)), .int (z2 (1)), .int (z2 (9))]) (rest := [.ref bm]) ⟨hx, hb, hml, hown, hts⟩ (m_in l D ks bx bm _ (u4) (1) (9) ⟨⟨by omega, by omega⟩, ⟨by omega, by omega⟩, by omega, by omega⟩) (cwS 3 hts gX5_lay_X5_in rfl rfl rfl (by decide +kernel) ⟨Nat.le_of_ble_eq_true rfl, Nat.le_of_ble_eq_true rfl⟩) (g_preS hG hS (rm_ge hbm)) rfl rfl hl.1 rfl (lv_room (Nat.le_of_ble_eq_true rfl)) dX5_lay_45 ⟨Nat.le_of_ble_eq_true rfl, Nat.le_of_ble_eq_true rfl⟩) hS (fun _ h => h) (fun _ _ _ _ _ h => h.elim) (fun v H1 locs hp hz9 hk9 hS => ?_)
        obtain ⟨rfl, hH9⟩ := hp
        obtain rfl := hH9.symm
        obtain ⟨iv_45, ev_45, ib_45⟩ : ∃ z : Int, z = (if 1 ≤ u4 ∧ u4 ≤ 9 then 1 else 0) ∧ (((1 ≤ u4 ∧ u4 ≤ 9) ∧ z = 1) ∨ (¬ (1 ≤ u4 ∧ u4 ≤ 9) ∧ z = 0)) := ⟨_, rfl, by split <;> omega⟩
        rw [← ev_45]
        refine W.eq (g2 := F0 m 48 ls [.int (z2 (iv_45)), .ref bm]) rfl ?_
        refine b_if_ne (tgt := 55) hx hb dX5_lay_48 (by decide) ⟨by omega, by omega⟩ (fun c_48 => ?_) (fun c_48 => ?_)
        · skip
          refine b_iconst hx hb dX5_lay_55 ?_
          refine g_put (C := RX5) (T := TX5) (N := 23) hx hb hts inX5 tyX5 tyX5_ok nmX5 hown hG hS hM.1 (Or.inl ⟨by omega, by omega⟩) rfl 22 (by decide) (by decide +kernel) rfl rfl (v := .int (z2 (0))) rfl rfl (Nat.le_of_ble_eq_true rfl) dX5_lay_56 (fun H locs he hz oq hS => ?_)
          have hM : PM D ks bm (up X 22 0 (0)) H := hM.own (k := 22) (by decide) he oq
          refine lv_aload_n hx hb dX5_lay_59 rfl (lv_at hl 0 rfl) ?_
          refine g_get (C := RX5) (T := TX5) (N := 23) hx hb hts inX5 hown hG hM.1 rfl 22 (by decide) (by decide +kernel) rfl (v := .int (z2 (0))) (congrArg (fun z => some (Value.int (z2 z))) (by simp [up] : (up X 22 0 (0)) 22 0 = 0)) dX5_lay_60 ?_
          refine b_if_le (tgt := 68) hx hb dX5_lay_63 (by decide) ⟨by omega, by omega⟩ (fun _ => ?_) (fun c => absurd c (by omega))
          obtain ⟨n, rfl⟩ : ∃ n : Nat, u = n := ⟨(u).toNat, by omega⟩
          obtain ⟨b, rfl⟩ : ∃ b : Nat, v2 = b := ⟨(v2).toNat, by omega⟩
          refine b_iconst hx hb dX5_lay_68 ?_
          refine lv_iload_n hx hb dX5_lay_69 rfl (lv_at hl 1 rfl) ?_
          refine b_imul hx hb dX5_lay_70 ?_
          refine lv_iload_n hx hb dX5_lay_71 rfl (lv_at hl 2 rfl) ?_
          refine b_iadd hx hb dX5_lay_72 ?_
          refine lv_istore (lv' := [(5, .int (z2 ((3 * ((n : Nat) : Int)) + ((b : Nat) : Int)))), (0, .ref bm), (1, .int (z2 (((n : Nat) : Int)))), (2, .int (z2 (((b : Nat) : Int)))), (3, .int (z2 (u3))), (4, .int (z2 (u4)))]) hx hb dX5_lay_73 hl (by decide) rfl (fun ls hl => ?_)
          refine lv_aload_n hx hb dX5_lay_75 rfl (lv_at hl 1 rfl) ?_
          refine g_get (C := RX5) (T := TX5) (N := 23) hx hb hts inX5 hown hG hM.1 rfl 5 (by decide) (by decide +kernel) rfl (v := .ref (bm + 4)) rfl dX5_lay_76 ?_
          refine lv_iload hx hb dX5_lay_79 (lv_at hl 0 rfl) ?_
          have b_81 : 0 ≤ X 5 (3 * n + b) ∧ X 5 (3 * n + b) ≤ 12 := hV.1 5 _ (by decide) rfl
          refine g_iald (n := 24) hx hb hG (f := fun i => z2 ((up X 22 0 (0)) 5 i)) (show ca D (bm + 4) (iA (ks 0) 24 (fun i => z2 ((up X 22 0 (0)) 5 i))) _ from hM.2.1 5 (sr_of (by decide))) (3 * n + b) ⟨by omega, by omega, by decide⟩ dX5_lay_81 ?_
          refine W.eq (g2 := F0 m 82 ls (.int (z2 (X 5 (3 * n + b))) :: [])) rfl ?_
          refine b_iconst hx hb dX5_lay_82 ?_
          refine b_isub hx hb dX5_lay_83 ?_
          refine lv_istore (lv' := [(6, .int (z2 ((X 5 (3 * n + b)) - 1))), (5, .int (z2 ((3 * ((n : Nat) : Int)) + ((b : Nat) : Int)))), (0, .ref bm), (1, .int (z2 (((n : Nat) : Int)))), (2, .int (z2 (((b : Nat) : Int)))), (3, .int (z2 (u3))), (4, .int (z2 (u4)))]) hx hb dX5_lay_84 hl (by decide) rfl (fun ls hl => ?_)
          refine lv_aload_n hx hb dX5_lay_86 rfl (lv_at hl 2 rfl) ?_
          refine g_get (C := RX5) (T := TX5) (N := 23) hx hb hts inX5 hown hG hM.1 rfl 5 (by decide) (by decide +kernel) rfl (v := .ref (bm + 4)) rfl dX5_lay_87 ?_
          refine lv_iload hx hb dX5_lay_90 (lv_at hl 1 rfl) ?_
          refine lv_iload_n hx hb dX5_lay_92 rfl (lv_at hl 5 rfl) ?_
          refine b_iconst hx hb dX5_lay_93 ?_
          refine b_iadd hx hb dX5_lay_94 ?_
          refine g_iast (n := 24) hx hb hG hS (f := fun i => z2 ((up X 22 0 (0)) 5 i)) (show ca D (bm + 4) (iA (ks 0) 24 (fun i => z2 ((up X 22 0 (0)) 5 i))) _ from hM.2.1 5 (sr_of (by decide))) (Or.inl ⟨by omega, by omega⟩) (3 * n + b) ⟨by omega, by omega, by decide⟩ dX5_lay_95 (fun H locs he hz oq hS => ?_)
          have hM : PM D ks bm (up (up X 22 0 (0)) 5 (3 * n + b) (u3 + 1)) H := hM.row (f := 5) (sr_of (by decide)) he oq
          refine lv_aload_n hx hb dX5_lay_96 rfl (lv_at hl 2 rfl) ?_
          refine g_get (C := RX5) (T := TX5) (N := 23) hx hb hts inX5 hown hG hM.1 rfl 6 (by decide) (by decide +kernel) rfl (v := .ref (bm + 5)) rfl dX5_lay_97 ?_
          refine lv_iload hx hb dX5_lay_100 (lv_at hl 1 rfl) ?_
          refine lv_iload hx hb dX5_lay_102 (lv_at hl 6 rfl) ?_
          refine g_iast (n := 24) hx hb hG hS (f := fun i => z2 ((up (up X 22 0 (0)) 5 (3 * n + b) (u3 + 1)) 6 i)) (show ca D (bm + 5) (iA (ks 0) 24 (fun i => z2 ((up (up X 22 0 (0)) 5 (3 * n + b) (u3 + 1)) 6 i))) _ from hM.2.1 6 (sr_of (by decide))) (Or.inl ⟨by omega, by omega⟩) (3 * n + b) ⟨by omega, by omega, by decide⟩ dX5_lay_104 (fun H locs he hz oq hS => ?_)
          have hM : PM D ks bm (up (up (up X 22 0 (0)) 5 (3 * n + b) (u3 + 1)) 6 (3 * n + b) (u4)) H := hM.row (f := 6) (sr_of (by decide)) he oq
          refine lv_aload_n hx hb dX5_lay_105 rfl (lv_at hl 2 rfl) ?_
          refine g_get (C := RX5) (T := TX5) (N := 23) hx hb hts inX5 hown hG hM.1 rfl 7 (by decide) (by decide +kernel) rfl (v := .ref (bm + 6)) rfl dX5_lay_106 ?_
          refine lv_iload hx hb dX5_lay_109 (lv_at hl 1 rfl) ?_
          refine b_iconst hx hb dX5_lay_111 ?_
          refine g_iast (n := 24) hx hb hG hS (f := fun i => z2 ((up (up (up X 22 0 (0)) 5 (3 * n + b) (u3 + 1)) 6 (3 * n + b) (u4)) 7 i)) (show ca D (bm + 6) (iA (ks 0) 24 (fun i => z2 ((up (up (up X 22 0 (0)) 5 (3 * n + b) (u3 + 1)) 6 (3 * n + b) (u4)) 7 i))) _ from hM.2.1 7 (sr_of (by decide))) (Or.inl ⟨by omega, by omega⟩) (3 * n + b) ⟨by omega, by omega, by decide⟩ dX5_lay_112 (fun H locs he hz oq hS => ?_)
          have hM : PM D ks bm (up (up (up (up X 22 0 (0)) 5 (3 * n + b) (u3 + 1)) 6 (3 * n + b) (u4)) 7 (3 * n + b) (0)) H := hM.row (f := 7) (sr_of (by decide)) he oq
          refine lv_iload hx hb dX5_lay_113 (lv_at hl 0 rfl) ?_
          exact g_iret hx hb hr hlocks hS ⟨Nat.le_of_ble_eq_true rfl, Nat.le_of_ble_eq_true rfl⟩ (⟨(X 5 (3 * n + b)) - 1, up (up (up (up X 22 0 (0)) 5 (3 * n + b) (u3 + 1)) 6 (3 * n + b) (u4)) 7 (3 * n + b) (0), Or.inl (⟨n, b, by omega, rfl, rfl⟩), rfl, hM⟩) dX5_lay_115
        · skip
          refine b_iconst hx hb dX5_lay_51 ?_
          refine lv_goto (tgt := 56) hx hb dX5_lay_52 (by decide) ?_
          refine g_put (C := RX5) (T := TX5) (N := 23) hx hb hts inX5 tyX5 tyX5_ok nmX5 hown hG hS hM.1 (Or.inl ⟨by omega, by omega⟩) rfl 22 (by decide) (by decide +kernel) rfl rfl (v := .int (z2 (2))) rfl rfl (Nat.le_of_ble_eq_true rfl) dX5_lay_56 (fun H locs he hz oq hS => ?_)
          have hM : PM D ks bm (up X 22 0 (2)) H := hM.own (k := 22) (by decide) he oq
          refine lv_aload_n hx hb dX5_lay_59 rfl (lv_at hl 0 rfl) ?_
          refine g_get (C := RX5) (T := TX5) (N := 23) hx hb hts inX5 hown hG hM.1 rfl 22 (by decide) (by decide +kernel) rfl (v := .int (z2 (2))) (congrArg (fun z => some (Value.int (z2 z))) (by simp [up] : (up X 22 0 (2)) 22 0 = 2)) dX5_lay_60 ?_
          refine b_if_le (tgt := 68) hx hb dX5_lay_63 (by decide) ⟨by omega, by omega⟩ (fun c => absurd c (by omega)) (fun _ => ?_)
          refine b_iconst hx hb dX5_lay_66 ?_
          exact g_iret hx hb hr hlocks hS ⟨Nat.le_of_ble_eq_true rfl, Nat.le_of_ble_eq_true rfl⟩ (⟨0, up X 22 0 (2), Or.inr (Or.inr (⟨by omega, rfl⟩)), rfl, hM⟩) dX5_lay_67
      · skip
        refine lv_iload_n hx hb dX5_lay_22 rfl (lv_at hl 3 rfl) ?_
        refine b_iconst hx hb dX5_lay_23 ?_
        refine lv_aload_n hx hb dX5_lay_24 rfl (lv_at hl 0 rfl) ?_
        have b_25 : 0 ≤ X 1 0 ∧ X 1 0 ≤ 12 := hV.1 1 _ (by decide) rfl
        refine g_get (C := RX5) (T := TX5) (N := 23) hx hb hts inX5 hown hG hM.1 rfl 1 (by decide) (by decide +kernel) rfl (v := .int (z2 (X 1 0))) rfl dX5_lay_25 ?_
        refine b_iconst hx hb dX5_lay_28 ?_
        refine b_isub hx hb dX5_lay_29 ?_
        refine g_run (vx_runS (As := [.int (z2 (u3)), .int (z2 (0)), .int (z2 ((X 1 0) - 1))]) (rest := [.ref bm]) ⟨hx, hb, hml, hown, hts⟩ (m_in l D ks bx bm _ (u3) (0) ((X 1 0) - 1) ⟨⟨by omega, by omega⟩, ⟨by omega, by omega⟩, by omega, by omega⟩) (cwS 3 hts gX5_lay_X5_in rfl rfl rfl (by decide +kernel) ⟨Nat.le_of_ble_eq_true rfl, Nat.le_of_ble_eq_true rfl⟩) (g_preS hG hS (rm_ge hbm)) rfl rfl hl.1 rfl (lv_room (Nat.le_of_ble_eq_true rfl)) dX5_lay_30 ⟨Nat.le_of_ble_eq_true rfl, Nat.le_of_ble_eq_true rfl⟩) hS (fun _ h => h) (fun _ _ _ _ _ h => h.elim) (fun v H1 locs hp hz9 hk9 hS => ?_)
        obtain ⟨rfl, hH9⟩ := hp
        obtain rfl := hH9.symm
        obtain ⟨iv_30, ev_30, ib_30⟩ : ∃ z : Int, z = (if 0 ≤ u3 ∧ u3 ≤ (X 1 0) - 1 then 1 else 0) ∧ (((0 ≤ u3 ∧ u3 ≤ (X 1 0) - 1) ∧ z = 1) ∨ (¬ (0 ≤ u3 ∧ u3 ≤ (X 1 0) - 1) ∧ z = 0)) := ⟨_, rfl, by split <;> omega⟩
        rw [← ev_30]
        refine W.eq (g2 := F0 m 33 ls [.int (z2 (iv_30)), .ref bm]) rfl ?_
        refine b_if_ne (tgt := 40) hx hb dX5_lay_33 (by decide) ⟨by omega, by omega⟩ (fun c_33 => ?_) (fun c_33 => ?_)
        · skip
          refine lv_iload hx hb dX5_lay_40 (lv_at hl 4 rfl) ?_
          refine b_iconst hx hb dX5_lay_42 ?_
          refine b_bipush hx hb dX5_lay_43 (by decide +kernel) ?_
          refine g_run (vx_runS (As := [.int (z2 (u4)), .int (z2 (1)), .int (z2 (9))]) (rest := [.ref bm]) ⟨hx, hb, hml, hown, hts⟩ (m_in l D ks bx bm _ (u4) (1) (9) ⟨⟨by omega, by omega⟩, ⟨by omega, by omega⟩, by omega, by omega⟩) (cwS 3 hts gX5_lay_X5_in rfl rfl rfl (by decide +kernel) ⟨Nat.le_of_ble_eq_true rfl, Nat.le_of_ble_eq_true rfl⟩) (g_preS hG hS (rm_ge hbm)) rfl rfl hl.1 rfl (lv_room (Nat.le_of_ble_eq_true rfl)) dX5_lay_45 ⟨Nat.le_of_ble_eq_true rfl, Nat.le_of_ble_eq_true rfl⟩) hS (fun _ h => h) (fun _ _ _ _ _ h => h.elim) (fun v H1 locs hp hz9 hk9 hS => ?_)
          obtain ⟨rfl, hH9⟩ := hp
          obtain rfl := hH9.symm
          obtain ⟨iv_45, ev_45, ib_45⟩ : ∃ z : Int, z = (if 1 ≤ u4 ∧ u4 ≤ 9 then 1 else 0) ∧ (((1 ≤ u4 ∧ u4 ≤ 9) ∧ z = 1) ∨ (¬ (1 ≤ u4 ∧ u4 ≤ 9) ∧ z = 0)) := ⟨_, rfl, by split <;> omega⟩
          rw [← ev_45]
          refine W.eq (g2 := F0 m 48 ls [.int (z2 (iv_45)), .ref bm]) rfl ?_
          refine b_if_ne (tgt := 55) hx hb dX5_lay_48 (by decide) ⟨by omega, by omega⟩ (fun c_48 => ?_) (fun c_48 => ?_)
          · skip
            refine b_iconst hx hb dX5_lay_55 ?_
            refine g_put (C := RX5) (T := TX5) (N := 23) hx hb hts inX5 tyX5 tyX5_ok nmX5 hown hG hS hM.1 (Or.inl ⟨by omega, by omega⟩) rfl 22 (by decide) (by decide +kernel) rfl rfl (v := .int (z2 (0))) rfl rfl (Nat.le_of_ble_eq_true rfl) dX5_lay_56 (fun H locs he hz oq hS => ?_)
            have hM : PM D ks bm (up X 22 0 (0)) H := hM.own (k := 22) (by decide) he oq
            refine lv_aload_n hx hb dX5_lay_59 rfl (lv_at hl 0 rfl) ?_
            refine g_get (C := RX5) (T := TX5) (N := 23) hx hb hts inX5 hown hG hM.1 rfl 22 (by decide) (by decide +kernel) rfl (v := .int (z2 (0))) (congrArg (fun z => some (Value.int (z2 z))) (by simp [up] : (up X 22 0 (0)) 22 0 = 0)) dX5_lay_60 ?_
            refine b_if_le (tgt := 68) hx hb dX5_lay_63 (by decide) ⟨by omega, by omega⟩ (fun _ => ?_) (fun c => absurd c (by omega))
            obtain ⟨n, rfl⟩ : ∃ n : Nat, u = n := ⟨(u).toNat, by omega⟩
            obtain ⟨b, rfl⟩ : ∃ b : Nat, v2 = b := ⟨(v2).toNat, by omega⟩
            refine b_iconst hx hb dX5_lay_68 ?_
            refine lv_iload_n hx hb dX5_lay_69 rfl (lv_at hl 1 rfl) ?_
            refine b_imul hx hb dX5_lay_70 ?_
            refine lv_iload_n hx hb dX5_lay_71 rfl (lv_at hl 2 rfl) ?_
            refine b_iadd hx hb dX5_lay_72 ?_
            refine lv_istore (lv' := [(5, .int (z2 ((3 * ((n : Nat) : Int)) + ((b : Nat) : Int)))), (0, .ref bm), (1, .int (z2 (((n : Nat) : Int)))), (2, .int (z2 (((b : Nat) : Int)))), (3, .int (z2 (u3))), (4, .int (z2 (u4)))]) hx hb dX5_lay_73 hl (by decide) rfl (fun ls hl => ?_)
            refine lv_aload_n hx hb dX5_lay_75 rfl (lv_at hl 1 rfl) ?_
            refine g_get (C := RX5) (T := TX5) (N := 23) hx hb hts inX5 hown hG hM.1 rfl 5 (by decide) (by decide +kernel) rfl (v := .ref (bm + 4)) rfl dX5_lay_76 ?_
            refine lv_iload hx hb dX5_lay_79 (lv_at hl 0 rfl) ?_
            have b_81 : 0 ≤ X 5 (3 * n + b) ∧ X 5 (3 * n + b) ≤ 12 := hV.1 5 _ (by decide) rfl
            refine g_iald (n := 24) hx hb hG (f := fun i => z2 ((up X 22 0 (0)) 5 i)) (show ca D (bm + 4) (iA (ks 0) 24 (fun i => z2 ((up X 22 0 (0)) 5 i))) _ from hM.2.1 5 (sr_of (by decide))) (3 * n + b) ⟨by omega, by omega, by decide⟩ dX5_lay_81 ?_
            refine W.eq (g2 := F0 m 82 ls (.int (z2 (X 5 (3 * n + b))) :: [])) rfl ?_
            refine b_iconst hx hb dX5_lay_82 ?_
            refine b_isub hx hb dX5_lay_83 ?_
            refine lv_istore (lv' := [(6, .int (z2 ((X 5 (3 * n + b)) - 1))), (5, .int (z2 ((3 * ((n : Nat) : Int)) + ((b : Nat) : Int)))), (0, .ref bm), (1, .int (z2 (((n : Nat) : Int)))), (2, .int (z2 (((b : Nat) : Int)))), (3, .int (z2 (u3))), (4, .int (z2 (u4)))]) hx hb dX5_lay_84 hl (by decide) rfl (fun ls hl => ?_)
            refine lv_aload_n hx hb dX5_lay_86 rfl (lv_at hl 2 rfl) ?_
            refine g_get (C := RX5) (T := TX5) (N := 23) hx hb hts inX5 hown hG hM.1 rfl 5 (by decide) (by decide +kernel) rfl (v := .ref (bm + 4)) rfl dX5_lay_87 ?_
            refine lv_iload hx hb dX5_lay_90 (lv_at hl 1 rfl) ?_
            refine lv_iload_n hx hb dX5_lay_92 rfl (lv_at hl 5 rfl) ?_
            refine b_iconst hx hb dX5_lay_93 ?_
            refine b_iadd hx hb dX5_lay_94 ?_
            refine g_iast (n := 24) hx hb hG hS (f := fun i => z2 ((up X 22 0 (0)) 5 i)) (show ca D (bm + 4) (iA (ks 0) 24 (fun i => z2 ((up X 22 0 (0)) 5 i))) _ from hM.2.1 5 (sr_of (by decide))) (Or.inl ⟨by omega, by omega⟩) (3 * n + b) ⟨by omega, by omega, by decide⟩ dX5_lay_95 (fun H locs he hz oq hS => ?_)
            have hM : PM D ks bm (up (up X 22 0 (0)) 5 (3 * n + b) (u3 + 1)) H := hM.row (f := 5) (sr_of (by decide)) he oq
            refine lv_aload_n hx hb dX5_lay_96 rfl (lv_at hl 2 rfl) ?_
            refine g_get (C := RX5) (T := TX5) (N := 23) hx hb hts inX5 hown hG hM.1 rfl 6 (by decide) (by decide +kernel) rfl (v := .ref (bm + 5)) rfl dX5_lay_97 ?_
            refine lv_iload hx hb dX5_lay_100 (lv_at hl 1 rfl) ?_
            refine lv_iload hx hb dX5_lay_102 (lv_at hl 6 rfl) ?_
            refine g_iast (n := 24) hx hb hG hS (f := fun i => z2 ((up (up X 22 0 (0)) 5 (3 * n + b) (u3 + 1)) 6 i)) (show ca D (bm + 5) (iA (ks 0) 24 (fun i => z2 ((up (up X 22 0 (0)) 5 (3 * n + b) (u3 + 1)) 6 i))) _ from hM.2.1 6 (sr_of (by decide))) (Or.inl ⟨by omega, by omega⟩) (3 * n + b) ⟨by omega, by omega, by decide⟩ dX5_lay_104 (fun H locs he hz oq hS => ?_)
            have hM : PM D ks bm (up (up (up X 22 0 (0)) 5 (3 * n + b) (u3 + 1)) 6 (3 * n + b) (u4)) H := hM.row (f := 6) (sr_of (by decide)) he oq
            refine lv_aload_n hx hb dX5_lay_105 rfl (lv_at hl 2 rfl) ?_
            refine g_get (C := RX5) (T := TX5) (N := 23) hx hb hts inX5 hown hG hM.1 rfl 7 (by decide) (by decide +kernel) rfl (v := .ref (bm + 6)) rfl dX5_lay_106 ?_
            refine lv_iload hx hb dX5_lay_109 (lv_at hl 1 rfl) ?_
            refine b_iconst hx hb dX5_lay_111 ?_
            refine g_iast (n := 24) hx hb hG hS (f := fun i => z2 ((up (up (up X 22 0 (0)) 5 (3 * n + b) (u3 + 1)) 6 (3 * n + b) (u4)) 7 i)) (show ca D (bm + 6) (iA (ks 0) 24 (fun i => z2 ((up (up (up X 22 0 (0)) 5 (3 * n + b) (u3 + 1)) 6 (3 * n + b) (u4)) 7 i))) _ from hM.2.1 7 (sr_of (by decide))) (Or.inl ⟨by omega, by omega⟩) (3 * n + b) ⟨by omega, by omega, by decide⟩ dX5_lay_112 (fun H locs he hz oq hS => ?_)
            have hM : PM D ks bm (up (up (up (up X 22 0 (0)) 5 (3 * n + b) (u3 + 1)) 6 (3 * n + b) (u4)) 7 (3 * n + b) (0)) H := hM.row (f := 7) (sr_of (by decide)) he oq
            refine lv_iload hx hb dX5_lay_113 (lv_at hl 0 rfl) ?_
            exact g_iret hx hb hr hlocks hS ⟨Nat.le_of_ble_eq_true rfl, Nat.le_of_ble_eq_true rfl⟩ (⟨(X 5 (3 * n + b)) - 1, up (up (up (up X 22 0 (0)) 5 (3 * n + b) (u3 + 1)) 6 (3 * n + b) (u4)) 7 (3 * n + b) (0), Or.inl (⟨n, b, by omega, rfl, rfl⟩), rfl, hM⟩) dX5_lay_115
          · skip
            refine b_iconst hx hb dX5_lay_51 ?_
            refine lv_goto (tgt := 56) hx hb dX5_lay_52 (by decide) ?_
            refine g_put (C := RX5) (T := TX5) (N := 23) hx hb hts inX5 tyX5 tyX5_ok nmX5 hown hG hS hM.1 (Or.inl ⟨by omega, by omega⟩) rfl 22 (by decide) (by decide +kernel) rfl rfl (v := .int (z2 (2))) rfl rfl (Nat.le_of_ble_eq_true rfl) dX5_lay_56 (fun H locs he hz oq hS => ?_)
            have hM : PM D ks bm (up X 22 0 (2)) H := hM.own (k := 22) (by decide) he oq
            refine lv_aload_n hx hb dX5_lay_59 rfl (lv_at hl 0 rfl) ?_
            refine g_get (C := RX5) (T := TX5) (N := 23) hx hb hts inX5 hown hG hM.1 rfl 22 (by decide) (by decide +kernel) rfl (v := .int (z2 (2))) (congrArg (fun z => some (Value.int (z2 z))) (by simp [up] : (up X 22 0 (2)) 22 0 = 2)) dX5_lay_60 ?_
            refine b_if_le (tgt := 68) hx hb dX5_lay_63 (by decide) ⟨by omega, by omega⟩ (fun c => absurd c (by omega)) (fun _ => ?_)
            refine b_iconst hx hb dX5_lay_66 ?_
            exact g_iret hx hb hr hlocks hS ⟨Nat.le_of_ble_eq_true rfl, Nat.le_of_ble_eq_true rfl⟩ (⟨0, up X 22 0 (2), Or.inr (Or.inr (⟨by omega, rfl⟩)), rfl, hM⟩) dX5_lay_67
        · skip
          refine b_iconst hx hb dX5_lay_36 ?_
          refine lv_goto (tgt := 56) hx hb dX5_lay_37 (by decide) ?_
          refine g_put (C := RX5) (T := TX5) (N := 23) hx hb hts inX5 tyX5 tyX5_ok nmX5 hown hG hS hM.1 (Or.inl ⟨by omega, by omega⟩) rfl 22 (by decide) (by decide +kernel) rfl rfl (v := .int (z2 (1))) rfl rfl (Nat.le_of_ble_eq_true rfl) dX5_lay_56 (fun H locs he hz oq hS => ?_)
          have hM : PM D ks bm (up X 22 0 (1)) H := hM.own (k := 22) (by decide) he oq
          refine lv_aload_n hx hb dX5_lay_59 rfl (lv_at hl 0 rfl) ?_
          refine g_get (C := RX5) (T := TX5) (N := 23) hx hb hts inX5 hown hG hM.1 rfl 22 (by decide) (by decide +kernel) rfl (v := .int (z2 (1))) (congrArg (fun z => some (Value.int (z2 z))) (by simp [up] : (up X 22 0 (1)) 22 0 = 1)) dX5_lay_60 ?_
          refine b_if_le (tgt := 68) hx hb dX5_lay_63 (by decide) ⟨by omega, by omega⟩ (fun c => absurd c (by omega)) (fun _ => ?_)
          refine b_iconst hx hb dX5_lay_66 ?_
          exact g_iret hx hb hr hlocks hS ⟨Nat.le_of_ble_eq_true rfl, Nat.le_of_ble_eq_true rfl⟩ (⟨0, up X 22 0 (1), Or.inr (Or.inl (⟨by omega, rfl⟩)), rfl, hM⟩) dX5_lay_67
