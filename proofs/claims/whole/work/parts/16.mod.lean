/-! THE REFERENCE: contracts of its methods. -/
theorem rg3_e (S : Nat → Nat → Int) (k : Nat) : rg3 S k = up (up (up S 13 k (S 13 k + 1)) 14 k (S 14 k + qM S k)) 16 k (if qM S k = 0 then S 16 k else 1) := by
  have q1 : qM (rg1 S k) k = qM S k := by unfold qM rg1; simp [up]
  have q2 : qM (rg2 S k) k = qM S k := by rw [← q1]; unfold qM rg2; simp [up]
  unfold rg3
  rw [q2]
  unfold rg2
  rw [q1]
  unfold rg1
  simp [up]
def pmV (S : Nat → Nat → Int) (n i k : Nat) : Int :=
  if S 11 n = 1 ∨ 0 < S 7 i then 0 else if qM S n ≠ 0 then 2 else if S 2 k ≠ n ∧ S 8 (12 * n + k) = 0 then 0 else if 10 < plM S n i then 3 else 1
def pmS (S W : Nat → Nat → Int) (n i k : Nat) : Nat → Nat → Int :=
  if S 11 n = 1 ∨ 0 < S 7 i then W else if qM S n ≠ 0 then up W 15 n (S 15 n + 1) else if S 2 k ≠ n ∧ S 8 (12 * n + k) = 0 then W else if 10 < plM S n i then brM W n else beS (up W 8 (12 * n + k) (S 8 (12 * n + k) - (if S 2 k = n then 0 else 1))) i
theorem fm_20 (X : Nat → Nat → Int) (n : Nat) : (brM (flS (up X 22 0 (0)) n 12) n) 20 0 = X 20 0 := by
  unfold brM
  rw [up_f _ _ _ _ (by decide), up_f _ _ _ _ (by decide), up_f _ _ _ _ (by decide), up_f _ _ _ _ (by decide), fl_20 _ n (by decide), up_f _ _ _ _ (by decide)]
/-- fault: the state behind it -/
def fmW (S : Nat → Nat → Int) (n : Nat) : Nat → Nat → Int := brM (flS S n 12) n
def fmR (S : Nat → Nat → Int) (n : Nat) : Nat → Nat → Int :=
  up (up (up (fmW S n) 21 (fmW S n 20 0).toNat (10 * fmW S n 0 0 + (n : Nat))) 20 0 (fmW S n 20 0 + 1)) 17 n (fmW S n 17 n + 1)
def alM (S : Nat → Nat → Int) (a b : Nat) : Nat → Int
  | 0 => 1
  | j + 1 => if alM S a b j ≠ 0 ∧ (toS (S 4 a) (j + 1) - toS (S 4 b) (j + 1) - toS (S 4 a) 0 + toS (S 4 b) 0) % 16 = 0 then 1 else 0
theorem alM_b (S : Nat → Nat → Int) (a b : Nat) : ∀ j : Nat, alM S a b j = 1 ∨ alM S a b j = 0 := by
  intro j
  induction j with
  | zero => exact Or.inl rfl
  | succ j ih =>
    unfold alM
    split <;> omega
set_option maxHeartbeats 4000000 in
set_option maxRecDepth 100000 in
theorem m_in (l : Launch) (D : va_G) (ks : Nat → ClassId) (bx : Nat) (bm : Nat) (H : Heap) (u v2 u3 : Int) (hr : (-2147483648 ≤ u ∧ u < 2147483648) ∧ (-2147483648 ≤ v2 ∧ v2 < 2147483648) ∧ -2147483648 ≤ u3 ∧ u3 < 2147483648) : KM l yX5_in wsX5_in ({ frames := 0, cells := 0, slots := 0, locals := 0 } : Room) D ks bx [.int (z2 u), .int (z2 v2), .int (z2 u3)] H (RM bm) (fun v H1 => v = some (.int (z2 (if v2 ≤ u ∧ u ≤ u3 then 1 else 0))) ∧ H1 = H) (fun _ _ => False) := by
  refine KM.of (cc := cX5_in) (maxL := 3) (ret := (some .boolean)) (by decide) rfl (Nat.le_of_ble_eq_true rfl) ?_
  intro p e s m below meth c hx hb hml hr hlocks hown hname hts hext hH0 hG ls hl
  subst hH0
  have hown : s.vm.findClass RX5 = some m.cls := hown
  have hS : va_S (AR (RM bm) s.heap.size) s.heap s.heap [] := va_S.rf
  have hl : lv_has ls 3 [(0, .int (z2 (u))), (1, .int (z2 (v2))), (2, .int (z2 (u3)))] := hl
  refine lv_iload_n hx hb dX5_in_0 rfl (lv_at hl 0 rfl) ?_
  refine lv_iload_n hx hb dX5_in_1 rfl (lv_at hl 1 rfl) ?_
  refine b_icmp_lt (tgt := 14) hx hb dX5_in_2 (by decide) ⟨⟨by omega, by omega⟩, ⟨by omega, by omega⟩⟩ (fun c_2 => ?_) (fun c_2 => ?_)
  · skip
    refine b_iconst hx hb dX5_in_14 ?_
    exact g_zret hx hb hr hlocks hS (by decide +kernel) ⟨Nat.le_of_ble_eq_true rfl, Nat.le_of_ble_eq_true rfl⟩ (⟨congrArg (fun z => some (Value.int (z2 z))) (by first | rw [if_pos (by omega)] | rw [if_neg (by omega)]), rfl⟩) dX5_in_15
  · skip
    refine lv_iload_n hx hb dX5_in_5 rfl (lv_at hl 0 rfl) ?_
    refine lv_iload_n hx hb dX5_in_6 rfl (lv_at hl 2 rfl) ?_
    refine b_icmp_gt (tgt := 14) hx hb dX5_in_7 (by decide) ⟨⟨by omega, by omega⟩, ⟨by omega, by omega⟩⟩ (fun c_7 => ?_) (fun c_7 => ?_)
    · skip
      refine b_iconst hx hb dX5_in_14 ?_
      exact g_zret hx hb hr hlocks hS (by decide +kernel) ⟨Nat.le_of_ble_eq_true rfl, Nat.le_of_ble_eq_true rfl⟩ (⟨congrArg (fun z => some (Value.int (z2 z))) (by first | rw [if_pos (by omega)] | rw [if_neg (by omega)]), rfl⟩) dX5_in_15
    · skip
      refine b_iconst hx hb dX5_in_10 ?_
      refine lv_goto (tgt := 15) hx hb dX5_in_11 (by decide) ?_
      exact g_zret hx hb hr hlocks hS (by decide +kernel) ⟨Nat.le_of_ble_eq_true rfl, Nat.le_of_ble_eq_true rfl⟩ (⟨congrArg (fun z => some (Value.int (z2 z))) (by first | rw [if_pos (by omega)] | rw [if_neg (by omega)]), rfl⟩) dX5_in_15
set_option maxHeartbeats 4000000 in
set_option maxRecDepth 100000 in
theorem m_isHouse (l : Launch) (D : va_G) (ks : Nat → ClassId) (bx : Nat) (bm : Nat) (hbm : bx ≤ bm) (H : Heap) (u : Int) (hr : -2147483648 ≤ u ∧ u < 2147483648) : KM l yX5_isHouse wsX5_isHouse ({ frames := 1, cells := 0, slots := 0, locals := 22 } : Room) D ks bx [.int (z2 u)] H (RM bm) (fun v H1 => v = some (.int (z2 (if 0 ≤ u ∧ u ≤ 7 then 1 else 0))) ∧ H1 = H) (fun _ _ => False) := by
  refine KM.of (cc := cX5_isHouse) (maxL := 1) (ret := (some .boolean)) (by decide) rfl (Nat.le_of_ble_eq_true rfl) ?_
  intro p e s m below meth c hx hb hml hr hlocks hown hname hts hext hH0 hG ls hl
  subst hH0
  have hown : s.vm.findClass RX5 = some m.cls := hown
  have hS : va_S (AR (RM bm) s.heap.size) s.heap s.heap [] := va_S.rf
  have hl : lv_has ls 1 [(0, .int (z2 (u)))] := hl
  refine lv_iload_n hx hb dX5_isHouse_0 rfl (lv_at hl 0 rfl) ?_
  refine b_iconst hx hb dX5_isHouse_1 ?_
  refine b_bipush hx hb dX5_isHouse_2 (by decide +kernel) ?_
  refine g_run (vx_runS (As := [.int (z2 (u)), .int (z2 (0)), .int (z2 (7))]) (rest := []) ⟨hx, hb, hml, hown, hts⟩ (m_in l D ks bx bm _ (u) (0) (7) ⟨⟨by omega, by omega⟩, ⟨by omega, by omega⟩, by omega, by omega⟩) (cwS 3 hts gX5_isHouse_X5_in rfl rfl rfl (by decide +kernel) ⟨Nat.le_of_ble_eq_true rfl, Nat.le_of_ble_eq_true rfl⟩) (g_preS hG hS (rm_ge hbm)) rfl rfl hl.1 rfl (lv_room (Nat.le_of_ble_eq_true rfl)) dX5_isHouse_4 ⟨Nat.le_of_ble_eq_true rfl, Nat.le_of_ble_eq_true rfl⟩) hS (fun _ h => h) (fun _ _ _ _ _ h => h.elim) (fun v H1 locs hp hz9 hk9 hS => ?_)
  obtain ⟨rfl, hH9⟩ := hp
  obtain rfl := hH9.symm
  obtain ⟨iv_4, ev_4, ib_4⟩ : ∃ z : Int, z = (if 0 ≤ u ∧ u ≤ 7 then 1 else 0) ∧ (((0 ≤ u ∧ u ≤ 7) ∧ z = 1) ∨ (¬ (0 ≤ u ∧ u ≤ 7) ∧ z = 0)) := ⟨_, rfl, by split <;> omega⟩
  rw [← ev_4]
  refine W.eq (g2 := F0 m 7 ls [.int (z2 (iv_4))]) rfl ?_
  have zn9 : narrow .boolean (.int (z2 iv_4)) = .int (z2 iv_4) := by rcases (show iv_4 = 1 ∨ iv_4 = 0 by omega) with q | q <;> (rw [q]; decide +kernel)
  exact g_zret hx hb hr hlocks hS zn9 ⟨Nat.le_of_ble_eq_true rfl, Nat.le_of_ble_eq_true rfl⟩ (⟨by first | rfl | exact congrArg (fun z => some (Value.int (z2 z))) (show iv_4 = (if 0 ≤ u ∧ u ≤ 7 then 1 else 0) from by split <;> omega), rfl⟩) dX5_isHouse_7
set_option maxHeartbeats 4000000 in
set_option maxRecDepth 100000 in
theorem m_thrown (l : Launch) (D : va_G) (ks : Nat → ClassId) (bx : Nat) (bm : Nat) (hbm : bx ≤ bm) (X : Nat → Nat → Int) (H : Heap) (hM : PM D ks bm X H) (hV : VS X) : KM l yX5_thrown wsX5_thrown ({ frames := 0, cells := 0, slots := 0, locals := 0 } : Room) D ks bx [.ref bm] H (RM bm) (fun v H1 => v = some (.int (z2 (X 22 0))) ∧ H1 = H) (fun _ _ => False) := by
  refine KM.of (cc := cX5_thrown) (maxL := 1) (ret := (some .int)) (by decide) rfl (Nat.le_of_ble_eq_true rfl) ?_
  intro p e s m below meth c hx hb hml hr hlocks hown hname hts hext hH0 hG ls hl
  subst hH0
  have hown : s.vm.findClass RX5 = some m.cls := hown
  have hS : va_S (AR (RM bm) s.heap.size) s.heap s.heap [] := va_S.rf
  have hl : lv_has ls 1 [(0, .ref bm)] := hl
  have inX5 : ∀ w ∈ wsX50, w ∈ wsX5_thrown := by decide +kernel
  refine lv_aload_n hx hb dX5_thrown_0 rfl (lv_at hl 0 rfl) ?_
  refine g_get (C := RX5) (T := TX5) (N := 23) hx hb hts inX5 hown hG hM.1 rfl 22 (by decide) (by decide +kernel) rfl (v := .int (z2 (X 22 0))) rfl dX5_thrown_1 ?_
  exact g_iret hx hb hr hlocks hS ⟨Nat.le_of_ble_eq_true rfl, Nat.le_of_ble_eq_true rfl⟩ (⟨rfl, rfl⟩) dX5_thrown_4
set_option maxHeartbeats 4000000 in
set_option maxRecDepth 100000 in
theorem m_fails (l : Launch) (D : va_G) (ks : Nat → ClassId) (bx : Nat) (bm : Nat) (hbm : bx ≤ bm) (X : Nat → Nat → Int) (H : Heap) (hM : PM D ks bm X H) (hV : VS X) (u : Int) : KM l yX5_fails wsX5_fails ({ frames := 0, cells := 0, slots := 0, locals := 0 } : Room) D ks bx [.ref bm, .int (z2 u)] H (RM bm) (fun v H1 => v = some (.int (z2 0)) ∧ PM D ks bm (up X 22 0 u) H1) (fun _ _ => False) := by
  refine KM.of (cc := cX5_fails) (maxL := 2) (ret := (some .int)) (by decide) rfl (Nat.le_of_ble_eq_true rfl) ?_
  intro p e s m below meth c hx hb hml hr hlocks hown hname hts hext hH0 hG ls hl
  subst hH0
  have hown : s.vm.findClass RX5 = some m.cls := hown
  have hS : va_S (AR (RM bm) s.heap.size) s.heap s.heap [] := va_S.rf
  have hl : lv_has ls 2 [(0, .ref bm), (1, .int (z2 (u)))] := hl
  have inX5 : ∀ w ∈ wsX50, w ∈ wsX5_fails := by decide +kernel
  refine lv_aload_n hx hb dX5_fails_0 rfl (lv_at hl 0 rfl) ?_
  refine lv_iload_n hx hb dX5_fails_1 rfl (lv_at hl 1 rfl) ?_
  refine g_put (C := RX5) (T := TX5) (N := 23) hx hb hts inX5 tyX5 tyX5_ok nmX5 hown hG hS hM.1 (Or.inl ⟨by omega, by omega⟩) rfl 22 (by decide) (by decide +kernel) rfl rfl (v := .int (z2 (u))) rfl rfl (Nat.le_of_ble_eq_true rfl) dX5_fails_2 (fun H locs he hz oq hS => ?_)
  have hM : PM D ks bm (up X 22 0 (u)) H := hM.own (k := 22) (by decide) he oq
  refine b_iconst hx hb dX5_fails_5 ?_
  exact g_iret hx hb hr hlocks hS ⟨Nat.le_of_ble_eq_true rfl, Nat.le_of_ble_eq_true rfl⟩ (⟨rfl, hM⟩) dX5_fails_6
set_option maxHeartbeats 4000000 in
set_option maxRecDepth 100000 in
theorem m_isMelody (l : Launch) (D : va_G) (ks : Nat → ClassId) (bx : Nat) (bm : Nat) (hbm : bx ≤ bm) (X : Nat → Nat → Int) (H : Heap) (hM : PM D ks bm X H) (hV : VS X) (u : Int) (hu : -2147483648 ≤ u ∧ u < 2147483648) : KM l yX5_isMelody wsX5_isMelody ({ frames := 1, cells := 0, slots := 0, locals := 22 } : Room) D ks bx [.ref bm, .int (z2 u)] H (RM bm) (fun v H1 => ((0 ≤ u ∧ u < X 1 0) ∧ v = some (.int (z2 1)) ∧ PM D ks bm (up X 22 0 0) H1) ∨ (¬ (0 ≤ u ∧ u < X 1 0) ∧ v = some (.int (z2 0)) ∧ PM D ks bm (up X 22 0 1) H1)) (fun _ _ => False) := by
  refine KM.of (cc := cX5_isMelody) (maxL := 2) (ret := (some .boolean)) (by decide) rfl (Nat.le_of_ble_eq_true rfl) ?_
  intro p e s m below meth c hx hb hml hr hlocks hown hname hts hext hH0 hG ls hl
  subst hH0
  have hown : s.vm.findClass RX5 = some m.cls := hown
  have hS : va_S (AR (RM bm) s.heap.size) s.heap s.heap [] := va_S.rf
  have hl : lv_has ls 2 [(0, .ref bm), (1, .int (z2 (u)))] := hl
  have inX5 : ∀ w ∈ wsX50, w ∈ wsX5_isMelody := by decide +kernel
  refine lv_aload_n hx hb dX5_isMelody_0 rfl (lv_at hl 0 rfl) ?_
  refine lv_iload_n hx hb dX5_isMelody_1 rfl (lv_at hl 1 rfl) ?_
  refine b_iconst hx hb dX5_isMelody_2 ?_
  refine lv_aload_n hx hb dX5_isMelody_3 rfl (lv_at hl 0 rfl) ?_
  have b_4 : 0 ≤ X 1 0 ∧ X 1 0 ≤ 12 := hV.1 1 _ (by decide) rfl
  refine g_get (C := RX5) (T := TX5) (N := 23) hx hb hts inX5 hown hG hM.1 rfl 1 (by decide) (by decide +kernel) rfl (v := .int (z2 (X 1 0))) rfl dX5_isMelody_4 ?_
  refine b_iconst hx hb dX5_isMelody_7 ?_
  refine b_isub hx hb dX5_isMelody_8 ?_
  refine g_run (vx_runS (As := [.int (z2 (u)), .int (z2 (0)), .int (z2 ((X 1 0) - 1))]) (rest := [.ref bm]) ⟨hx, hb, hml, hown, hts⟩ (m_in l D ks bx bm _ (u) (0) ((X 1 0) - 1) ⟨⟨by omega, by omega⟩, ⟨by omega, by omega⟩, by omega, by omega⟩) (cwS 3 hts gX5_isMelody_X5_in rfl rfl rfl (by decide +kernel) ⟨Nat.le_of_ble_eq_true rfl, Nat.le_of_ble_eq_true rfl⟩) (g_preS hG hS (rm_ge hbm)) rfl rfl hl.1 rfl (lv_room (Nat.le_of_ble_eq_true rfl)) dX5_isMelody_9 ⟨Nat.le_of_ble_eq_true rfl, Nat.le_of_ble_eq_true rfl⟩) hS (fun _ h => h) (fun _ _ _ _ _ h => h.elim) (fun v H1 locs hp hz9 hk9 hS => ?_)
  obtain ⟨rfl, hH9⟩ := hp
  obtain rfl := hH9.symm
  obtain ⟨iv_9, ev_9, ib_9⟩ : ∃ z : Int, z = (if 0 ≤ u ∧ u ≤ (X 1 0) - 1 then 1 else 0) ∧ (((0 ≤ u ∧ u ≤ (X 1 0) - 1) ∧ z = 1) ∨ (¬ (0 ≤ u ∧ u ≤ (X 1 0) - 1) ∧ z = 0)) := ⟨_, rfl, by split <;> omega⟩
  rw [← ev_9]
  refine W.eq (g2 := F0 m 12 ls [.int (z2 (iv_9)), .ref bm]) rfl ?_
  refine b_if_eq (tgt := 19) hx hb dX5_isMelody_12 (by decide) ⟨by omega, by omega⟩ (fun c_12 => ?_) (fun c_12 => ?_)
  · skip
    refine b_iconst hx hb dX5_isMelody_19 ?_
    refine g_put (C := RX5) (T := TX5) (N := 23) hx hb hts inX5 tyX5 tyX5_ok nmX5 hown hG hS hM.1 (Or.inl ⟨by omega, by omega⟩) rfl 22 (by decide) (by decide +kernel) rfl rfl (v := .int (z2 (1))) rfl rfl (Nat.le_of_ble_eq_true rfl) dX5_isMelody_20 (fun H locs he hz oq hS => ?_)
    have hM : PM D ks bm (up X 22 0 (1)) H := hM.own (k := 22) (by decide) he oq
    refine lv_aload_n hx hb dX5_isMelody_23 rfl (lv_at hl 0 rfl) ?_
    refine g_get (C := RX5) (T := TX5) (N := 23) hx hb hts inX5 hown hG hM.1 rfl 22 (by decide) (by decide +kernel) rfl (v := .int (z2 (1))) (congrArg (fun z => some (Value.int (z2 z))) (by simp [up] : (up X 22 0 (1)) 22 0 = 1)) dX5_isMelody_24 ?_
    refine b_if_ne (tgt := 34) hx hb dX5_isMelody_27 (by decide) ⟨by omega, by omega⟩ (fun _ => ?_) (fun c => absurd c (by omega))
    refine b_iconst hx hb dX5_isMelody_34 ?_
    exact g_zret hx hb hr hlocks hS (by decide +kernel) ⟨Nat.le_of_ble_eq_true rfl, Nat.le_of_ble_eq_true rfl⟩ (Or.inr ⟨by omega, rfl, hM⟩) dX5_isMelody_35
  · skip
    refine b_iconst hx hb dX5_isMelody_15 ?_
    refine lv_goto (tgt := 20) hx hb dX5_isMelody_16 (by decide) ?_
    refine g_put (C := RX5) (T := TX5) (N := 23) hx hb hts inX5 tyX5 tyX5_ok nmX5 hown hG hS hM.1 (Or.inl ⟨by omega, by omega⟩) rfl 22 (by decide) (by decide +kernel) rfl rfl (v := .int (z2 (0))) rfl rfl (Nat.le_of_ble_eq_true rfl) dX5_isMelody_20 (fun H locs he hz oq hS => ?_)
    have hM : PM D ks bm (up X 22 0 (0)) H := hM.own (k := 22) (by decide) he oq
    refine lv_aload_n hx hb dX5_isMelody_23 rfl (lv_at hl 0 rfl) ?_
    refine g_get (C := RX5) (T := TX5) (N := 23) hx hb hts inX5 hown hG hM.1 rfl 22 (by decide) (by decide +kernel) rfl (v := .int (z2 (0))) (congrArg (fun z => some (Value.int (z2 z))) (by simp [up] : (up X 22 0 (0)) 22 0 = 0)) dX5_isMelody_24 ?_
    refine b_if_ne (tgt := 34) hx hb dX5_isMelody_27 (by decide) ⟨by omega, by omega⟩ (fun c => absurd c (by omega)) (fun _ => ?_)
    refine b_iconst hx hb dX5_isMelody_30 ?_
    refine lv_goto (tgt := 35) hx hb dX5_isMelody_31 (by decide) ?_
    exact g_zret hx hb hr hlocks hS (by decide +kernel) ⟨Nat.le_of_ble_eq_true rfl, Nat.le_of_ble_eq_true rfl⟩ (Or.inl ⟨by omega, rfl, hM⟩) dX5_isMelody_35
set_option maxHeartbeats 4000000 in
set_option maxRecDepth 100000 in
theorem m_isSeen (l : Launch) (D : va_G) (ks : Nat → ClassId) (bx : Nat) (bm : Nat) (hbm : bx ≤ bm) (X : Nat → Nat → Int) (H : Heap) (hM : PM D ks bm X H) (hV : VS X) (u : Int) (hu : -2147483648 ≤ u ∧ u < 2147483648) : KM l yX5_isSeen wsX5_isSeen ({ frames := 2, cells := 0, slots := 0, locals := 42 } : Room) D ks bx [.ref bm, .int (z2 u)] H (RM bm) (fun v H1 => ((0 ≤ u ∧ u < 8) ∧ v = some (.int (z2 1)) ∧ PM D ks bm (up X 22 0 0) H1) ∨ (¬ (0 ≤ u ∧ u < 8) ∧ v = some (.int (z2 0)) ∧ PM D ks bm (up X 22 0 1) H1)) (fun _ _ => False) := by
  refine KM.of (cc := cX5_isSeen) (maxL := 2) (ret := (some .boolean)) (by decide) rfl (Nat.le_of_ble_eq_true rfl) ?_
  intro p e s m below meth c hx hb hml hr hlocks hown hname hts hext hH0 hG ls hl
  subst hH0
  have hown : s.vm.findClass RX5 = some m.cls := hown
  have hS : va_S (AR (RM bm) s.heap.size) s.heap s.heap [] := va_S.rf
  have hl : lv_has ls 2 [(0, .ref bm), (1, .int (z2 (u)))] := hl
  have inX5 : ∀ w ∈ wsX50, w ∈ wsX5_isSeen := by decide +kernel
  refine lv_aload_n hx hb dX5_isSeen_0 rfl (lv_at hl 0 rfl) ?_
  refine lv_iload_n hx hb dX5_isSeen_1 rfl (lv_at hl 1 rfl) ?_
  refine g_run (vx_runS (As := [.int (z2 (u))]) (rest := [.ref bm]) ⟨hx, hb, hml, hown, hts⟩ (m_isHouse l D ks bx bm hbm _ (u) ⟨by omega, by omega⟩) (cwS 1 hts gX5_isSeen_X5_isHouse rfl rfl rfl (by decide +kernel) ⟨Nat.le_of_ble_eq_true rfl, Nat.le_of_ble_eq_true rfl⟩) (g_preS hG hS (rm_ge hbm)) rfl rfl hl.1 rfl (lv_room (Nat.le_of_ble_eq_true rfl)) dX5_isSeen_2 ⟨Nat.le_of_ble_eq_true rfl, Nat.le_of_ble_eq_true rfl⟩) hS (fun _ h => h) (fun _ _ _ _ _ h => h.elim) (fun v H1 locs hp hz9 hk9 hS => ?_)
  obtain ⟨rfl, hH9⟩ := hp
  obtain rfl := hH9.symm
  obtain ⟨iv_2, ev_2, ib_2⟩ : ∃ z : Int, z = (if 0 ≤ u ∧ u ≤ 7 then 1 else 0) ∧ (((0 ≤ u ∧ u ≤ 7) ∧ z = 1) ∨ (¬ (0 ≤ u ∧ u ≤ 7) ∧ z = 0)) := ⟨_, rfl, by split <;> omega⟩
  rw [← ev_2]
  refine W.eq (g2 := F0 m 5 ls [.int (z2 (iv_2)), .ref bm]) rfl ?_
  refine b_if_eq (tgt := 12) hx hb dX5_isSeen_5 (by decide) ⟨by omega, by omega⟩ (fun c_5 => ?_) (fun c_5 => ?_)
  · skip
    refine b_iconst hx hb dX5_isSeen_12 ?_
    refine g_put (C := RX5) (T := TX5) (N := 23) hx hb hts inX5 tyX5 tyX5_ok nmX5 hown hG hS hM.1 (Or.inl ⟨by omega, by omega⟩) rfl 22 (by decide) (by decide +kernel) rfl rfl (v := .int (z2 (1))) rfl rfl (Nat.le_of_ble_eq_true rfl) dX5_isSeen_13 (fun H locs he hz oq hS => ?_)
    have hM : PM D ks bm (up X 22 0 (1)) H := hM.own (k := 22) (by decide) he oq
    refine lv_aload_n hx hb dX5_isSeen_16 rfl (lv_at hl 0 rfl) ?_
    refine g_get (C := RX5) (T := TX5) (N := 23) hx hb hts inX5 hown hG hM.1 rfl 22 (by decide) (by decide +kernel) rfl (v := .int (z2 (1))) (congrArg (fun z => some (Value.int (z2 z))) (by simp [up] : (up X 22 0 (1)) 22 0 = 1)) dX5_isSeen_17 ?_
    refine b_if_ne (tgt := 27) hx hb dX5_isSeen_20 (by decide) ⟨by omega, by omega⟩ (fun _ => ?_) (fun c => absurd c (by omega))
    refine b_iconst hx hb dX5_isSeen_27 ?_
    exact g_zret hx hb hr hlocks hS (by decide +kernel) ⟨Nat.le_of_ble_eq_true rfl, Nat.le_of_ble_eq_true rfl⟩ (Or.inr ⟨by omega, rfl, hM⟩) dX5_isSeen_28
  · skip
    refine b_iconst hx hb dX5_isSeen_8 ?_
    refine lv_goto (tgt := 13) hx hb dX5_isSeen_9 (by decide) ?_
    refine g_put (C := RX5) (T := TX5) (N := 23) hx hb hts inX5 tyX5 tyX5_ok nmX5 hown hG hS hM.1 (Or.inl ⟨by omega, by omega⟩) rfl 22 (by decide) (by decide +kernel) rfl rfl (v := .int (z2 (0))) rfl rfl (Nat.le_of_ble_eq_true rfl) dX5_isSeen_13 (fun H locs he hz oq hS => ?_)
    have hM : PM D ks bm (up X 22 0 (0)) H := hM.own (k := 22) (by decide) he oq
    refine lv_aload_n hx hb dX5_isSeen_16 rfl (lv_at hl 0 rfl) ?_
    refine g_get (C := RX5) (T := TX5) (N := 23) hx hb hts inX5 hown hG hM.1 rfl 22 (by decide) (by decide +kernel) rfl (v := .int (z2 (0))) (congrArg (fun z => some (Value.int (z2 z))) (by simp [up] : (up X 22 0 (0)) 22 0 = 0)) dX5_isSeen_17 ?_
    refine b_if_ne (tgt := 27) hx hb dX5_isSeen_20 (by decide) ⟨by omega, by omega⟩ (fun c => absurd c (by omega)) (fun _ => ?_)
    refine b_iconst hx hb dX5_isSeen_23 ?_
    refine lv_goto (tgt := 28) hx hb dX5_isSeen_24 (by decide) ?_
    exact g_zret hx hb hr hlocks hS (by decide +kernel) ⟨Nat.le_of_ble_eq_true rfl, Nat.le_of_ble_eq_true rfl⟩ (Or.inl ⟨by omega, rfl, hM⟩) dX5_isSeen_28
set_option maxHeartbeats 4000000 in
set_option maxRecDepth 100000 in
theorem m_tone (l : Launch) (D : va_G) (ks : Nat → ClassId) (bx : Nat) (bm : Nat) (hbm : bx ≤ bm) (X : Nat → Nat → Int) (H : Heap) (hM : PM D ks bm X H) (hV : VS X) {k q : Nat} (u v2 : Int) (hk : u = k ∧ k < 12) (hq : v2 = q ∧ q < 16) : KM l yX5_tone wsX5_tone ({ frames := 0, cells := 0, slots := 0, locals := 0 } : Room) D ks bx [.ref bm, .int (z2 u), .int (z2 v2)] H (RM bm) (fun v H1 => v = some (.int (z2 (toS (X 4 k) q))) ∧ H1 = H) (fun _ _ => False) := by
  refine KM.of (cc := cX5_tone) (maxL := 3) (ret := (some .int)) (by decide) rfl (Nat.le_of_ble_eq_true rfl) ?_
  intro p e s m below meth c hx hb hml hr hlocks hown hname hts hext hH0 hG ls hl
  subst hH0
  have hown : s.vm.findClass RX5 = some m.cls := hown
  have hS : va_S (AR (RM bm) s.heap.size) s.heap s.heap [] := va_S.rf
  have hl : lv_has ls 3 [(0, .ref bm), (1, .int (z2 (u))), (2, .int (z2 (v2)))] := hl
  have inX5 : ∀ w ∈ wsX50, w ∈ wsX5_tone := by decide +kernel
  have t48 : X 4 k < 281474976710656 := Int.lt_of_lt_of_le (hV.2.2 k).2 (p16 (by have b : 0 ≤ X 3 k ∧ X 3 k ≤ 12 := hV.1 3 _ (by decide) rfl; omega))
  have t0 : 0 ≤ X 4 k := (hV.2.2 k).1
  obtain ⟨rfl, hq⟩ := hq
  obtain ⟨rfl, hk⟩ := hk
  refine lv_aload_n hx hb dX5_tone_0 rfl (lv_at hl 0 rfl) ?_
  refine g_get (C := RX5) (T := TX5) (N := 23) hx hb hts inX5 hown hG hM.1 rfl 4 (by decide) (by decide +kernel) rfl (v := .ref (bm + 3)) rfl dX5_tone_1 ?_
  refine lv_iload_n hx hb dX5_tone_4 rfl (lv_at hl 1 rfl) ?_
  refine g_lald (n := 12) hx hb hG (f := fun i => l2 (X 4 i)) hM.2.2 k ⟨by omega, by omega, by decide⟩ dX5_tone_5 ?_
  refine W.eq (g2 := F0 m 6 ls (.long (l2 (X 4 k)) :: [])) rfl ?_
  refine b_iconst hx hb dX5_tone_6 ?_
  refine lv_iload_n hx hb dX5_tone_7 rfl (lv_at hl 2 rfl) ?_
  refine b_imul hx hb dX5_tone_8 ?_
  refine lv_lshr hx hb dX5_tone_9 rfl ?_
  refine b_topl (v := X 4 k / 16 ^ q) (l2_tone ⟨t0, by omega⟩ (by omega)) ?_
  refine lv_ldc2 (v := l2 15) hx hb hown (hts _ (by decide +kernel)) dX5_tone_10 ?_
  refine lv_land hx hb dX5_tone_13 ?_
  refine b_topl (v := X 4 k / 16 ^ q % 16) (l2_and15 _) ?_
  refine lv_l2i (v := z2 (X 4 k / 16 ^ q % 16)) hx hb dX5_tone_14 (l2_z2 _) ?_
  exact g_iret hx hb hr hlocks hS ⟨Nat.le_of_ble_eq_true rfl, Nat.le_of_ble_eq_true rfl⟩ (⟨rfl, rfl⟩) dX5_tone_15
set_option maxHeartbeats 4000000 in
set_option maxRecDepth 100000 in
theorem m_isQuiet (l : Launch) (D : va_G) (ks : Nat → ClassId) (bx : Nat) (bm : Nat) (hbm : bx ≤ bm) (X : Nat → Nat → Int) (H : Heap) (hM : PM D ks bm X H) (hV : VS X) {n : Nat} (u : Int) (hn : u = n ∧ n < 8) : KM l yX5_isQuiet wsX5_isQuiet ({ frames := 0, cells := 0, slots := 0, locals := 0 } : Room) D ks bx [.ref bm, .int (z2 u)] H (RM bm) (fun v H1 => v = some (.int (z2 (qM X n))) ∧ H1 = H) (fun _ _ => False) := by
  refine KM.of (cc := cX5_isQuiet) (maxL := 3) (ret := (some .boolean)) (by decide) rfl (Nat.le_of_ble_eq_true rfl) ?_
  intro p e s m below meth c hx hb hml hr hlocks hown hname hts hext hH0 hG ls hl
  subst hH0
  have hown : s.vm.findClass RX5 = some m.cls := hown
  have hS : va_S (AR (RM bm) s.heap.size) s.heap s.heap [] := va_S.rf
  have hl : lv_has ls 3 [(0, .ref bm), (1, .int (z2 (u)))] := hl
  have inX5 : ∀ w ∈ wsX50, w ∈ wsX5_isQuiet := by decide +kernel
  obtain ⟨rfl, hn⟩ := hn
  refine lv_aload_n hx hb dX5_isQuiet_0 rfl (lv_at hl 0 rfl) ?_
  have b_1 : 0 ≤ X 0 0 ∧ X 0 0 ≤ 1000000 := hV.1 0 _ (by decide) rfl
  refine g_get (C := RX5) (T := TX5) (N := 23) hx hb hts inX5 hown hG hM.1 rfl 0 (by decide) (by decide +kernel) rfl (v := .int (z2 (X 0 0))) rfl dX5_isQuiet_1 ?_
  refine b_sipush hx hb dX5_isQuiet_4 (by decide +kernel) ?_
  refine b_irem hx hb ⟨⟨by omega, by omega⟩, by decide, by decide⟩ dX5_isQuiet_7 ?_
  refine lv_istore_n (lv' := [(2, .int (z2 ((X 0 0) % 1000))), (0, .ref bm), (1, .int (z2 (((n : Nat) : Int))))]) hx hb dX5_isQuiet_8 rfl hl (by decide) rfl (fun ls hl => ?_)
  refine lv_aload_n hx hb dX5_isQuiet_9 rfl (lv_at hl 1 rfl) ?_
  refine g_get (C := RX5) (T := TX5) (N := 23) hx hb hts inX5 hown hG hM.1 rfl 9 (by decide) (by decide +kernel) rfl (v := .ref (bm + 8)) rfl dX5_isQuiet_10 ?_
  refine lv_iload_n hx hb dX5_isQuiet_13 rfl (lv_at hl 2 rfl) ?_
  have b_14 : 0 ≤ X 9 n ∧ X 9 n ≤ 999 := hV.1 9 _ (by decide) rfl
  refine g_iald (n := 8) hx hb hG (f := fun i => z2 (X 9 i)) (show ca D (bm + 8) (iA (ks 0) 8 (fun i => z2 (X 9 i))) _ from hM.2.1 9 (sr_of (by decide))) n ⟨by omega, by omega, by decide⟩ dX5_isQuiet_14 ?_
  refine W.eq (g2 := F0 m 15 ls (.int (z2 (X 9 n)) :: [])) rfl ?_
  refine lv_aload_n hx hb dX5_isQuiet_15 rfl (lv_at hl 1 rfl) ?_
  refine g_get (C := RX5) (T := TX5) (N := 23) hx hb hts inX5 hown hG hM.1 rfl 10 (by decide) (by decide +kernel) rfl (v := .ref (bm + 9)) rfl dX5_isQuiet_16 ?_
  refine lv_iload_n hx hb dX5_isQuiet_19 rfl (lv_at hl 2 rfl) ?_
  have b_20 : 0 ≤ X 10 n ∧ X 10 n ≤ 999 := hV.1 10 _ (by decide) rfl
  refine g_iald (n := 8) hx hb hG (f := fun i => z2 (X 10 i)) (show ca D (bm + 9) (iA (ks 0) 8 (fun i => z2 (X 10 i))) _ from hM.2.1 10 (sr_of (by decide))) n ⟨by omega, by omega, by decide⟩ dX5_isQuiet_20 ?_
  refine W.eq (g2 := F0 m 21 ls (.int (z2 (X 10 n)) :: [.int (z2 (X 9 n))])) rfl ?_
  refine b_icmp_gt (tgt := 50) hx hb dX5_isQuiet_21 (by decide) ⟨⟨by omega, by omega⟩, ⟨by omega, by omega⟩⟩ (fun c_21 => ?_) (fun c_21 => ?_)
  · skip
    refine lv_iload_n hx hb dX5_isQuiet_50 rfl (lv_at hl 0 rfl) ?_
    refine lv_aload_n hx hb dX5_isQuiet_51 rfl (lv_at hl 1 rfl) ?_
    refine g_get (C := RX5) (T := TX5) (N := 23) hx hb hts inX5 hown hG hM.1 rfl 9 (by decide) (by decide +kernel) rfl (v := .ref (bm + 8)) rfl dX5_isQuiet_52 ?_
    refine lv_iload_n hx hb dX5_isQuiet_55 rfl (lv_at hl 2 rfl) ?_
    have b_56 : 0 ≤ X 9 n ∧ X 9 n ≤ 999 := hV.1 9 _ (by decide) rfl
    refine g_iald (n := 8) hx hb hG (f := fun i => z2 (X 9 i)) (show ca D (bm + 8) (iA (ks 0) 8 (fun i => z2 (X 9 i))) _ from hM.2.1 9 (sr_of (by decide))) n ⟨by omega, by omega, by decide⟩ dX5_isQuiet_56 ?_
    refine W.eq (g2 := F0 m 57 ls (.int (z2 (X 9 n)) :: [.int (z2 ((X 0 0) % 1000))])) rfl ?_
    refine b_icmp_ge (tgt := 70) hx hb dX5_isQuiet_57 (by decide) ⟨⟨by omega, by omega⟩, ⟨by omega, by omega⟩⟩ (fun c_57 => ?_) (fun c_57 => ?_)
    · skip
      refine b_iconst hx hb dX5_isQuiet_70 ?_
      refine lv_goto (tgt := 75) hx hb dX5_isQuiet_71 (by decide) ?_
      exact g_zret hx hb hr hlocks hS (by decide +kernel) ⟨Nat.le_of_ble_eq_true rfl, Nat.le_of_ble_eq_true rfl⟩ (⟨congrArg (fun z => some (Value.int (z2 z))) (by unfold qM; (repeat' split) <;> omega), rfl⟩) dX5_isQuiet_75
    · skip
      refine lv_iload_n hx hb dX5_isQuiet_60 rfl (lv_at hl 0 rfl) ?_
      refine lv_aload_n hx hb dX5_isQuiet_61 rfl (lv_at hl 1 rfl) ?_
      refine g_get (C := RX5) (T := TX5) (N := 23) hx hb hts inX5 hown hG hM.1 rfl 10 (by decide) (by decide +kernel) rfl (v := .ref (bm + 9)) rfl dX5_isQuiet_62 ?_
      refine lv_iload_n hx hb dX5_isQuiet_65 rfl (lv_at hl 2 rfl) ?_
      have b_66 : 0 ≤ X 10 n ∧ X 10 n ≤ 999 := hV.1 10 _ (by decide) rfl
      refine g_iald (n := 8) hx hb hG (f := fun i => z2 (X 10 i)) (show ca D (bm + 9) (iA (ks 0) 8 (fun i => z2 (X 10 i))) _ from hM.2.1 10 (sr_of (by decide))) n ⟨by omega, by omega, by decide⟩ dX5_isQuiet_66 ?_
      refine W.eq (g2 := F0 m 67 ls (.int (z2 (X 10 n)) :: [.int (z2 ((X 0 0) % 1000))])) rfl ?_
      refine b_icmp_ge (tgt := 74) hx hb dX5_isQuiet_67 (by decide) ⟨⟨by omega, by omega⟩, ⟨by omega, by omega⟩⟩ (fun c_67 => ?_) (fun c_67 => ?_)
      · skip
        refine b_iconst hx hb dX5_isQuiet_74 ?_
        exact g_zret hx hb hr hlocks hS (by decide +kernel) ⟨Nat.le_of_ble_eq_true rfl, Nat.le_of_ble_eq_true rfl⟩ (⟨congrArg (fun z => some (Value.int (z2 z))) (by unfold qM; (repeat' split) <;> omega), rfl⟩) dX5_isQuiet_75
      · skip
        refine b_iconst hx hb dX5_isQuiet_70 ?_
        refine lv_goto (tgt := 75) hx hb dX5_isQuiet_71 (by decide) ?_
        exact g_zret hx hb hr hlocks hS (by decide +kernel) ⟨Nat.le_of_ble_eq_true rfl, Nat.le_of_ble_eq_true rfl⟩ (⟨congrArg (fun z => some (Value.int (z2 z))) (by unfold qM; (repeat' split) <;> omega), rfl⟩) dX5_isQuiet_75
  · skip
    refine lv_iload_n hx hb dX5_isQuiet_24 rfl (lv_at hl 0 rfl) ?_
    refine lv_aload_n hx hb dX5_isQuiet_25 rfl (lv_at hl 1 rfl) ?_
    refine g_get (C := RX5) (T := TX5) (N := 23) hx hb hts inX5 hown hG hM.1 rfl 9 (by decide) (by decide +kernel) rfl (v := .ref (bm + 8)) rfl dX5_isQuiet_26 ?_
    refine lv_iload_n hx hb dX5_isQuiet_29 rfl (lv_at hl 2 rfl) ?_
    have b_30 : 0 ≤ X 9 n ∧ X 9 n ≤ 999 := hV.1 9 _ (by decide) rfl
    refine g_iald (n := 8) hx hb hG (f := fun i => z2 (X 9 i)) (show ca D (bm + 8) (iA (ks 0) 8 (fun i => z2 (X 9 i))) _ from hM.2.1 9 (sr_of (by decide))) n ⟨by omega, by omega, by decide⟩ dX5_isQuiet_30 ?_
    refine W.eq (g2 := F0 m 31 ls (.int (z2 (X 9 n)) :: [.int (z2 ((X 0 0) % 1000))])) rfl ?_
    refine b_icmp_lt (tgt := 48) hx hb dX5_isQuiet_31 (by decide) ⟨⟨by omega, by omega⟩, ⟨by omega, by omega⟩⟩ (fun c_31 => ?_) (fun c_31 => ?_)
    · skip
      refine b_iconst hx hb dX5_isQuiet_48 ?_
      exact g_zret hx hb hr hlocks hS (by decide +kernel) ⟨Nat.le_of_ble_eq_true rfl, Nat.le_of_ble_eq_true rfl⟩ (⟨congrArg (fun z => some (Value.int (z2 z))) (by unfold qM; (repeat' split) <;> omega), rfl⟩) dX5_isQuiet_49
    · skip
      refine lv_iload_n hx hb dX5_isQuiet_34 rfl (lv_at hl 0 rfl) ?_
      refine lv_aload_n hx hb dX5_isQuiet_35 rfl (lv_at hl 1 rfl) ?_
      refine g_get (C := RX5) (T := TX5) (N := 23) hx hb hts inX5 hown hG hM.1 rfl 10 (by decide) (by decide +kernel) rfl (v := .ref (bm + 9)) rfl dX5_isQuiet_36 ?_
      refine lv_iload_n hx hb dX5_isQuiet_39 rfl (lv_at hl 2 rfl) ?_
      have b_40 : 0 ≤ X 10 n ∧ X 10 n ≤ 999 := hV.1 10 _ (by decide) rfl
      refine g_iald (n := 8) hx hb hG (f := fun i => z2 (X 10 i)) (show ca D (bm + 9) (iA (ks 0) 8 (fun i => z2 (X 10 i))) _ from hM.2.1 10 (sr_of (by decide))) n ⟨by omega, by omega, by decide⟩ dX5_isQuiet_40 ?_
      refine W.eq (g2 := F0 m 41 ls (.int (z2 (X 10 n)) :: [.int (z2 ((X 0 0) % 1000))])) rfl ?_
      refine b_icmp_ge (tgt := 48) hx hb dX5_isQuiet_41 (by decide) ⟨⟨by omega, by omega⟩, ⟨by omega, by omega⟩⟩ (fun c_41 => ?_) (fun c_41 => ?_)
      · skip
        refine b_iconst hx hb dX5_isQuiet_48 ?_
        exact g_zret hx hb hr hlocks hS (by decide +kernel) ⟨Nat.le_of_ble_eq_true rfl, Nat.le_of_ble_eq_true rfl⟩ (⟨congrArg (fun z => some (Value.int (z2 z))) (by unfold qM; (repeat' split) <;> omega), rfl⟩) dX5_isQuiet_49
      · skip
        refine b_iconst hx hb dX5_isQuiet_44 ?_
        refine lv_goto (tgt := 49) hx hb dX5_isQuiet_45 (by decide) ?_
        exact g_zret hx hb hr hlocks hS (by decide +kernel) ⟨Nat.le_of_ble_eq_true rfl, Nat.le_of_ble_eq_true rfl⟩ (⟨congrArg (fun z => some (Value.int (z2 z))) (by unfold qM; (repeat' split) <;> omega), rfl⟩) dX5_isQuiet_49
set_option maxHeartbeats 4000000 in
set_option maxRecDepth 100000 in
theorem m_breaks (l : Launch) (D : va_G) (ks : Nat → ClassId) (bx : Nat) (bm : Nat) (hbm : bx ≤ bm) (X : Nat → Nat → Int) (H : Heap) (hM : PM D ks bm X H) (hV : VS X) {n : Nat} (u : Int) (hn : u = n ∧ n < 8) : KM l yX5_breaks wsX5_breaks ({ frames := 0, cells := 0, slots := 0, locals := 0 } : Room) D ks bx [.ref bm, .int (z2 u)] H (RM bm) (fun v H1 => v = none ∧ PM D ks bm (brM X n) H1) (fun _ _ => False) := by
  refine KM.of (cc := cX5_breaks) (maxL := 3) (ret := none) (by decide) rfl (Nat.le_of_ble_eq_true rfl) ?_
  intro p e s m below meth c hx hb hml hr hlocks hown hname hts hext hH0 hG ls hl
  subst hH0
  have hown : s.vm.findClass RX5 = some m.cls := hown
  have hS : va_S (AR (RM bm) s.heap.size) s.heap s.heap [] := va_S.rf
  have hl : lv_has ls 3 [(0, .ref bm), (1, .int (z2 (u)))] := hl
  have inX5 : ∀ w ∈ wsX50, w ∈ wsX5_breaks := by decide +kernel
  obtain ⟨rfl, hn⟩ := hn
  refine lv_aload_n hx hb dX5_breaks_0 rfl (lv_at hl 0 rfl) ?_
  refine g_get (C := RX5) (T := TX5) (N := 23) hx hb hts inX5 hown hG hM.1 rfl 11 (by decide) (by decide +kernel) rfl (v := .ref (bm + 10)) rfl dX5_breaks_1 ?_
  refine lv_iload_n hx hb dX5_breaks_4 rfl (lv_at hl 1 rfl) ?_
  refine b_iconst hx hb dX5_breaks_5 ?_
  refine g_iast (n := 8) hx hb hG hS (f := fun i => z2 (X 11 i)) (show ca D (bm + 10) (iA (ks 0) 8 (fun i => z2 (X 11 i))) _ from hM.2.1 11 (sr_of (by decide))) (Or.inl ⟨by omega, by omega⟩) n ⟨by omega, by omega, by decide⟩ dX5_breaks_6 (fun H locs he hz oq hS => ?_)
  have hM : PM D ks bm (up X 11 n (1)) H := hM.row (f := 11) (sr_of (by decide)) he oq
  refine b_iconst hx hb dX5_breaks_7 ?_
  refine lv_istore_n (lv' := [(2, .int (z2 (0))), (0, .ref bm), (1, .int (z2 (((n : Nat) : Int))))]) hx hb dX5_breaks_8 rfl hl (by decide) rfl (fun ls hl => ?_)
  refine lv_iload_n hx hb dX5_breaks_9 rfl (lv_at hl 0 rfl) ?_
  refine b_iconst hx hb dX5_breaks_10 ?_
  refine b_icmp_ge (tgt := 31) hx hb dX5_breaks_11 (by decide) ⟨⟨by omega, by omega⟩, ⟨by omega, by omega⟩⟩ (fun c => absurd c (by omega)) (fun _ => ?_)
  refine lv_aload_n hx hb dX5_breaks_14 rfl (lv_at hl 1 rfl) ?_
  refine g_get (C := RX5) (T := TX5) (N := 23) hx hb hts inX5 hown hG hM.1 rfl 7 (by decide) (by decide +kernel) rfl (v := .ref (bm + 6)) rfl dX5_breaks_15 ?_
  refine b_iconst hx hb dX5_breaks_18 ?_
  refine lv_iload_n hx hb dX5_breaks_19 rfl (lv_at hl 2 rfl) ?_
  refine b_imul hx hb dX5_breaks_20 ?_
  refine lv_iload_n hx hb dX5_breaks_21 rfl (lv_at hl 0 rfl) ?_
  refine b_iadd hx hb dX5_breaks_22 ?_
  refine b_iconst hx hb dX5_breaks_23 ?_
  refine g_iast (n := 24) hx hb hG hS (f := fun i => z2 ((up X 11 n (1)) 7 i)) (show ca D (bm + 6) (iA (ks 0) 24 (fun i => z2 ((up X 11 n (1)) 7 i))) _ from hM.2.1 7 (sr_of (by decide))) (Or.inl ⟨by omega, by omega⟩) (3 * n + 0) ⟨by omega, by omega, by decide⟩ dX5_breaks_24 (fun H locs he hz oq hS => ?_)
  have hM : PM D ks bm (up (up X 11 n (1)) 7 (3 * n + 0) (0)) H := hM.row (f := 7) (sr_of (by decide)) he oq
  refine b_iinc (lv' := [(2, .int (z2 (1))), (0, .ref bm), (1, .int (z2 (((n : Nat) : Int))))]) hx hb dX5_breaks_25 hl (k := 0) rfl (by decide) rfl (fun ls hl => ?_)
  refine lv_goto (tgt := 9) hx hb dX5_breaks_28 (by decide) ?_
  refine lv_iload_n hx hb dX5_breaks_9 rfl (lv_at hl 0 rfl) ?_
  refine b_iconst hx hb dX5_breaks_10 ?_
  refine b_icmp_ge (tgt := 31) hx hb dX5_breaks_11 (by decide) ⟨⟨by omega, by omega⟩, ⟨by omega, by omega⟩⟩ (fun c => absurd c (by omega)) (fun _ => ?_)
  refine lv_aload_n hx hb dX5_breaks_14 rfl (lv_at hl 1 rfl) ?_
  refine g_get (C := RX5) (T := TX5) (N := 23) hx hb hts inX5 hown hG hM.1 rfl 7 (by decide) (by decide +kernel) rfl (v := .ref (bm + 6)) rfl dX5_breaks_15 ?_
  refine b_iconst hx hb dX5_breaks_18 ?_
  refine lv_iload_n hx hb dX5_breaks_19 rfl (lv_at hl 2 rfl) ?_
  refine b_imul hx hb dX5_breaks_20 ?_
  refine lv_iload_n hx hb dX5_breaks_21 rfl (lv_at hl 0 rfl) ?_
  refine b_iadd hx hb dX5_breaks_22 ?_
  refine b_iconst hx hb dX5_breaks_23 ?_
  refine g_iast (n := 24) hx hb hG hS (f := fun i => z2 ((up (up X 11 n (1)) 7 (3 * n + 0) (0)) 7 i)) (show ca D (bm + 6) (iA (ks 0) 24 (fun i => z2 ((up (up X 11 n (1)) 7 (3 * n + 0) (0)) 7 i))) _ from hM.2.1 7 (sr_of (by decide))) (Or.inl ⟨by omega, by omega⟩) (3 * n + 1) ⟨by omega, by omega, by decide⟩ dX5_breaks_24 (fun H locs he hz oq hS => ?_)
  have hM : PM D ks bm (up (up (up X 11 n (1)) 7 (3 * n + 0) (0)) 7 (3 * n + 1) (0)) H := hM.row (f := 7) (sr_of (by decide)) he oq
  refine b_iinc (lv' := [(2, .int (z2 (2))), (0, .ref bm), (1, .int (z2 (((n : Nat) : Int))))]) hx hb dX5_breaks_25 hl (k := 0) rfl (by decide) rfl (fun ls hl => ?_)
  refine lv_goto (tgt := 9) hx hb dX5_breaks_28 (by decide) ?_
  refine lv_iload_n hx hb dX5_breaks_9 rfl (lv_at hl 0 rfl) ?_
  refine b_iconst hx hb dX5_breaks_10 ?_
  refine b_icmp_ge (tgt := 31) hx hb dX5_breaks_11 (by decide) ⟨⟨by omega, by omega⟩, ⟨by omega, by omega⟩⟩ (fun c => absurd c (by omega)) (fun _ => ?_)
  refine lv_aload_n hx hb dX5_breaks_14 rfl (lv_at hl 1 rfl) ?_
  refine g_get (C := RX5) (T := TX5) (N := 23) hx hb hts inX5 hown hG hM.1 rfl 7 (by decide) (by decide +kernel) rfl (v := .ref (bm + 6)) rfl dX5_breaks_15 ?_
  refine b_iconst hx hb dX5_breaks_18 ?_
  refine lv_iload_n hx hb dX5_breaks_19 rfl (lv_at hl 2 rfl) ?_
  refine b_imul hx hb dX5_breaks_20 ?_
  refine lv_iload_n hx hb dX5_breaks_21 rfl (lv_at hl 0 rfl) ?_
  refine b_iadd hx hb dX5_breaks_22 ?_
  refine b_iconst hx hb dX5_breaks_23 ?_
  refine g_iast (n := 24) hx hb hG hS (f := fun i => z2 ((up (up (up X 11 n (1)) 7 (3 * n + 0) (0)) 7 (3 * n + 1) (0)) 7 i)) (show ca D (bm + 6) (iA (ks 0) 24 (fun i => z2 ((up (up (up X 11 n (1)) 7 (3 * n + 0) (0)) 7 (3 * n + 1) (0)) 7 i))) _ from hM.2.1 7 (sr_of (by decide))) (Or.inl ⟨by omega, by omega⟩) (3 * n + 2) ⟨by omega, by omega, by decide⟩ dX5_breaks_24 (fun H locs he hz oq hS => ?_)
  have hM : PM D ks bm (up (up (up (up X 11 n (1)) 7 (3 * n + 0) (0)) 7 (3 * n + 1) (0)) 7 (3 * n + 2) (0)) H := hM.row (f := 7) (sr_of (by decide)) he oq
  refine b_iinc (lv' := [(2, .int (z2 (3))), (0, .ref bm), (1, .int (z2 (((n : Nat) : Int))))]) hx hb dX5_breaks_25 hl (k := 0) rfl (by decide) rfl (fun ls hl => ?_)
  refine lv_goto (tgt := 9) hx hb dX5_breaks_28 (by decide) ?_
  refine lv_iload_n hx hb dX5_breaks_9 rfl (lv_at hl 0 rfl) ?_
  refine b_iconst hx hb dX5_breaks_10 ?_
  refine b_icmp_ge (tgt := 31) hx hb dX5_breaks_11 (by decide) ⟨⟨by omega, by omega⟩, ⟨by omega, by omega⟩⟩ (fun _ => ?_) (fun c => absurd c (by omega))
  exact g_vret hx hb hr hlocks hS ⟨Nat.le_of_ble_eq_true rfl, Nat.le_of_ble_eq_true rfl⟩ (⟨rfl, hM⟩) dX5_breaks_31
set_option maxHeartbeats 4000000 in
set_option maxRecDepth 100000 in
theorem m_begins (l : Launch) (D : va_G) (ks : Nat → ClassId) (bx : Nat) (bm : Nat) (hbm : bx ≤ bm) (X : Nat → Nat → Int) (H : Heap) (hM : PM D ks bm X H) (hV : VS X) {i : Nat} (u : Int) (hi : u = i ∧ i < 24) (h5 : 0 < X 5 i) : KM l yX5_begins wsX5_begins ({ frames := 0, cells := 0, slots := 0, locals := 0 } : Room) D ks bx [.ref bm, .int (z2 u)] H (RM bm) (fun v H1 => v = none ∧ PM D ks bm (beS X i) H1) (fun _ _ => False) := by
  refine KM.of (cc := cX5_begins) (maxL := 2) (ret := none) (by decide) rfl (Nat.le_of_ble_eq_true rfl) ?_
  intro p e s m below meth c hx hb hml hr hlocks hown hname hts hext hH0 hG ls hl
  subst hH0
  have hown : s.vm.findClass RX5 = some m.cls := hown
  have hS : va_S (AR (RM bm) s.heap.size) s.heap s.heap [] := va_S.rf
  have hl : lv_has ls 2 [(0, .ref bm), (1, .int (z2 (u)))] := hl
  have inX5 : ∀ w ∈ wsX50, w ∈ wsX5_begins := by decide +kernel
  obtain ⟨rfl, hi⟩ := hi
  refine lv_aload_n hx hb dX5_begins_0 rfl (lv_at hl 0 rfl) ?_
  refine g_get (C := RX5) (T := TX5) (N := 23) hx hb hts inX5 hown hG hM.1 rfl 7 (by decide) (by decide +kernel) rfl (v := .ref (bm + 6)) rfl dX5_begins_1 ?_
  refine lv_iload_n hx hb dX5_begins_4 rfl (lv_at hl 1 rfl) ?_
  refine lv_aload_n hx hb dX5_begins_5 rfl (lv_at hl 0 rfl) ?_
  have b_6 : 0 ≤ X 0 0 ∧ X 0 0 ≤ 1000000 := hV.1 0 _ (by decide) rfl
  refine g_get (C := RX5) (T := TX5) (N := 23) hx hb hts inX5 hown hG hM.1 rfl 0 (by decide) (by decide +kernel) rfl (v := .int (z2 (X 0 0))) rfl dX5_begins_6 ?_
  refine b_iconst hx hb dX5_begins_9 ?_
  refine lv_aload_n hx hb dX5_begins_10 rfl (lv_at hl 0 rfl) ?_
  refine g_get (C := RX5) (T := TX5) (N := 23) hx hb hts inX5 hown hG hM.1 rfl 3 (by decide) (by decide +kernel) rfl (v := .ref (bm + 2)) rfl dX5_begins_11 ?_
  refine lv_aload_n hx hb dX5_begins_14 rfl (lv_at hl 0 rfl) ?_
  refine g_get (C := RX5) (T := TX5) (N := 23) hx hb hts inX5 hown hG hM.1 rfl 5 (by decide) (by decide +kernel) rfl (v := .ref (bm + 4)) rfl dX5_begins_15 ?_
  refine lv_iload_n hx hb dX5_begins_18 rfl (lv_at hl 1 rfl) ?_
  have b_19 : 0 ≤ X 5 i ∧ X 5 i ≤ 12 := hV.1 5 _ (by decide) rfl
  refine g_iald (n := 24) hx hb hG (f := fun i => z2 (X 5 i)) (show ca D (bm + 4) (iA (ks 0) 24 (fun i => z2 (X 5 i))) _ from hM.2.1 5 (sr_of (by decide))) i ⟨by omega, by omega, by decide⟩ dX5_begins_19 ?_
  refine W.eq (g2 := F0 m 20 ls (.int (z2 (X 5 i)) :: [.ref (bm + 2), .int (z2 (2)), .int (z2 (X 0 0)), .int (z2 (((i : Nat) : Int))), .ref (bm + 6)])) rfl ?_
  refine b_iconst hx hb dX5_begins_20 ?_
  refine b_isub hx hb dX5_begins_21 ?_
  have b_22 : 0 ≤ X 3 (((X 5 i) - 1).toNat) ∧ X 3 (((X 5 i) - 1).toNat) ≤ 12 := hV.1 3 _ (by decide) rfl
  refine g_iald (n := 12) hx hb hG (f := fun i => z2 (X 3 i)) (show ca D (bm + 2) (iA (ks 0) 12 (fun i => z2 (X 3 i))) _ from hM.2.1 3 (sr_of (by decide))) (((X 5 i) - 1).toNat) ⟨by omega, by omega, by decide⟩ dX5_begins_22 ?_
  refine W.eq (g2 := F0 m 23 ls (.int (z2 (X 3 (((X 5 i) - 1).toNat))) :: [.int (z2 (2)), .int (z2 (X 0 0)), .int (z2 (((i : Nat) : Int))), .ref (bm + 6)])) rfl ?_
  refine b_imul hx hb dX5_begins_23 ?_
  refine b_iadd hx hb dX5_begins_24 ?_
  refine g_iast (n := 24) hx hb hG hS (f := fun i => z2 (X 7 i)) (show ca D (bm + 6) (iA (ks 0) 24 (fun i => z2 (X 7 i))) _ from hM.2.1 7 (sr_of (by decide))) (Or.inl ⟨by omega, by omega⟩) i ⟨by omega, by omega, by decide⟩ dX5_begins_25 (fun H locs he hz oq hS => ?_)
  have hM : PM D ks bm (up X 7 i ((X 0 0) + (2 * (X 3 (((X 5 i) - 1).toNat))))) H := hM.row (f := 7) (sr_of (by decide)) he oq
  exact g_vret hx hb hr hlocks hS ⟨Nat.le_of_ble_eq_true rfl, Nat.le_of_ble_eq_true rfl⟩ (⟨rfl, hM⟩) dX5_begins_26
set_option maxHeartbeats 4000000 in
set_option maxRecDepth 100000 in
theorem m_rings (l : Launch) (D : va_G) (ks : Nat → ClassId) (bx : Nat) (bm : Nat) (hbm : bx ≤ bm) (X : Nat → Nat → Int) (H : Heap) (hM : PM D ks bm X H) (hV : VS X) {n : Nat} (u : Int) (hn : u = n ∧ n < 8) : KM l yX5_rings wsX5_rings ({ frames := 1, cells := 0, slots := 0, locals := 22 } : Room) D ks bx [.ref bm, .int (z2 u)] H (RM bm) (fun v H1 => v = none ∧ PM D ks bm (rgS X n) H1) (fun _ _ => False) := by
  refine KM.of (cc := cX5_rings) (maxL := 4) (ret := none) (by decide) rfl (Nat.le_of_ble_eq_true rfl) ?_
  intro p e s m below meth c hx hb hml hr hlocks hown hname hts hext hH0 hG ls hl
  subst hH0
  have hown : s.vm.findClass RX5 = some m.cls := hown
  have hS : va_S (AR (RM bm) s.heap.size) s.heap s.heap [] := va_S.rf
  have hl : lv_has ls 4 [(0, .ref bm), (1, .int (z2 (u)))] := hl
  have inX5 : ∀ w ∈ wsX50, w ∈ wsX5_rings := by decide +kernel
  obtain ⟨rfl, hn⟩ := hn
  refine b_iconst hx hb dX5_rings_0 ?_
  refine lv_istore_n (lv' := [(2, .int (z2 (0))), (0, .ref bm), (1, .int (z2 (((n : Nat) : Int))))]) hx hb dX5_rings_1 rfl hl (by decide) rfl (fun ls hl => ?_)
  refine b_iconst hx hb dX5_rings_2 ?_
  refine lv_istore_n (lv' := [(3, .int (z2 (0))), (2, .int (z2 (0))), (0, .ref bm), (1, .int (z2 (((n : Nat) : Int))))]) hx hb dX5_rings_3 rfl hl (by decide) rfl (fun ls hl => ?_)
  refine lv_iload_n hx hb dX5_rings_4 rfl (lv_at hl 0 rfl) ?_
  refine b_iconst hx hb dX5_rings_5 ?_
  refine b_icmp_ge (tgt := 38) hx hb dX5_rings_6 (by decide) ⟨⟨by omega, by omega⟩, ⟨by omega, by omega⟩⟩ (fun c => absurd c (by omega)) (fun _ => ?_)
  refine lv_iload_n hx hb dX5_rings_9 rfl (lv_at hl 1 rfl) ?_
  refine b_if_ne (tgt := 26) hx hb dX5_rings_10 (by decide) ⟨by omega, by omega⟩ (fun c => absurd c (by omega)) (fun _ => ?_)
  refine lv_aload_n hx hb dX5_rings_13 rfl (lv_at hl 2 rfl) ?_
  refine g_get (C := RX5) (T := TX5) (N := 23) hx hb hts inX5 hown hG hM.1 rfl 7 (by decide) (by decide +kernel) rfl (v := .ref (bm + 6)) rfl dX5_rings_14 ?_
  refine b_iconst hx hb dX5_rings_17 ?_
  refine lv_iload_n hx hb dX5_rings_18 rfl (lv_at hl 3 rfl) ?_
  refine b_imul hx hb dX5_rings_19 ?_
  refine lv_iload_n hx hb dX5_rings_20 rfl (lv_at hl 0 rfl) ?_
  refine b_iadd hx hb dX5_rings_21 ?_
  have b_22 : 0 ≤ X 7 (3 * n + 0) ∧ X 7 (3 * n + 0) ≤ 1000024 := hV.1 7 _ (by decide) rfl
  refine g_iald (n := 24) hx hb hG (f := fun i => z2 (X 7 i)) (show ca D (bm + 6) (iA (ks 0) 24 (fun i => z2 (X 7 i))) _ from hM.2.1 7 (sr_of (by decide))) (3 * n + 0) ⟨by omega, by omega, by decide⟩ dX5_rings_22 ?_
  refine W.eq (g2 := F0 m 23 ls (.int (z2 (X 7 (3 * n + 0))) :: [])) rfl ?_
  refine b_if_le (tgt := 30) hx hb dX5_rings_23 (by decide) ⟨by omega, by omega⟩ (fun c_23 => ?_) (fun c_23 => ?_)
  · skip
    refine b_iconst hx hb dX5_rings_30 ?_
    refine lv_istore_n (lv' := [(2, .int (z2 (0))), (3, .int (z2 (0))), (0, .ref bm), (1, .int (z2 (((n : Nat) : Int))))]) hx hb dX5_rings_31 rfl hl (by decide) rfl (fun ls hl => ?_)
    refine b_iinc (lv' := [(3, .int (z2 (1))), (2, .int (z2 (0))), (0, .ref bm), (1, .int (z2 (((n : Nat) : Int))))]) hx hb dX5_rings_32 hl (k := 1) rfl (by decide) rfl (fun ls hl => ?_)
    refine lv_goto (tgt := 4) hx hb dX5_rings_35 (by decide) ?_
    refine lv_iload_n hx hb dX5_rings_4 rfl (lv_at hl 0 rfl) ?_
    refine b_iconst hx hb dX5_rings_5 ?_
    refine b_icmp_ge (tgt := 38) hx hb dX5_rings_6 (by decide) ⟨⟨by omega, by omega⟩, ⟨by omega, by omega⟩⟩ (fun c => absurd c (by omega)) (fun _ => ?_)
    refine lv_iload_n hx hb dX5_rings_9 rfl (lv_at hl 1 rfl) ?_
    refine b_if_ne (tgt := 26) hx hb dX5_rings_10 (by decide) ⟨by omega, by omega⟩ (fun c => absurd c (by omega)) (fun _ => ?_)
    refine lv_aload_n hx hb dX5_rings_13 rfl (lv_at hl 2 rfl) ?_
    refine g_get (C := RX5) (T := TX5) (N := 23) hx hb hts inX5 hown hG hM.1 rfl 7 (by decide) (by decide +kernel) rfl (v := .ref (bm + 6)) rfl dX5_rings_14 ?_
    refine b_iconst hx hb dX5_rings_17 ?_
    refine lv_iload_n hx hb dX5_rings_18 rfl (lv_at hl 3 rfl) ?_
    refine b_imul hx hb dX5_rings_19 ?_
    refine lv_iload_n hx hb dX5_rings_20 rfl (lv_at hl 0 rfl) ?_
    refine b_iadd hx hb dX5_rings_21 ?_
    have b_22 : 0 ≤ X 7 (3 * n + 1) ∧ X 7 (3 * n + 1) ≤ 1000024 := hV.1 7 _ (by decide) rfl
    refine g_iald (n := 24) hx hb hG (f := fun i => z2 (X 7 i)) (show ca D (bm + 6) (iA (ks 0) 24 (fun i => z2 (X 7 i))) _ from hM.2.1 7 (sr_of (by decide))) (3 * n + 1) ⟨by omega, by omega, by decide⟩ dX5_rings_22 ?_
    refine W.eq (g2 := F0 m 23 ls (.int (z2 (X 7 (3 * n + 1))) :: [])) rfl ?_
    refine b_if_le (tgt := 30) hx hb dX5_rings_23 (by decide) ⟨by omega, by omega⟩ (fun c_23 => ?_) (fun c_23 => ?_)
    · skip
      refine b_iconst hx hb dX5_rings_30 ?_
      refine lv_istore_n (lv' := [(2, .int (z2 (0))), (3, .int (z2 (1))), (0, .ref bm), (1, .int (z2 (((n : Nat) : Int))))]) hx hb dX5_rings_31 rfl hl (by decide) rfl (fun ls hl => ?_)
      refine b_iinc (lv' := [(3, .int (z2 (2))), (2, .int (z2 (0))), (0, .ref bm), (1, .int (z2 (((n : Nat) : Int))))]) hx hb dX5_rings_32 hl (k := 1) rfl (by decide) rfl (fun ls hl => ?_)
      refine lv_goto (tgt := 4) hx hb dX5_rings_35 (by decide) ?_
      refine lv_iload_n hx hb dX5_rings_4 rfl (lv_at hl 0 rfl) ?_
      refine b_iconst hx hb dX5_rings_5 ?_
      refine b_icmp_ge (tgt := 38) hx hb dX5_rings_6 (by decide) ⟨⟨by omega, by omega⟩, ⟨by omega, by omega⟩⟩ (fun c => absurd c (by omega)) (fun _ => ?_)
      refine lv_iload_n hx hb dX5_rings_9 rfl (lv_at hl 1 rfl) ?_
      refine b_if_ne (tgt := 26) hx hb dX5_rings_10 (by decide) ⟨by omega, by omega⟩ (fun c => absurd c (by omega)) (fun _ => ?_)
      refine lv_aload_n hx hb dX5_rings_13 rfl (lv_at hl 2 rfl) ?_
      refine g_get (C := RX5) (T := TX5) (N := 23) hx hb hts inX5 hown hG hM.1 rfl 7 (by decide) (by decide +kernel) rfl (v := .ref (bm + 6)) rfl dX5_rings_14 ?_
      refine b_iconst hx hb dX5_rings_17 ?_
      refine lv_iload_n hx hb dX5_rings_18 rfl (lv_at hl 3 rfl) ?_
      refine b_imul hx hb dX5_rings_19 ?_
      refine lv_iload_n hx hb dX5_rings_20 rfl (lv_at hl 0 rfl) ?_
      refine b_iadd hx hb dX5_rings_21 ?_
      have b_22 : 0 ≤ X 7 (3 * n + 2) ∧ X 7 (3 * n + 2) ≤ 1000024 := hV.1 7 _ (by decide) rfl
      refine g_iald (n := 24) hx hb hG (f := fun i => z2 (X 7 i)) (show ca D (bm + 6) (iA (ks 0) 24 (fun i => z2 (X 7 i))) _ from hM.2.1 7 (sr_of (by decide))) (3 * n + 2) ⟨by omega, by omega, by decide⟩ dX5_rings_22 ?_
      refine W.eq (g2 := F0 m 23 ls (.int (z2 (X 7 (3 * n + 2))) :: [])) rfl ?_
      refine b_if_le (tgt := 30) hx hb dX5_rings_23 (by decide) ⟨by omega, by omega⟩ (fun c_23 => ?_) (fun c_23 => ?_)
      · skip
        refine b_iconst hx hb dX5_rings_30 ?_
        refine lv_istore_n (lv' := [(2, .int (z2 (0))), (3, .int (z2 (2))), (0, .ref bm), (1, .int (z2 (((n : Nat) : Int))))]) hx hb dX5_rings_31 rfl hl (by decide) rfl (fun ls hl => ?_)
        refine b_iinc (lv' := [(3, .int (z2 (3))), (2, .int (z2 (0))), (0, .ref bm), (1, .int (z2 (((n : Nat) : Int))))]) hx hb dX5_rings_32 hl (k := 1) rfl (by decide) rfl (fun ls hl => ?_)
        refine lv_goto (tgt := 4) hx hb dX5_rings_35 (by decide) ?_
        refine lv_iload_n hx hb dX5_rings_4 rfl (lv_at hl 0 rfl) ?_
        refine b_iconst hx hb dX5_rings_5 ?_
        refine b_icmp_ge (tgt := 38) hx hb dX5_rings_6 (by decide) ⟨⟨by omega, by omega⟩, ⟨by omega, by omega⟩⟩ (fun _ => ?_) (fun c => absurd c (by omega))
        refine lv_iload_n hx hb dX5_rings_38 rfl (lv_at hl 1 rfl) ?_
        refine b_if_eq (tgt := 98) hx hb dX5_rings_39 (by decide) ⟨by omega, by omega⟩ (fun _ => ?_) (fun c => absurd c (by omega))
        have e9 : rgS X n = X := if_neg (by unfold anyM; omega)
        exact g_vret hx hb hr hlocks hS ⟨Nat.le_of_ble_eq_true rfl, Nat.le_of_ble_eq_true rfl⟩ (⟨rfl, by rw [e9]; exact hM⟩) dX5_rings_98
      · skip
        refine b_iconst hx hb dX5_rings_26 ?_
        refine lv_goto (tgt := 31) hx hb dX5_rings_27 (by decide) ?_
        refine lv_istore_n (lv' := [(2, .int (z2 (1))), (3, .int (z2 (2))), (0, .ref bm), (1, .int (z2 (((n : Nat) : Int))))]) hx hb dX5_rings_31 rfl hl (by decide) rfl (fun ls hl => ?_)
        refine b_iinc (lv' := [(3, .int (z2 (3))), (2, .int (z2 (1))), (0, .ref bm), (1, .int (z2 (((n : Nat) : Int))))]) hx hb dX5_rings_32 hl (k := 1) rfl (by decide) rfl (fun ls hl => ?_)
        refine lv_goto (tgt := 4) hx hb dX5_rings_35 (by decide) ?_
        refine lv_iload_n hx hb dX5_rings_4 rfl (lv_at hl 0 rfl) ?_
        refine b_iconst hx hb dX5_rings_5 ?_
        refine b_icmp_ge (tgt := 38) hx hb dX5_rings_6 (by decide) ⟨⟨by omega, by omega⟩, ⟨by omega, by omega⟩⟩ (fun _ => ?_) (fun c => absurd c (by omega))
        refine lv_iload_n hx hb dX5_rings_38 rfl (lv_at hl 1 rfl) ?_
        refine b_if_eq (tgt := 98) hx hb dX5_rings_39 (by decide) ⟨by omega, by omega⟩ (fun c => absurd c (by omega)) (fun _ => ?_)
        refine lv_aload_n hx hb dX5_rings_42 rfl (lv_at hl 2 rfl) ?_
        refine g_get (C := RX5) (T := TX5) (N := 23) hx hb hts inX5 hown hG hM.1 rfl 13 (by decide) (by decide +kernel) rfl (v := .ref (bm + 12)) rfl dX5_rings_43 ?_
        refine lv_iload_n hx hb dX5_rings_46 rfl (lv_at hl 3 rfl) ?_
        refine lv_dup2_11 hx hb dX5_rings_47 rfl rfl ?_
        refine g_iald (n := 8) hx hb hG (f := fun i => z2 (X 13 i)) (show ca D (bm + 12) (iA (ks 0) 8 (fun i => z2 (X 13 i))) _ from hM.2.1 13 (sr_of (by decide))) n ⟨by omega, by omega, by decide⟩ dX5_rings_48 ?_
        refine W.eq (g2 := F0 m 49 ls (.int (z2 (X 13 n)) :: [.int (z2 (((n : Nat) : Int))), .ref (bm + 12)])) rfl ?_
        refine b_iconst hx hb dX5_rings_49 ?_
        refine b_iadd hx hb dX5_rings_50 ?_
        refine g_iast (n := 8) hx hb hG hS (f := fun i => z2 (X 13 i)) (show ca D (bm + 12) (iA (ks 0) 8 (fun i => z2 (X 13 i))) _ from hM.2.1 13 (sr_of (by decide))) (Or.inl ⟨by omega, by omega⟩) n ⟨by omega, by omega, by decide⟩ dX5_rings_51 (fun H locs he hz oq hS => ?_)
        have hM : PM D ks bm (up X 13 n ((X 13 n) + 1)) H := hM.row (f := 13) (sr_of (by decide)) he oq
        refine lv_aload_n hx hb dX5_rings_52 rfl (lv_at hl 2 rfl) ?_
        refine g_get (C := RX5) (T := TX5) (N := 23) hx hb hts inX5 hown hG hM.1 rfl 14 (by decide) (by decide +kernel) rfl (v := .ref (bm + 13)) rfl dX5_rings_53 ?_
        refine lv_iload_n hx hb dX5_rings_56 rfl (lv_at hl 3 rfl) ?_
        refine lv_dup2_11 hx hb dX5_rings_57 rfl rfl ?_
        refine g_iald (n := 8) hx hb hG (f := fun i => z2 ((up X 13 n ((X 13 n) + 1)) 14 i)) (show ca D (bm + 13) (iA (ks 0) 8 (fun i => z2 ((up X 13 n ((X 13 n) + 1)) 14 i))) _ from hM.2.1 14 (sr_of (by decide))) n ⟨by omega, by omega, by decide⟩ dX5_rings_58 ?_
        refine W.eq (g2 := F0 m 59 ls (.int (z2 (X 14 n)) :: [.int (z2 (((n : Nat) : Int))), .ref (bm + 13)])) rfl ?_
        refine lv_aload_n hx hb dX5_rings_59 rfl (lv_at hl 2 rfl) ?_
        refine lv_iload_n hx hb dX5_rings_60 rfl (lv_at hl 3 rfl) ?_
        refine g_run (vx_runV (As := [.int (z2 (((n : Nat) : Int)))]) (rest := [.int (z2 (X 14 n)), .int (z2 (((n : Nat) : Int))), .ref (bm + 13)]) ⟨hx, hb, hml, hown, hts⟩ (m_isQuiet l D ks bx bm hbm (up X 13 n ((X 13 n) + 1)) _ hM (vs_uf hV (by decide)) (n := n) (((n : Nat) : Int)) ⟨by omega, by omega⟩) (cwV 1 hts gX5_rings_X5_isQuiet rfl rfl rfl (by decide +kernel) ⟨Nat.le_of_ble_eq_true rfl, Nat.le_of_ble_eq_true rfl⟩) (g_preV (r := (RX5, TX5, 23)) hG hS (rm_ge hbm) hM.1 rfl) rfl rfl hl.1 rfl (lv_room (Nat.le_of_ble_eq_true rfl)) dX5_rings_61 ⟨Nat.le_of_ble_eq_true rfl, Nat.le_of_ble_eq_true rfl⟩) hS (fun _ h => h) (fun _ _ _ _ _ h => h.elim) (fun v H1 locs hp hz9 hk9 hS => ?_)
        obtain ⟨rfl, hH9⟩ := hp
        obtain rfl := hH9.symm
        have qe_61 : qM (up X 13 n ((X 13 n) + 1)) n = qM X n := by unfold qM; simp [up]
        rw [qe_61]
        have qb_61 := qM_b X n
        refine W.eq (g2 := F0 m 64 ls [.int (z2 (qM X n)), .int (z2 (X 14 n)), .int (z2 (((n : Nat) : Int))), .ref (bm + 13)]) rfl ?_
        refine b_if_eq (tgt := 71) hx hb dX5_rings_64 (by decide) ⟨by omega, by omega⟩ (fun c_64 => ?_) (fun c_64 => ?_)
        · skip
          refine b_iconst hx hb dX5_rings_71 ?_
          refine b_iadd hx hb dX5_rings_72 ?_
          refine g_iast (n := 8) hx hb hG hS (f := fun i => z2 ((up X 13 n ((X 13 n) + 1)) 14 i)) (show ca D (bm + 13) (iA (ks 0) 8 (fun i => z2 ((up X 13 n ((X 13 n) + 1)) 14 i))) _ from hM.2.1 14 (sr_of (by decide))) (Or.inl ⟨by omega, by omega⟩) n ⟨by omega, by omega, by decide⟩ dX5_rings_73 (fun H locs he hz oq hS => ?_)
          have hM : PM D ks bm (up (up X 13 n ((X 13 n) + 1)) 14 n ((X 14 n) + 0)) H := hM.row (f := 14) (sr_of (by decide)) he oq
          refine lv_aload_n hx hb dX5_rings_74 rfl (lv_at hl 2 rfl) ?_
          refine g_get (C := RX5) (T := TX5) (N := 23) hx hb hts inX5 hown hG hM.1 rfl 16 (by decide) (by decide +kernel) rfl (v := .ref (bm + 15)) rfl dX5_rings_75 ?_
          refine lv_iload_n hx hb dX5_rings_78 rfl (lv_at hl 3 rfl) ?_
          refine lv_aload_n hx hb dX5_rings_79 rfl (lv_at hl 2 rfl) ?_
          refine lv_iload_n hx hb dX5_rings_80 rfl (lv_at hl 3 rfl) ?_
          refine g_run (vx_runV (As := [.int (z2 (((n : Nat) : Int)))]) (rest := [.int (z2 (((n : Nat) : Int))), .ref (bm + 15)]) ⟨hx, hb, hml, hown, hts⟩ (m_isQuiet l D ks bx bm hbm (up (up X 13 n ((X 13 n) + 1)) 14 n ((X 14 n) + 0)) _ hM (vs_uf (vs_uf hV (by decide)) (by decide)) (n := n) (((n : Nat) : Int)) ⟨by omega, by omega⟩) (cwV 1 hts gX5_rings_X5_isQuiet rfl rfl rfl (by decide +kernel) ⟨Nat.le_of_ble_eq_true rfl, Nat.le_of_ble_eq_true rfl⟩) (g_preV (r := (RX5, TX5, 23)) hG hS (rm_ge hbm) hM.1 rfl) rfl rfl hl.1 rfl (lv_room (Nat.le_of_ble_eq_true rfl)) dX5_rings_81 ⟨Nat.le_of_ble_eq_true rfl, Nat.le_of_ble_eq_true rfl⟩) hS (fun _ h => h) (fun _ _ _ _ _ h => h.elim) (fun v H1 locs hp hz9 hk9 hS => ?_)
          obtain ⟨rfl, hH9⟩ := hp
          obtain rfl := hH9.symm
          have qe_81 : qM (up (up X 13 n ((X 13 n) + 1)) 14 n ((X 14 n) + 0)) n = qM X n := by unfold qM; simp [up]
          rw [qe_81]
          have qb_81 := qM_b X n
          refine W.eq (g2 := F0 m 84 ls [.int (z2 (qM X n)), .int (z2 (((n : Nat) : Int))), .ref (bm + 15)]) rfl ?_
          refine b_if_eq (tgt := 91) hx hb dX5_rings_84 (by decide) ⟨by omega, by omega⟩ (fun c_84 => ?_) (fun c_84 => ?_)
          · skip
            refine lv_aload_n hx hb dX5_rings_91 rfl (lv_at hl 2 rfl) ?_
            refine g_get (C := RX5) (T := TX5) (N := 23) hx hb hts inX5 hown hG hM.1 rfl 16 (by decide) (by decide +kernel) rfl (v := .ref (bm + 15)) rfl dX5_rings_92 ?_
            refine lv_iload_n hx hb dX5_rings_95 rfl (lv_at hl 3 rfl) ?_
            have b_96 : 0 ≤ X 16 n ∧ X 16 n ≤ 1 := hV.1 16 _ (by decide) rfl
            refine g_iald (n := 8) hx hb hG (f := fun i => z2 ((up (up X 13 n ((X 13 n) + 1)) 14 n ((X 14 n) + 0)) 16 i)) (show ca D (bm + 15) (iA (ks 0) 8 (fun i => z2 ((up (up X 13 n ((X 13 n) + 1)) 14 n ((X 14 n) + 0)) 16 i))) _ from hM.2.1 16 (sr_of (by decide))) n ⟨by omega, by omega, by decide⟩ dX5_rings_96 ?_
            refine W.eq (g2 := F0 m 97 ls (.int (z2 (X 16 n)) :: [.int (z2 (((n : Nat) : Int))), .ref (bm + 15)])) rfl ?_
            refine g_iast (n := 8) hx hb hG hS (f := fun i => z2 ((up (up X 13 n ((X 13 n) + 1)) 14 n ((X 14 n) + 0)) 16 i)) (show ca D (bm + 15) (iA (ks 0) 8 (fun i => z2 ((up (up X 13 n ((X 13 n) + 1)) 14 n ((X 14 n) + 0)) 16 i))) _ from hM.2.1 16 (sr_of (by decide))) (Or.inl ⟨by omega, by omega⟩) n ⟨by omega, by omega, by decide⟩ dX5_rings_97 (fun H locs he hz oq hS => ?_)
            have hM : PM D ks bm (up (up (up X 13 n ((X 13 n) + 1)) 14 n ((X 14 n) + 0)) 16 n (X 16 n)) H := hM.row (f := 16) (sr_of (by decide)) he oq
            have q9 : qM X n = 0 := by omega
            have e8 := rg3_e X n
            rw [q9] at e8
            have e9 : rgS X n = up (up (up X 13 n ((X 13 n) + 1)) 14 n ((X 14 n) + 0)) 16 n (X 16 n) := (if_pos (by unfold anyM; omega)).trans (e8.trans (by rfl))
            exact g_vret hx hb hr hlocks hS ⟨Nat.le_of_ble_eq_true rfl, Nat.le_of_ble_eq_true rfl⟩ (⟨rfl, by rw [e9]; exact hM⟩) dX5_rings_98
          · skip
            refine b_iconst hx hb dX5_rings_87 ?_
            refine lv_goto (tgt := 97) hx hb dX5_rings_88 (by decide) ?_
            refine g_iast (n := 8) hx hb hG hS (f := fun i => z2 ((up (up X 13 n ((X 13 n) + 1)) 14 n ((X 14 n) + 0)) 16 i)) (show ca D (bm + 15) (iA (ks 0) 8 (fun i => z2 ((up (up X 13 n ((X 13 n) + 1)) 14 n ((X 14 n) + 0)) 16 i))) _ from hM.2.1 16 (sr_of (by decide))) (Or.inl ⟨by omega, by omega⟩) n ⟨by omega, by omega, by decide⟩ dX5_rings_97 (fun H locs he hz oq hS => ?_)
            have hM : PM D ks bm (up (up (up X 13 n ((X 13 n) + 1)) 14 n ((X 14 n) + 0)) 16 n (1)) H := hM.row (f := 16) (sr_of (by decide)) he oq
            exact g_vret hx hb hr hlocks hS ⟨Nat.le_of_ble_eq_true rfl, Nat.le_of_ble_eq_true rfl⟩ ((show False by omega).elim) dX5_rings_98
        · skip
          refine b_iconst hx hb dX5_rings_67 ?_
          refine lv_goto (tgt := 72) hx hb dX5_rings_68 (by decide) ?_
          refine b_iadd hx hb dX5_rings_72 ?_
          refine g_iast (n := 8) hx hb hG hS (f := fun i => z2 ((up X 13 n ((X 13 n) + 1)) 14 i)) (show ca D (bm + 13) (iA (ks 0) 8 (fun i => z2 ((up X 13 n ((X 13 n) + 1)) 14 i))) _ from hM.2.1 14 (sr_of (by decide))) (Or.inl ⟨by omega, by omega⟩) n ⟨by omega, by omega, by decide⟩ dX5_rings_73 (fun H locs he hz oq hS => ?_)
          have hM : PM D ks bm (up (up X 13 n ((X 13 n) + 1)) 14 n ((X 14 n) + 1)) H := hM.row (f := 14) (sr_of (by decide)) he oq
          refine lv_aload_n hx hb dX5_rings_74 rfl (lv_at hl 2 rfl) ?_
          refine g_get (C := RX5) (T := TX5) (N := 23) hx hb hts inX5 hown hG hM.1 rfl 16 (by decide) (by decide +kernel) rfl (v := .ref (bm + 15)) rfl dX5_rings_75 ?_
          refine lv_iload_n hx hb dX5_rings_78 rfl (lv_at hl 3 rfl) ?_
          refine lv_aload_n hx hb dX5_rings_79 rfl (lv_at hl 2 rfl) ?_
          refine lv_iload_n hx hb dX5_rings_80 rfl (lv_at hl 3 rfl) ?_
          refine g_run (vx_runV (As := [.int (z2 (((n : Nat) : Int)))]) (rest := [.int (z2 (((n : Nat) : Int))), .ref (bm + 15)]) ⟨hx, hb, hml, hown, hts⟩ (m_isQuiet l D ks bx bm hbm (up (up X 13 n ((X 13 n) + 1)) 14 n ((X 14 n) + 1)) _ hM (vs_uf (vs_uf hV (by decide)) (by decide)) (n := n) (((n : Nat) : Int)) ⟨by omega, by omega⟩) (cwV 1 hts gX5_rings_X5_isQuiet rfl rfl rfl (by decide +kernel) ⟨Nat.le_of_ble_eq_true rfl, Nat.le_of_ble_eq_true rfl⟩) (g_preV (r := (RX5, TX5, 23)) hG hS (rm_ge hbm) hM.1 rfl) rfl rfl hl.1 rfl (lv_room (Nat.le_of_ble_eq_true rfl)) dX5_rings_81 ⟨Nat.le_of_ble_eq_true rfl, Nat.le_of_ble_eq_true rfl⟩) hS (fun _ h => h) (fun _ _ _ _ _ h => h.elim) (fun v H1 locs hp hz9 hk9 hS => ?_)
          obtain ⟨rfl, hH9⟩ := hp
          obtain rfl := hH9.symm
          have qe_81 : qM (up (up X 13 n ((X 13 n) + 1)) 14 n ((X 14 n) + 1)) n = qM X n := by unfold qM; simp [up]
          rw [qe_81]
          have qb_81 := qM_b X n
          refine W.eq (g2 := F0 m 84 ls [.int (z2 (qM X n)), .int (z2 (((n : Nat) : Int))), .ref (bm + 15)]) rfl ?_
          refine b_if_eq (tgt := 91) hx hb dX5_rings_84 (by decide) ⟨by omega, by omega⟩ (fun c_84 => ?_) (fun c_84 => ?_)
          · skip
            refine lv_aload_n hx hb dX5_rings_91 rfl (lv_at hl 2 rfl) ?_
            refine g_get (C := RX5) (T := TX5) (N := 23) hx hb hts inX5 hown hG hM.1 rfl 16 (by decide) (by decide +kernel) rfl (v := .ref (bm + 15)) rfl dX5_rings_92 ?_
            refine lv_iload_n hx hb dX5_rings_95 rfl (lv_at hl 3 rfl) ?_
            have b_96 : 0 ≤ X 16 n ∧ X 16 n ≤ 1 := hV.1 16 _ (by decide) rfl
            refine g_iald (n := 8) hx hb hG (f := fun i => z2 ((up (up X 13 n ((X 13 n) + 1)) 14 n ((X 14 n) + 1)) 16 i)) (show ca D (bm + 15) (iA (ks 0) 8 (fun i => z2 ((up (up X 13 n ((X 13 n) + 1)) 14 n ((X 14 n) + 1)) 16 i))) _ from hM.2.1 16 (sr_of (by decide))) n ⟨by omega, by omega, by decide⟩ dX5_rings_96 ?_
            refine W.eq (g2 := F0 m 97 ls (.int (z2 (X 16 n)) :: [.int (z2 (((n : Nat) : Int))), .ref (bm + 15)])) rfl ?_
            refine g_iast (n := 8) hx hb hG hS (f := fun i => z2 ((up (up X 13 n ((X 13 n) + 1)) 14 n ((X 14 n) + 1)) 16 i)) (show ca D (bm + 15) (iA (ks 0) 8 (fun i => z2 ((up (up X 13 n ((X 13 n) + 1)) 14 n ((X 14 n) + 1)) 16 i))) _ from hM.2.1 16 (sr_of (by decide))) (Or.inl ⟨by omega, by omega⟩) n ⟨by omega, by omega, by decide⟩ dX5_rings_97 (fun H locs he hz oq hS => ?_)
            have hM : PM D ks bm (up (up (up X 13 n ((X 13 n) + 1)) 14 n ((X 14 n) + 1)) 16 n (X 16 n)) H := hM.row (f := 16) (sr_of (by decide)) he oq
            exact g_vret hx hb hr hlocks hS ⟨Nat.le_of_ble_eq_true rfl, Nat.le_of_ble_eq_true rfl⟩ ((show False by omega).elim) dX5_rings_98
          · skip
            refine b_iconst hx hb dX5_rings_87 ?_
            refine lv_goto (tgt := 97) hx hb dX5_rings_88 (by decide) ?_
            refine g_iast (n := 8) hx hb hG hS (f := fun i => z2 ((up (up X 13 n ((X 13 n) + 1)) 14 n ((X 14 n) + 1)) 16 i)) (show ca D (bm + 15) (iA (ks 0) 8 (fun i => z2 ((up (up X 13 n ((X 13 n) + 1)) 14 n ((X 14 n) + 1)) 16 i))) _ from hM.2.1 16 (sr_of (by decide))) (Or.inl ⟨by omega, by omega⟩) n ⟨by omega, by omega, by decide⟩ dX5_rings_97 (fun H locs he hz oq hS => ?_)
            have hM : PM D ks bm (up (up (up X 13 n ((X 13 n) + 1)) 14 n ((X 14 n) + 1)) 16 n (1)) H := hM.row (f := 16) (sr_of (by decide)) he oq
            have q9 : qM X n = 1 := by omega
            have e8 := rg3_e X n
            rw [q9] at e8
            have e9 : rgS X n = up (up (up X 13 n ((X 13 n) + 1)) 14 n ((X 14 n) + 1)) 16 n (1) := (if_pos (by unfold anyM; omega)).trans (e8.trans (by rfl))
            exact g_vret hx hb hr hlocks hS ⟨Nat.le_of_ble_eq_true rfl, Nat.le_of_ble_eq_true rfl⟩ (⟨rfl, by rw [e9]; exact hM⟩) dX5_rings_98
    · skip
      refine b_iconst hx hb dX5_rings_26 ?_
      refine lv_goto (tgt := 31) hx hb dX5_rings_27 (by decide) ?_
      refine lv_istore_n (lv' := [(2, .int (z2 (1))), (3, .int (z2 (1))), (0, .ref bm), (1, .int (z2 (((n : Nat) : Int))))]) hx hb dX5_rings_31 rfl hl (by decide) rfl (fun ls hl => ?_)
      refine b_iinc (lv' := [(3, .int (z2 (2))), (2, .int (z2 (1))), (0, .ref bm), (1, .int (z2 (((n : Nat) : Int))))]) hx hb dX5_rings_32 hl (k := 1) rfl (by decide) rfl (fun ls hl => ?_)
      refine lv_goto (tgt := 4) hx hb dX5_rings_35 (by decide) ?_
      refine lv_iload_n hx hb dX5_rings_4 rfl (lv_at hl 0 rfl) ?_
      refine b_iconst hx hb dX5_rings_5 ?_
      refine b_icmp_ge (tgt := 38) hx hb dX5_rings_6 (by decide) ⟨⟨by omega, by omega⟩, ⟨by omega, by omega⟩⟩ (fun c => absurd c (by omega)) (fun _ => ?_)
      refine lv_iload_n hx hb dX5_rings_9 rfl (lv_at hl 1 rfl) ?_
      refine b_if_ne (tgt := 26) hx hb dX5_rings_10 (by decide) ⟨by omega, by omega⟩ (fun _ => ?_) (fun c => absurd c (by omega))
      refine b_iconst hx hb dX5_rings_26 ?_
      refine lv_goto (tgt := 31) hx hb dX5_rings_27 (by decide) ?_
      refine lv_istore_n (lv' := [(2, .int (z2 (1))), (3, .int (z2 (2))), (0, .ref bm), (1, .int (z2 (((n : Nat) : Int))))]) hx hb dX5_rings_31 rfl hl (by decide) rfl (fun ls hl => ?_)
      refine b_iinc (lv' := [(3, .int (z2 (3))), (2, .int (z2 (1))), (0, .ref bm), (1, .int (z2 (((n : Nat) : Int))))]) hx hb dX5_rings_32 hl (k := 1) rfl (by decide) rfl (fun ls hl => ?_)
      refine lv_goto (tgt := 4) hx hb dX5_rings_35 (by decide) ?_
      refine lv_iload_n hx hb dX5_rings_4 rfl (lv_at hl 0 rfl) ?_
      refine b_iconst hx hb dX5_rings_5 ?_
      refine b_icmp_ge (tgt := 38) hx hb dX5_rings_6 (by decide) ⟨⟨by omega, by omega⟩, ⟨by omega, by omega⟩⟩ (fun _ => ?_) (fun c => absurd c (by omega))
      refine lv_iload_n hx hb dX5_rings_38 rfl (lv_at hl 1 rfl) ?_
      refine b_if_eq (tgt := 98) hx hb dX5_rings_39 (by decide) ⟨by omega, by omega⟩ (fun c => absurd c (by omega)) (fun _ => ?_)
      refine lv_aload_n hx hb dX5_rings_42 rfl (lv_at hl 2 rfl) ?_
      refine g_get (C := RX5) (T := TX5) (N := 23) hx hb hts inX5 hown hG hM.1 rfl 13 (by decide) (by decide +kernel) rfl (v := .ref (bm + 12)) rfl dX5_rings_43 ?_
      refine lv_iload_n hx hb dX5_rings_46 rfl (lv_at hl 3 rfl) ?_
      refine lv_dup2_11 hx hb dX5_rings_47 rfl rfl ?_
      refine g_iald (n := 8) hx hb hG (f := fun i => z2 (X 13 i)) (show ca D (bm + 12) (iA (ks 0) 8 (fun i => z2 (X 13 i))) _ from hM.2.1 13 (sr_of (by decide))) n ⟨by omega, by omega, by decide⟩ dX5_rings_48 ?_
      refine W.eq (g2 := F0 m 49 ls (.int (z2 (X 13 n)) :: [.int (z2 (((n : Nat) : Int))), .ref (bm + 12)])) rfl ?_
      refine b_iconst hx hb dX5_rings_49 ?_
      refine b_iadd hx hb dX5_rings_50 ?_
      refine g_iast (n := 8) hx hb hG hS (f := fun i => z2 (X 13 i)) (show ca D (bm + 12) (iA (ks 0) 8 (fun i => z2 (X 13 i))) _ from hM.2.1 13 (sr_of (by decide))) (Or.inl ⟨by omega, by omega⟩) n ⟨by omega, by omega, by decide⟩ dX5_rings_51 (fun H locs he hz oq hS => ?_)
      have hM : PM D ks bm (up X 13 n ((X 13 n) + 1)) H := hM.row (f := 13) (sr_of (by decide)) he oq
      refine lv_aload_n hx hb dX5_rings_52 rfl (lv_at hl 2 rfl) ?_
      refine g_get (C := RX5) (T := TX5) (N := 23) hx hb hts inX5 hown hG hM.1 rfl 14 (by decide) (by decide +kernel) rfl (v := .ref (bm + 13)) rfl dX5_rings_53 ?_
      refine lv_iload_n hx hb dX5_rings_56 rfl (lv_at hl 3 rfl) ?_
      refine lv_dup2_11 hx hb dX5_rings_57 rfl rfl ?_
      refine g_iald (n := 8) hx hb hG (f := fun i => z2 ((up X 13 n ((X 13 n) + 1)) 14 i)) (show ca D (bm + 13) (iA (ks 0) 8 (fun i => z2 ((up X 13 n ((X 13 n) + 1)) 14 i))) _ from hM.2.1 14 (sr_of (by decide))) n ⟨by omega, by omega, by decide⟩ dX5_rings_58 ?_
      refine W.eq (g2 := F0 m 59 ls (.int (z2 (X 14 n)) :: [.int (z2 (((n : Nat) : Int))), .ref (bm + 13)])) rfl ?_
      refine lv_aload_n hx hb dX5_rings_59 rfl (lv_at hl 2 rfl) ?_
      refine lv_iload_n hx hb dX5_rings_60 rfl (lv_at hl 3 rfl) ?_
      refine g_run (vx_runV (As := [.int (z2 (((n : Nat) : Int)))]) (rest := [.int (z2 (X 14 n)), .int (z2 (((n : Nat) : Int))), .ref (bm + 13)]) ⟨hx, hb, hml, hown, hts⟩ (m_isQuiet l D ks bx bm hbm (up X 13 n ((X 13 n) + 1)) _ hM (vs_uf hV (by decide)) (n := n) (((n : Nat) : Int)) ⟨by omega, by omega⟩) (cwV 1 hts gX5_rings_X5_isQuiet rfl rfl rfl (by decide +kernel) ⟨Nat.le_of_ble_eq_true rfl, Nat.le_of_ble_eq_true rfl⟩) (g_preV (r := (RX5, TX5, 23)) hG hS (rm_ge hbm) hM.1 rfl) rfl rfl hl.1 rfl (lv_room (Nat.le_of_ble_eq_true rfl)) dX5_rings_61 ⟨Nat.le_of_ble_eq_true rfl, Nat.le_of_ble_eq_true rfl⟩) hS (fun _ h => h) (fun _ _ _ _ _ h => h.elim) (fun v H1 locs hp hz9 hk9 hS => ?_)
      obtain ⟨rfl, hH9⟩ := hp
      obtain rfl := hH9.symm
      have qe_61 : qM (up X 13 n ((X 13 n) + 1)) n = qM X n := by unfold qM; simp [up]
      rw [qe_61]
      have qb_61 := qM_b X n
      refine W.eq (g2 := F0 m 64 ls [.int (z2 (qM X n)), .int (z2 (X 14 n)), .int (z2 (((n : Nat) : Int))), .ref (bm + 13)]) rfl ?_
      refine b_if_eq (tgt := 71) hx hb dX5_rings_64 (by decide) ⟨by omega, by omega⟩ (fun c_64 => ?_) (fun c_64 => ?_)
      · skip
        refine b_iconst hx hb dX5_rings_71 ?_
        refine b_iadd hx hb dX5_rings_72 ?_
        refine g_iast (n := 8) hx hb hG hS (f := fun i => z2 ((up X 13 n ((X 13 n) + 1)) 14 i)) (show ca D (bm + 13) (iA (ks 0) 8 (fun i => z2 ((up X 13 n ((X 13 n) + 1)) 14 i))) _ from hM.2.1 14 (sr_of (by decide))) (Or.inl ⟨by omega, by omega⟩) n ⟨by omega, by omega, by decide⟩ dX5_rings_73 (fun H locs he hz oq hS => ?_)
        have hM : PM D ks bm (up (up X 13 n ((X 13 n) + 1)) 14 n ((X 14 n) + 0)) H := hM.row (f := 14) (sr_of (by decide)) he oq
        refine lv_aload_n hx hb dX5_rings_74 rfl (lv_at hl 2 rfl) ?_
        refine g_get (C := RX5) (T := TX5) (N := 23) hx hb hts inX5 hown hG hM.1 rfl 16 (by decide) (by decide +kernel) rfl (v := .ref (bm + 15)) rfl dX5_rings_75 ?_
        refine lv_iload_n hx hb dX5_rings_78 rfl (lv_at hl 3 rfl) ?_
        refine lv_aload_n hx hb dX5_rings_79 rfl (lv_at hl 2 rfl) ?_
        refine lv_iload_n hx hb dX5_rings_80 rfl (lv_at hl 3 rfl) ?_
        refine g_run (vx_runV (As := [.int (z2 (((n : Nat) : Int)))]) (rest := [.int (z2 (((n : Nat) : Int))), .ref (bm + 15)]) ⟨hx, hb, hml, hown, hts⟩ (m_isQuiet l D ks bx bm hbm (up (up X 13 n ((X 13 n) + 1)) 14 n ((X 14 n) + 0)) _ hM (vs_uf (vs_uf hV (by decide)) (by decide)) (n := n) (((n : Nat) : Int)) ⟨by omega, by omega⟩) (cwV 1 hts gX5_rings_X5_isQuiet rfl rfl rfl (by decide +kernel) ⟨Nat.le_of_ble_eq_true rfl, Nat.le_of_ble_eq_true rfl⟩) (g_preV (r := (RX5, TX5, 23)) hG hS (rm_ge hbm) hM.1 rfl) rfl rfl hl.1 rfl (lv_room (Nat.le_of_ble_eq_true rfl)) dX5_rings_81 ⟨Nat.le_of_ble_eq_true rfl, Nat.le_of_ble_eq_true rfl⟩) hS (fun _ h => h) (fun _ _ _ _ _ h => h.elim) (fun v H1 locs hp hz9 hk9 hS => ?_)
        obtain ⟨rfl, hH9⟩ := hp
        obtain rfl := hH9.symm
        have qe_81 : qM (up (up X 13 n ((X 13 n) + 1)) 14 n ((X 14 n) + 0)) n = qM X n := by unfold qM; simp [up]
        rw [qe_81]
        have qb_81 := qM_b X n
        refine W.eq (g2 := F0 m 84 ls [.int (z2 (qM X n)), .int (z2 (((n : Nat) : Int))), .ref (bm + 15)]) rfl ?_
        refine b_if_eq (tgt := 91) hx hb dX5_rings_84 (by decide) ⟨by omega, by omega⟩ (fun c_84 => ?_) (fun c_84 => ?_)
        · skip
          refine lv_aload_n hx hb dX5_rings_91 rfl (lv_at hl 2 rfl) ?_
          refine g_get (C := RX5) (T := TX5) (N := 23) hx hb hts inX5 hown hG hM.1 rfl 16 (by decide) (by decide +kernel) rfl (v := .ref (bm + 15)) rfl dX5_rings_92 ?_
          refine lv_iload_n hx hb dX5_rings_95 rfl (lv_at hl 3 rfl) ?_
          have b_96 : 0 ≤ X 16 n ∧ X 16 n ≤ 1 := hV.1 16 _ (by decide) rfl
          refine g_iald (n := 8) hx hb hG (f := fun i => z2 ((up (up X 13 n ((X 13 n) + 1)) 14 n ((X 14 n) + 0)) 16 i)) (show ca D (bm + 15) (iA (ks 0) 8 (fun i => z2 ((up (up X 13 n ((X 13 n) + 1)) 14 n ((X 14 n) + 0)) 16 i))) _ from hM.2.1 16 (sr_of (by decide))) n ⟨by omega, by omega, by decide⟩ dX5_rings_96 ?_
          refine W.eq (g2 := F0 m 97 ls (.int (z2 (X 16 n)) :: [.int (z2 (((n : Nat) : Int))), .ref (bm + 15)])) rfl ?_
          refine g_iast (n := 8) hx hb hG hS (f := fun i => z2 ((up (up X 13 n ((X 13 n) + 1)) 14 n ((X 14 n) + 0)) 16 i)) (show ca D (bm + 15) (iA (ks 0) 8 (fun i => z2 ((up (up X 13 n ((X 13 n) + 1)) 14 n ((X 14 n) + 0)) 16 i))) _ from hM.2.1 16 (sr_of (by decide))) (Or.inl ⟨by omega, by omega⟩) n ⟨by omega, by omega, by decide⟩ dX5_rings_97 (fun H locs he hz oq hS => ?_)
          have hM : PM D ks bm (up (up (up X 13 n ((X 13 n) + 1)) 14 n ((X 14 n) + 0)) 16 n (X 16 n)) H := hM.row (f := 16) (sr_of (by decide)) he oq
          have q9 : qM X n = 0 := by omega
          have e8 := rg3_e X n
          rw [q9] at e8
          have e9 : rgS X n = up (up (up X 13 n ((X 13 n) + 1)) 14 n ((X 14 n) + 0)) 16 n (X 16 n) := (if_pos (by unfold anyM; omega)).trans (e8.trans (by rfl))
          exact g_vret hx hb hr hlocks hS ⟨Nat.le_of_ble_eq_true rfl, Nat.le_of_ble_eq_true rfl⟩ (⟨rfl, by rw [e9]; exact hM⟩) dX5_rings_98
        · skip
          refine b_iconst hx hb dX5_rings_87 ?_
          refine lv_goto (tgt := 97) hx hb dX5_rings_88 (by decide) ?_
          refine g_iast (n := 8) hx hb hG hS (f := fun i => z2 ((up (up X 13 n ((X 13 n) + 1)) 14 n ((X 14 n) + 0)) 16 i)) (show ca D (bm + 15) (iA (ks 0) 8 (fun i => z2 ((up (up X 13 n ((X 13 n) + 1)) 14 n ((X 14 n) + 0)) 16 i))) _ from hM.2.1 16 (sr_of (by decide))) (Or.inl ⟨by omega, by omega⟩) n ⟨by omega, by omega, by decide⟩ dX5_rings_97 (fun H locs he hz oq hS => ?_)
          have hM : PM D ks bm (up (up (up X 13 n ((X 13 n) + 1)) 14 n ((X 14 n) + 0)) 16 n (1)) H := hM.row (f := 16) (sr_of (by decide)) he oq
          exact g_vret hx hb hr hlocks hS ⟨Nat.le_of_ble_eq_true rfl, Nat.le_of_ble_eq_true rfl⟩ ((show False by omega).elim) dX5_rings_98
      · skip
        refine b_iconst hx hb dX5_rings_67 ?_
        refine lv_goto (tgt := 72) hx hb dX5_rings_68 (by decide) ?_
        refine b_iadd hx hb dX5_rings_72 ?_
        refine g_iast (n := 8) hx hb hG hS (f := fun i => z2 ((up X 13 n ((X 13 n) + 1)) 14 i)) (show ca D (bm + 13) (iA (ks 0) 8 (fun i => z2 ((up X 13 n ((X 13 n) + 1)) 14 i))) _ from hM.2.1 14 (sr_of (by decide))) (Or.inl ⟨by omega, by omega⟩) n ⟨by omega, by omega, by decide⟩ dX5_rings_73 (fun H locs he hz oq hS => ?_)
        have hM : PM D ks bm (up (up X 13 n ((X 13 n) + 1)) 14 n ((X 14 n) + 1)) H := hM.row (f := 14) (sr_of (by decide)) he oq
        refine lv_aload_n hx hb dX5_rings_74 rfl (lv_at hl 2 rfl) ?_
        refine g_get (C := RX5) (T := TX5) (N := 23) hx hb hts inX5 hown hG hM.1 rfl 16 (by decide) (by decide +kernel) rfl (v := .ref (bm + 15)) rfl dX5_rings_75 ?_
        refine lv_iload_n hx hb dX5_rings_78 rfl (lv_at hl 3 rfl) ?_
        refine lv_aload_n hx hb dX5_rings_79 rfl (lv_at hl 2 rfl) ?_
        refine lv_iload_n hx hb dX5_rings_80 rfl (lv_at hl 3 rfl) ?_
        refine g_run (vx_runV (As := [.int (z2 (((n : Nat) : Int)))]) (rest := [.int (z2 (((n : Nat) : Int))), .ref (bm + 15)]) ⟨hx, hb, hml, hown, hts⟩ (m_isQuiet l D ks bx bm hbm (up (up X 13 n ((X 13 n) + 1)) 14 n ((X 14 n) + 1)) _ hM (vs_uf (vs_uf hV (by decide)) (by decide)) (n := n) (((n : Nat) : Int)) ⟨by omega, by omega⟩) (cwV 1 hts gX5_rings_X5_isQuiet rfl rfl rfl (by decide +kernel) ⟨Nat.le_of_ble_eq_true rfl, Nat.le_of_ble_eq_true rfl⟩) (g_preV (r := (RX5, TX5, 23)) hG hS (rm_ge hbm) hM.1 rfl) rfl rfl hl.1 rfl (lv_room (Nat.le_of_ble_eq_true rfl)) dX5_rings_81 ⟨Nat.le_of_ble_eq_true rfl, Nat.le_of_ble_eq_true rfl⟩) hS (fun _ h => h) (fun _ _ _ _ _ h => h.elim) (fun v H1 locs hp hz9 hk9 hS => ?_)
        obtain ⟨rfl, hH9⟩ := hp
        obtain rfl := hH9.symm
        have qe_81 : qM (up (up X 13 n ((X 13 n) + 1)) 14 n ((X 14 n) + 1)) n = qM X n := by unfold qM; simp [up]
        rw [qe_81]
        have qb_81 := qM_b X n
        refine W.eq (g2 := F0 m 84 ls [.int (z2 (qM X n)), .int (z2 (((n : Nat) : Int))), .ref (bm + 15)]) rfl ?_
        refine b_if_eq (tgt := 91) hx hb dX5_rings_84 (by decide) ⟨by omega, by omega⟩ (fun c_84 => ?_) (fun c_84 => ?_)
        · skip
          refine lv_aload_n hx hb dX5_rings_91 rfl (lv_at hl 2 rfl) ?_
          refine g_get (C := RX5) (T := TX5) (N := 23) hx hb hts inX5 hown hG hM.1 rfl 16 (by decide) (by decide +kernel) rfl (v := .ref (bm + 15)) rfl dX5_rings_92 ?_
          refine lv_iload_n hx hb dX5_rings_95 rfl (lv_at hl 3 rfl) ?_
          have b_96 : 0 ≤ X 16 n ∧ X 16 n ≤ 1 := hV.1 16 _ (by decide) rfl
          refine g_iald (n := 8) hx hb hG (f := fun i => z2 ((up (up X 13 n ((X 13 n) + 1)) 14 n ((X 14 n) + 1)) 16 i)) (show ca D (bm + 15) (iA (ks 0) 8 (fun i => z2 ((up (up X 13 n ((X 13 n) + 1)) 14 n ((X 14 n) + 1)) 16 i))) _ from hM.2.1 16 (sr_of (by decide))) n ⟨by omega, by omega, by decide⟩ dX5_rings_96 ?_
          refine W.eq (g2 := F0 m 97 ls (.int (z2 (X 16 n)) :: [.int (z2 (((n : Nat) : Int))), .ref (bm + 15)])) rfl ?_
          refine g_iast (n := 8) hx hb hG hS (f := fun i => z2 ((up (up X 13 n ((X 13 n) + 1)) 14 n ((X 14 n) + 1)) 16 i)) (show ca D (bm + 15) (iA (ks 0) 8 (fun i => z2 ((up (up X 13 n ((X 13 n) + 1)) 14 n ((X 14 n) + 1)) 16 i))) _ from hM.2.1 16 (sr_of (by decide))) (Or.inl ⟨by omega, by omega⟩) n ⟨by omega, by omega, by decide⟩ dX5_rings_97 (fun H locs he hz oq hS => ?_)
          have hM : PM D ks bm (up (up (up X 13 n ((X 13 n) + 1)) 14 n ((X 14 n) + 1)) 16 n (X 16 n)) H := hM.row (f := 16) (sr_of (by decide)) he oq
          exact g_vret hx hb hr hlocks hS ⟨Nat.le_of_ble_eq_true rfl, Nat.le_of_ble_eq_true rfl⟩ ((show False by omega).elim) dX5_rings_98
        · skip
          refine b_iconst hx hb dX5_rings_87 ?_
          refine lv_goto (tgt := 97) hx hb dX5_rings_88 (by decide) ?_
          refine g_iast (n := 8) hx hb hG hS (f := fun i => z2 ((up (up X 13 n ((X 13 n) + 1)) 14 n ((X 14 n) + 1)) 16 i)) (show ca D (bm + 15) (iA (ks 0) 8 (fun i => z2 ((up (up X 13 n ((X 13 n) + 1)) 14 n ((X 14 n) + 1)) 16 i))) _ from hM.2.1 16 (sr_of (by decide))) (Or.inl ⟨by omega, by omega⟩) n ⟨by omega, by omega, by decide⟩ dX5_rings_97 (fun H locs he hz oq hS => ?_)
          have hM : PM D ks bm (up (up (up X 13 n ((X 13 n) + 1)) 14 n ((X 14 n) + 1)) 16 n (1)) H := hM.row (f := 16) (sr_of (by decide)) he oq
          have q9 : qM X n = 1 := by omega
          have e8 := rg3_e X n
          rw [q9] at e8
          have e9 : rgS X n = up (up (up X 13 n ((X 13 n) + 1)) 14 n ((X 14 n) + 1)) 16 n (1) := (if_pos (by unfold anyM; omega)).trans (e8.trans (by rfl))
          exact g_vret hx hb hr hlocks hS ⟨Nat.le_of_ble_eq_true rfl, Nat.le_of_ble_eq_true rfl⟩ (⟨rfl, by rw [e9]; exact hM⟩) dX5_rings_98
  · skip
    refine b_iconst hx hb dX5_rings_26 ?_
    refine lv_goto (tgt := 31) hx hb dX5_rings_27 (by decide) ?_
    refine lv_istore_n (lv' := [(2, .int (z2 (1))), (3, .int (z2 (0))), (0, .ref bm), (1, .int (z2 (((n : Nat) : Int))))]) hx hb dX5_rings_31 rfl hl (by decide) rfl (fun ls hl => ?_)
    refine b_iinc (lv' := [(3, .int (z2 (1))), (2, .int (z2 (1))), (0, .ref bm), (1, .int (z2 (((n : Nat) : Int))))]) hx hb dX5_rings_32 hl (k := 1) rfl (by decide) rfl (fun ls hl => ?_)
    refine lv_goto (tgt := 4) hx hb dX5_rings_35 (by decide) ?_
    refine lv_iload_n hx hb dX5_rings_4 rfl (lv_at hl 0 rfl) ?_
    refine b_iconst hx hb dX5_rings_5 ?_
    refine b_icmp_ge (tgt := 38) hx hb dX5_rings_6 (by decide) ⟨⟨by omega, by omega⟩, ⟨by omega, by omega⟩⟩ (fun c => absurd c (by omega)) (fun _ => ?_)
    refine lv_iload_n hx hb dX5_rings_9 rfl (lv_at hl 1 rfl) ?_
    refine b_if_ne (tgt := 26) hx hb dX5_rings_10 (by decide) ⟨by omega, by omega⟩ (fun _ => ?_) (fun c => absurd c (by omega))
    refine b_iconst hx hb dX5_rings_26 ?_
    refine lv_goto (tgt := 31) hx hb dX5_rings_27 (by decide) ?_
    refine lv_istore_n (lv' := [(2, .int (z2 (1))), (3, .int (z2 (1))), (0, .ref bm), (1, .int (z2 (((n : Nat) : Int))))]) hx hb dX5_rings_31 rfl hl (by decide) rfl (fun ls hl => ?_)
    refine b_iinc (lv' := [(3, .int (z2 (2))), (2, .int (z2 (1))), (0, .ref bm), (1, .int (z2 (((n : Nat) : Int))))]) hx hb dX5_rings_32 hl (k := 1) rfl (by decide) rfl (fun ls hl => ?_)
    refine lv_goto (tgt := 4) hx hb dX5_rings_35 (by decide) ?_
    refine lv_iload_n hx hb dX5_rings_4 rfl (lv_at hl 0 rfl) ?_
    refine b_iconst hx hb dX5_rings_5 ?_
    refine b_icmp_ge (tgt := 38) hx hb dX5_rings_6 (by decide) ⟨⟨by omega, by omega⟩, ⟨by omega, by omega⟩⟩ (fun c => absurd c (by omega)) (fun _ => ?_)
    refine lv_iload_n hx hb dX5_rings_9 rfl (lv_at hl 1 rfl) ?_
    refine b_if_ne (tgt := 26) hx hb dX5_rings_10 (by decide) ⟨by omega, by omega⟩ (fun _ => ?_) (fun c => absurd c (by omega))
    refine b_iconst hx hb dX5_rings_26 ?_
    refine lv_goto (tgt := 31) hx hb dX5_rings_27 (by decide) ?_
    refine lv_istore_n (lv' := [(2, .int (z2 (1))), (3, .int (z2 (2))), (0, .ref bm), (1, .int (z2 (((n : Nat) : Int))))]) hx hb dX5_rings_31 rfl hl (by decide) rfl (fun ls hl => ?_)
    refine b_iinc (lv' := [(3, .int (z2 (3))), (2, .int (z2 (1))), (0, .ref bm), (1, .int (z2 (((n : Nat) : Int))))]) hx hb dX5_rings_32 hl (k := 1) rfl (by decide) rfl (fun ls hl => ?_)
    refine lv_goto (tgt := 4) hx hb dX5_rings_35 (by decide) ?_
    refine lv_iload_n hx hb dX5_rings_4 rfl (lv_at hl 0 rfl) ?_
    refine b_iconst hx hb dX5_rings_5 ?_
    refine b_icmp_ge (tgt := 38) hx hb dX5_rings_6 (by decide) ⟨⟨by omega, by omega⟩, ⟨by omega, by omega⟩⟩ (fun _ => ?_) (fun c => absurd c (by omega))
    refine lv_iload_n hx hb dX5_rings_38 rfl (lv_at hl 1 rfl) ?_
    refine b_if_eq (tgt := 98) hx hb dX5_rings_39 (by decide) ⟨by omega, by omega⟩ (fun c => absurd c (by omega)) (fun _ => ?_)
    refine lv_aload_n hx hb dX5_rings_42 rfl (lv_at hl 2 rfl) ?_
    refine g_get (C := RX5) (T := TX5) (N := 23) hx hb hts inX5 hown hG hM.1 rfl 13 (by decide) (by decide +kernel) rfl (v := .ref (bm + 12)) rfl dX5_rings_43 ?_
    refine lv_iload_n hx hb dX5_rings_46 rfl (lv_at hl 3 rfl) ?_
    refine lv_dup2_11 hx hb dX5_rings_47 rfl rfl ?_
    refine g_iald (n := 8) hx hb hG (f := fun i => z2 (X 13 i)) (show ca D (bm + 12) (iA (ks 0) 8 (fun i => z2 (X 13 i))) _ from hM.2.1 13 (sr_of (by decide))) n ⟨by omega, by omega, by decide⟩ dX5_rings_48 ?_
    refine W.eq (g2 := F0 m 49 ls (.int (z2 (X 13 n)) :: [.int (z2 (((n : Nat) : Int))), .ref (bm + 12)])) rfl ?_
    refine b_iconst hx hb dX5_rings_49 ?_
    refine b_iadd hx hb dX5_rings_50 ?_
    refine g_iast (n := 8) hx hb hG hS (f := fun i => z2 (X 13 i)) (show ca D (bm + 12) (iA (ks 0) 8 (fun i => z2 (X 13 i))) _ from hM.2.1 13 (sr_of (by decide))) (Or.inl ⟨by omega, by omega⟩) n ⟨by omega, by omega, by decide⟩ dX5_rings_51 (fun H locs he hz oq hS => ?_)
    have hM : PM D ks bm (up X 13 n ((X 13 n) + 1)) H := hM.row (f := 13) (sr_of (by decide)) he oq
    refine lv_aload_n hx hb dX5_rings_52 rfl (lv_at hl 2 rfl) ?_
    refine g_get (C := RX5) (T := TX5) (N := 23) hx hb hts inX5 hown hG hM.1 rfl 14 (by decide) (by decide +kernel) rfl (v := .ref (bm + 13)) rfl dX5_rings_53 ?_
    refine lv_iload_n hx hb dX5_rings_56 rfl (lv_at hl 3 rfl) ?_
    refine lv_dup2_11 hx hb dX5_rings_57 rfl rfl ?_
    refine g_iald (n := 8) hx hb hG (f := fun i => z2 ((up X 13 n ((X 13 n) + 1)) 14 i)) (show ca D (bm + 13) (iA (ks 0) 8 (fun i => z2 ((up X 13 n ((X 13 n) + 1)) 14 i))) _ from hM.2.1 14 (sr_of (by decide))) n ⟨by omega, by omega, by decide⟩ dX5_rings_58 ?_
    refine W.eq (g2 := F0 m 59 ls (.int (z2 (X 14 n)) :: [.int (z2 (((n : Nat) : Int))), .ref (bm + 13)])) rfl ?_
    refine lv_aload_n hx hb dX5_rings_59 rfl (lv_at hl 2 rfl) ?_
    refine lv_iload_n hx hb dX5_rings_60 rfl (lv_at hl 3 rfl) ?_
    refine g_run (vx_runV (As := [.int (z2 (((n : Nat) : Int)))]) (rest := [.int (z2 (X 14 n)), .int (z2 (((n : Nat) : Int))), .ref (bm + 13)]) ⟨hx, hb, hml, hown, hts⟩ (m_isQuiet l D ks bx bm hbm (up X 13 n ((X 13 n) + 1)) _ hM (vs_uf hV (by decide)) (n := n) (((n : Nat) : Int)) ⟨by omega, by omega⟩) (cwV 1 hts gX5_rings_X5_isQuiet rfl rfl rfl (by decide +kernel) ⟨Nat.le_of_ble_eq_true rfl, Nat.le_of_ble_eq_true rfl⟩) (g_preV (r := (RX5, TX5, 23)) hG hS (rm_ge hbm) hM.1 rfl) rfl rfl hl.1 rfl (lv_room (Nat.le_of_ble_eq_true rfl)) dX5_rings_61 ⟨Nat.le_of_ble_eq_true rfl, Nat.le_of_ble_eq_true rfl⟩) hS (fun _ h => h) (fun _ _ _ _ _ h => h.elim) (fun v H1 locs hp hz9 hk9 hS => ?_)
    obtain ⟨rfl, hH9⟩ := hp
    obtain rfl := hH9.symm
    have qe_61 : qM (up X 13 n ((X 13 n) + 1)) n = qM X n := by unfold qM; simp [up]
    rw [qe_61]
    have qb_61 := qM_b X n
    refine W.eq (g2 := F0 m 64 ls [.int (z2 (qM X n)), .int (z2 (X 14 n)), .int (z2 (((n : Nat) : Int))), .ref (bm + 13)]) rfl ?_
    refine b_if_eq (tgt := 71) hx hb dX5_rings_64 (by decide) ⟨by omega, by omega⟩ (fun c_64 => ?_) (fun c_64 => ?_)
    · skip
      refine b_iconst hx hb dX5_rings_71 ?_
      refine b_iadd hx hb dX5_rings_72 ?_
      refine g_iast (n := 8) hx hb hG hS (f := fun i => z2 ((up X 13 n ((X 13 n) + 1)) 14 i)) (show ca D (bm + 13) (iA (ks 0) 8 (fun i => z2 ((up X 13 n ((X 13 n) + 1)) 14 i))) _ from hM.2.1 14 (sr_of (by decide))) (Or.inl ⟨by omega, by omega⟩) n ⟨by omega, by omega, by decide⟩ dX5_rings_73 (fun H locs he hz oq hS => ?_)
      have hM : PM D ks bm (up (up X 13 n ((X 13 n) + 1)) 14 n ((X 14 n) + 0)) H := hM.row (f := 14) (sr_of (by decide)) he oq
      refine lv_aload_n hx hb dX5_rings_74 rfl (lv_at hl 2 rfl) ?_
      refine g_get (C := RX5) (T := TX5) (N := 23) hx hb hts inX5 hown hG hM.1 rfl 16 (by decide) (by decide +kernel) rfl (v := .ref (bm + 15)) rfl dX5_rings_75 ?_
      refine lv_iload_n hx hb dX5_rings_78 rfl (lv_at hl 3 rfl) ?_
      refine lv_aload_n hx hb dX5_rings_79 rfl (lv_at hl 2 rfl) ?_
      refine lv_iload_n hx hb dX5_rings_80 rfl (lv_at hl 3 rfl) ?_
      refine g_run (vx_runV (As := [.int (z2 (((n : Nat) : Int)))]) (rest := [.int (z2 (((n : Nat) : Int))), .ref (bm + 15)]) ⟨hx, hb, hml, hown, hts⟩ (m_isQuiet l D ks bx bm hbm (up (up X 13 n ((X 13 n) + 1)) 14 n ((X 14 n) + 0)) _ hM (vs_uf (vs_uf hV (by decide)) (by decide)) (n := n) (((n : Nat) : Int)) ⟨by omega, by omega⟩) (cwV 1 hts gX5_rings_X5_isQuiet rfl rfl rfl (by decide +kernel) ⟨Nat.le_of_ble_eq_true rfl, Nat.le_of_ble_eq_true rfl⟩) (g_preV (r := (RX5, TX5, 23)) hG hS (rm_ge hbm) hM.1 rfl) rfl rfl hl.1 rfl (lv_room (Nat.le_of_ble_eq_true rfl)) dX5_rings_81 ⟨Nat.le_of_ble_eq_true rfl, Nat.le_of_ble_eq_true rfl⟩) hS (fun _ h => h) (fun _ _ _ _ _ h => h.elim) (fun v H1 locs hp hz9 hk9 hS => ?_)
      obtain ⟨rfl, hH9⟩ := hp
      obtain rfl := hH9.symm
      have qe_81 : qM (up (up X 13 n ((X 13 n) + 1)) 14 n ((X 14 n) + 0)) n = qM X n := by unfold qM; simp [up]
      rw [qe_81]
      have qb_81 := qM_b X n
      refine W.eq (g2 := F0 m 84 ls [.int (z2 (qM X n)), .int (z2 (((n : Nat) : Int))), .ref (bm + 15)]) rfl ?_
      refine b_if_eq (tgt := 91) hx hb dX5_rings_84 (by decide) ⟨by omega, by omega⟩ (fun c_84 => ?_) (fun c_84 => ?_)
      · skip
        refine lv_aload_n hx hb dX5_rings_91 rfl (lv_at hl 2 rfl) ?_
        refine g_get (C := RX5) (T := TX5) (N := 23) hx hb hts inX5 hown hG hM.1 rfl 16 (by decide) (by decide +kernel) rfl (v := .ref (bm + 15)) rfl dX5_rings_92 ?_
        refine lv_iload_n hx hb dX5_rings_95 rfl (lv_at hl 3 rfl) ?_
        have b_96 : 0 ≤ X 16 n ∧ X 16 n ≤ 1 := hV.1 16 _ (by decide) rfl
        refine g_iald (n := 8) hx hb hG (f := fun i => z2 ((up (up X 13 n ((X 13 n) + 1)) 14 n ((X 14 n) + 0)) 16 i)) (show ca D (bm + 15) (iA (ks 0) 8 (fun i => z2 ((up (up X 13 n ((X 13 n) + 1)) 14 n ((X 14 n) + 0)) 16 i))) _ from hM.2.1 16 (sr_of (by decide))) n ⟨by omega, by omega, by decide⟩ dX5_rings_96 ?_
        refine W.eq (g2 := F0 m 97 ls (.int (z2 (X 16 n)) :: [.int (z2 (((n : Nat) : Int))), .ref (bm + 15)])) rfl ?_
        refine g_iast (n := 8) hx hb hG hS (f := fun i => z2 ((up (up X 13 n ((X 13 n) + 1)) 14 n ((X 14 n) + 0)) 16 i)) (show ca D (bm + 15) (iA (ks 0) 8 (fun i => z2 ((up (up X 13 n ((X 13 n) + 1)) 14 n ((X 14 n) + 0)) 16 i))) _ from hM.2.1 16 (sr_of (by decide))) (Or.inl ⟨by omega, by omega⟩) n ⟨by omega, by omega, by decide⟩ dX5_rings_97 (fun H locs he hz oq hS => ?_)
        have hM : PM D ks bm (up (up (up X 13 n ((X 13 n) + 1)) 14 n ((X 14 n) + 0)) 16 n (X 16 n)) H := hM.row (f := 16) (sr_of (by decide)) he oq
        have q9 : qM X n = 0 := by omega
        have e8 := rg3_e X n
        rw [q9] at e8
        have e9 : rgS X n = up (up (up X 13 n ((X 13 n) + 1)) 14 n ((X 14 n) + 0)) 16 n (X 16 n) := (if_pos (by unfold anyM; omega)).trans (e8.trans (by rfl))
        exact g_vret hx hb hr hlocks hS ⟨Nat.le_of_ble_eq_true rfl, Nat.le_of_ble_eq_true rfl⟩ (⟨rfl, by rw [e9]; exact hM⟩) dX5_rings_98
      · skip
        refine b_iconst hx hb dX5_rings_87 ?_
        refine lv_goto (tgt := 97) hx hb dX5_rings_88 (by decide) ?_
        refine g_iast (n := 8) hx hb hG hS (f := fun i => z2 ((up (up X 13 n ((X 13 n) + 1)) 14 n ((X 14 n) + 0)) 16 i)) (show ca D (bm + 15) (iA (ks 0) 8 (fun i => z2 ((up (up X 13 n ((X 13 n) + 1)) 14 n ((X 14 n) + 0)) 16 i))) _ from hM.2.1 16 (sr_of (by decide))) (Or.inl ⟨by omega, by omega⟩) n ⟨by omega, by omega, by decide⟩ dX5_rings_97 (fun H locs he hz oq hS => ?_)
        have hM : PM D ks bm (up (up (up X 13 n ((X 13 n) + 1)) 14 n ((X 14 n) + 0)) 16 n (1)) H := hM.row (f := 16) (sr_of (by decide)) he oq
        exact g_vret hx hb hr hlocks hS ⟨Nat.le_of_ble_eq_true rfl, Nat.le_of_ble_eq_true rfl⟩ ((show False by omega).elim) dX5_rings_98
    · skip
      refine b_iconst hx hb dX5_rings_67 ?_
      refine lv_goto (tgt := 72) hx hb dX5_rings_68 (by decide) ?_
      refine b_iadd hx hb dX5_rings_72 ?_
      refine g_iast (n := 8) hx hb hG hS (f := fun i => z2 ((up X 13 n ((X 13 n) + 1)) 14 i)) (show ca D (bm + 13) (iA (ks 0) 8 (fun i => z2 ((up X 13 n ((X 13 n) + 1)) 14 i))) _ from hM.2.1 14 (sr_of (by decide))) (Or.inl ⟨by omega, by omega⟩) n ⟨by omega, by omega, by decide⟩ dX5_rings_73 (fun H locs he hz oq hS => ?_)
      have hM : PM D ks bm (up (up X 13 n ((X 13 n) + 1)) 14 n ((X 14 n) + 1)) H := hM.row (f := 14) (sr_of (by decide)) he oq
      refine lv_aload_n hx hb dX5_rings_74 rfl (lv_at hl 2 rfl) ?_
      refine g_get (C := RX5) (T := TX5) (N := 23) hx hb hts inX5 hown hG hM.1 rfl 16 (by decide) (by decide +kernel) rfl (v := .ref (bm + 15)) rfl dX5_rings_75 ?_
      refine lv_iload_n hx hb dX5_rings_78 rfl (lv_at hl 3 rfl) ?_
      refine lv_aload_n hx hb dX5_rings_79 rfl (lv_at hl 2 rfl) ?_
      refine lv_iload_n hx hb dX5_rings_80 rfl (lv_at hl 3 rfl) ?_
      refine g_run (vx_runV (As := [.int (z2 (((n : Nat) : Int)))]) (rest := [.int (z2 (((n : Nat) : Int))), .ref (bm + 15)]) ⟨hx, hb, hml, hown, hts⟩ (m_isQuiet l D ks bx bm hbm (up (up X 13 n ((X 13 n) + 1)) 14 n ((X 14 n) + 1)) _ hM (vs_uf (vs_uf hV (by decide)) (by decide)) (n := n) (((n : Nat) : Int)) ⟨by omega, by omega⟩) (cwV 1 hts gX5_rings_X5_isQuiet rfl rfl rfl (by decide +kernel) ⟨Nat.le_of_ble_eq_true rfl, Nat.le_of_ble_eq_true rfl⟩) (g_preV (r := (RX5, TX5, 23)) hG hS (rm_ge hbm) hM.1 rfl) rfl rfl hl.1 rfl (lv_room (Nat.le_of_ble_eq_true rfl)) dX5_rings_81 ⟨Nat.le_of_ble_eq_true rfl, Nat.le_of_ble_eq_true rfl⟩) hS (fun _ h => h) (fun _ _ _ _ _ h => h.elim) (fun v H1 locs hp hz9 hk9 hS => ?_)
      obtain ⟨rfl, hH9⟩ := hp
      obtain rfl := hH9.symm
      have qe_81 : qM (up (up X 13 n ((X 13 n) + 1)) 14 n ((X 14 n) + 1)) n = qM X n := by unfold qM; simp [up]
      rw [qe_81]
      have qb_81 := qM_b X n
      refine W.eq (g2 := F0 m 84 ls [.int (z2 (qM X n)), .int (z2 (((n : Nat) : Int))), .ref (bm + 15)]) rfl ?_
      refine b_if_eq (tgt := 91) hx hb dX5_rings_84 (by decide) ⟨by omega, by omega⟩ (fun c_84 => ?_) (fun c_84 => ?_)
      · skip
        refine lv_aload_n hx hb dX5_rings_91 rfl (lv_at hl 2 rfl) ?_
        refine g_get (C := RX5) (T := TX5) (N := 23) hx hb hts inX5 hown hG hM.1 rfl 16 (by decide) (by decide +kernel) rfl (v := .ref (bm + 15)) rfl dX5_rings_92 ?_
        refine lv_iload_n hx hb dX5_rings_95 rfl (lv_at hl 3 rfl) ?_
        have b_96 : 0 ≤ X 16 n ∧ X 16 n ≤ 1 := hV.1 16 _ (by decide) rfl
        refine g_iald (n := 8) hx hb hG (f := fun i => z2 ((up (up X 13 n ((X 13 n) + 1)) 14 n ((X 14 n) + 1)) 16 i)) (show ca D (bm + 15) (iA (ks 0) 8 (fun i => z2 ((up (up X 13 n ((X 13 n) + 1)) 14 n ((X 14 n) + 1)) 16 i))) _ from hM.2.1 16 (sr_of (by decide))) n ⟨by omega, by omega, by decide⟩ dX5_rings_96 ?_
        refine W.eq (g2 := F0 m 97 ls (.int (z2 (X 16 n)) :: [.int (z2 (((n : Nat) : Int))), .ref (bm + 15)])) rfl ?_
        refine g_iast (n := 8) hx hb hG hS (f := fun i => z2 ((up (up X 13 n ((X 13 n) + 1)) 14 n ((X 14 n) + 1)) 16 i)) (show ca D (bm + 15) (iA (ks 0) 8 (fun i => z2 ((up (up X 13 n ((X 13 n) + 1)) 14 n ((X 14 n) + 1)) 16 i))) _ from hM.2.1 16 (sr_of (by decide))) (Or.inl ⟨by omega, by omega⟩) n ⟨by omega, by omega, by decide⟩ dX5_rings_97 (fun H locs he hz oq hS => ?_)
        have hM : PM D ks bm (up (up (up X 13 n ((X 13 n) + 1)) 14 n ((X 14 n) + 1)) 16 n (X 16 n)) H := hM.row (f := 16) (sr_of (by decide)) he oq
        exact g_vret hx hb hr hlocks hS ⟨Nat.le_of_ble_eq_true rfl, Nat.le_of_ble_eq_true rfl⟩ ((show False by omega).elim) dX5_rings_98
      · skip
        refine b_iconst hx hb dX5_rings_87 ?_
        refine lv_goto (tgt := 97) hx hb dX5_rings_88 (by decide) ?_
        refine g_iast (n := 8) hx hb hG hS (f := fun i => z2 ((up (up X 13 n ((X 13 n) + 1)) 14 n ((X 14 n) + 1)) 16 i)) (show ca D (bm + 15) (iA (ks 0) 8 (fun i => z2 ((up (up X 13 n ((X 13 n) + 1)) 14 n ((X 14 n) + 1)) 16 i))) _ from hM.2.1 16 (sr_of (by decide))) (Or.inl ⟨by omega, by omega⟩) n ⟨by omega, by omega, by decide⟩ dX5_rings_97 (fun H locs he hz oq hS => ?_)
        have hM : PM D ks bm (up (up (up X 13 n ((X 13 n) + 1)) 14 n ((X 14 n) + 1)) 16 n (1)) H := hM.row (f := 16) (sr_of (by decide)) he oq
        have q9 : qM X n = 1 := by omega
        have e8 := rg3_e X n
        rw [q9] at e8
        have e9 : rgS X n = up (up (up X 13 n ((X 13 n) + 1)) 14 n ((X 14 n) + 1)) 16 n (1) := (if_pos (by unfold anyM; omega)).trans (e8.trans (by rfl))
        exact g_vret hx hb hr hlocks hS ⟨Nat.le_of_ble_eq_true rfl, Nat.le_of_ble_eq_true rfl⟩ (⟨rfl, by rw [e9]; exact hM⟩) dX5_rings_98
set_option maxHeartbeats 4000000 in
set_option maxRecDepth 100000 in
theorem m_second (l : Launch) (D : va_G) (ks : Nat → ClassId) (bx : Nat) (bm : Nat) (hbm : bx ≤ bm) (X : Nat → Nat → Int) (H : Heap) (hM : PM D ks bm X H) (hV : VS X) (h6 : X 0 0 < 1000000) : KM l yX5_second wsX5_second ({ frames := 2, cells := 0, slots := 0, locals := 45 } : Room) D ks bx [.ref bm] H (RM bm) (fun v H1 => v = none ∧ PM D ks bm (secS X) H1) (fun _ _ => False) := by
  refine KM.of (cc := cX5_second) (maxL := 2) (ret := none) (by decide) rfl (Nat.le_of_ble_eq_true rfl) ?_
  intro p e s m below meth c hx hb hml hr hlocks hown hname hts hext hH0 hG ls hl
  subst hH0
  have hown : s.vm.findClass RX5 = some m.cls := hown
  have hS : va_S (AR (RM bm) s.heap.size) s.heap s.heap [] := va_S.rf
  have hl : lv_has ls 2 [(0, .ref bm)] := hl
  have inX5 : ∀ w ∈ wsX50, w ∈ wsX5_second := by decide +kernel
  have hV0 := hV
  refine b_iconst hx hb dX5_second_0 ?_
  refine lv_istore_n (lv' := [(1, .int (z2 (0))), (0, .ref bm)]) hx hb dX5_second_1 rfl hl (by decide) rfl (fun ls hl => ?_)
  refine lp_ms (σ := Nat) (fun j H locs ls => j ≤ 8 ∧ PM D ks bm (sc1 X j) H ∧ va_S (AR (RM bm) s.heap.size) s.heap H locs ∧ lv_has ls 2 [(0, .ref bm), (1, .int (z2 (((j : Nat) : Int))))]) (fun j => 8 - j) (fun j H locs ls hI ih => ?_) 0 ⟨by omega, hM, hS, lv_sub hl [1, 0] rfl⟩
  obtain ⟨hkN, hM, hS, hl⟩ := hI
  have hV := vs_s1 hV0 j
  refine lv_iload_n hx hb dX5_second_2 rfl (lv_at hl 1 rfl) ?_
  refine b_bipush hx hb dX5_second_3 (by decide +kernel) ?_
  refine b_icmp_ge (tgt := 19) hx hb dX5_second_5 (by decide) ⟨⟨by omega, by omega⟩, ⟨by omega, by omega⟩⟩ (fun c_5 => ?_) (fun c_5 => ?_)
  · skip
    obtain rfl : j = 8 := by omega
    have f1 : sc1 X 8 0 0 = X 0 0 := s1_f X 0 (by decide) 8
    refine lv_aload_n hx hb dX5_second_19 rfl (lv_at hl 0 rfl) ?_
    refine lv_dup hx hb dX5_second_20 rfl ?_
    have b_21 : 0 ≤ ((sc1 X 8)) 0 0 ∧ ((sc1 X 8)) 0 0 ≤ 1000000 := hV.1 0 _ (by decide) rfl
    refine g_get (C := RX5) (T := TX5) (N := 23) hx hb hts inX5 hown hG hM.1 rfl 0 (by decide) (by decide +kernel) rfl (v := .int (z2 (((sc1 X 8)) 0 0))) rfl dX5_second_21 ?_
    refine b_iconst hx hb dX5_second_24 ?_
    refine b_iadd hx hb dX5_second_25 ?_
    refine g_put (C := RX5) (T := TX5) (N := 23) hx hb hts inX5 tyX5 tyX5_ok nmX5 hown hG hS hM.1 (Or.inl ⟨by omega, by omega⟩) rfl 0 (by decide) (by decide +kernel) rfl rfl (v := .int (z2 ((((sc1 X 8)) 0 0) + 1))) rfl rfl (Nat.le_of_ble_eq_true rfl) dX5_second_26 (fun H locs he hz oq hS => ?_)
    have hM : PM D ks bm (up ((sc1 X 8)) 0 0 ((((sc1 X 8)) 0 0) + 1)) H := hM.own (k := 0) (by decide) he oq
    have hM : PM D ks bm (secA X) _ := hM
    have hVA := vs_secA hV0 h6
    refine b_iconst hx hb dX5_second_29 ?_
    refine lv_istore_n (lv' := [(1, .int (z2 (0))), (0, .ref bm)]) hx hb dX5_second_30 rfl hl (by decide) rfl (fun ls hl => ?_)
    refine lp_ms (σ := Nat) (fun o H locs ls => o ≤ 24 ∧ PM D ks bm (sc2 (secA X) o) H ∧ va_S (AR (RM bm) s.heap.size) s.heap H locs ∧ lv_has ls 2 [(0, .ref bm), (1, .int (z2 (((o : Nat) : Int))))]) (fun o => 24 - o) (fun o H locs ls hI ih => ?_) 0 ⟨by omega, hM, hS, lv_sub hl [1, 0] rfl⟩
    obtain ⟨hkN, hM, hS, hl⟩ := hI
    have hV := vs_s2 hVA o
    refine lv_iload_n hx hb dX5_second_31 rfl (lv_at hl 1 rfl) ?_
    refine b_bipush hx hb dX5_second_32 (by decide +kernel) ?_
    refine b_icmp_ge (tgt := 72) hx hb dX5_second_34 (by decide) ⟨⟨by omega, by omega⟩, ⟨by omega, by omega⟩⟩ (fun c_34 => ?_) (fun c_34 => ?_)
    · skip
      obtain rfl : o = 24 := by omega
      have hVE := hV
      refine b_iconst hx hb dX5_second_72 ?_
      refine lv_istore_n (lv' := [(1, .int (z2 (0))), (0, .ref bm)]) hx hb dX5_second_73 rfl hl (by decide) rfl (fun ls hl => ?_)
      refine lp_ms (σ := Nat) (fun b H locs ls => b ≤ 2 ∧ PM D ks bm (sc3 (sc2 (secA X) 24) b) H ∧ va_S (AR (RM bm) s.heap.size) s.heap H locs ∧ lv_has ls 2 [(0, .ref bm), (1, .int (z2 (((b : Nat) : Int))))]) (fun b => 2 - b) (fun b H locs ls hI ih => ?_) 0 ⟨by omega, hM, hS, lv_sub hl [1, 0] rfl⟩
      obtain ⟨hkN, hM, hS, hl⟩ := hI
      have hV := vs_s3 hVE b
      refine lv_iload_n hx hb dX5_second_74 rfl (lv_at hl 1 rfl) ?_
      refine b_iconst hx hb dX5_second_75 ?_
      refine b_icmp_ge (tgt := 117) hx hb dX5_second_76 (by decide) ⟨⟨by omega, by omega⟩, ⟨by omega, by omega⟩⟩ (fun c_76 => ?_) (fun c_76 => ?_)
      · skip
        obtain rfl : b = 2 := by omega
        have hVB : VS (secB X) := hV
        have hM : PM D ks bm (secB X) _ := hM
        have hV := hVB
        refine b_iconst hx hb dX5_second_117 ?_
        refine lv_istore_n (lv' := [(1, .int (z2 (0))), (0, .ref bm)]) hx hb dX5_second_118 rfl hl (by decide) rfl (fun ls hl => ?_)
        refine lp_ms (σ := Nat) (fun n H locs ls => n ≤ 8 ∧ (n = 0 ∨ secB X 0 0 % 1000 = 0) ∧ PM D ks bm (sc4 (secB X) n) H ∧ va_S (AR (RM bm) s.heap.size) s.heap H locs ∧ lv_has ls 2 [(0, .ref bm), (1, .int (z2 (((n : Nat) : Int))))]) (fun n => 8 - n) (fun n H locs ls hI ih => ?_) 0 ⟨by omega, Or.inl rfl, hM, hS, lv_sub hl [1, 0] rfl⟩
        obtain ⟨hkN, hz0, hM, hS, hl⟩ := hI
        have hV := vs_s4 hVB n
        have f0 := s4_f (secB X) 0 (f := 0) (by decide) n
        refine lv_iload_n hx hb dX5_second_119 rfl (lv_at hl 1 rfl) ?_
        refine b_bipush hx hb dX5_second_120 (by decide +kernel) ?_
        refine b_icmp_ge (tgt := 182) hx hb dX5_second_122 (by decide) ⟨⟨by omega, by omega⟩, ⟨by omega, by omega⟩⟩ (fun c_122 => ?_) (fun c_122 => ?_)
        · skip
          have e9 : secS X = sc4 (secB X) n := by
            by_cases hz9 : secB X 0 0 % 1000 = 0
            · obtain rfl : n = 8 := by omega
              exact if_pos hz9
            · obtain rfl : n = 0 := by omega
              exact if_neg hz9
          exact g_vret hx hb hr hlocks hS ⟨Nat.le_of_ble_eq_true rfl, Nat.le_of_ble_eq_true rfl⟩ (⟨rfl, by rw [e9]; exact hM⟩) dX5_second_182
        · skip
          refine lv_aload_n hx hb dX5_second_125 rfl (lv_at hl 0 rfl) ?_
          have b_126 : 0 ≤ ((sc4 (secB X) n)) 0 0 ∧ ((sc4 (secB X) n)) 0 0 ≤ 1000000 := hV.1 0 _ (by decide) rfl
          refine g_get (C := RX5) (T := TX5) (N := 23) hx hb hts inX5 hown hG hM.1 rfl 0 (by decide) (by decide +kernel) rfl (v := .int (z2 (((sc4 (secB X) n)) 0 0))) rfl dX5_second_126 ?_
          refine b_sipush hx hb dX5_second_129 (by decide +kernel) ?_
          refine b_irem hx hb ⟨⟨by omega, by omega⟩, by decide, by decide⟩ dX5_second_132 ?_
          refine b_if_ne (tgt := 182) hx hb dX5_second_133 (by decide) ⟨by omega, by omega⟩ (fun c_133 => ?_) (fun c_133 => ?_)
          · skip
            have e9 : secS X = sc4 (secB X) n := by
              by_cases hz9 : secB X 0 0 % 1000 = 0
              · obtain rfl : n = 8 := by omega
                exact if_pos hz9
              · obtain rfl : n = 0 := by omega
                exact if_neg hz9
            exact g_vret hx hb hr hlocks hS ⟨Nat.le_of_ble_eq_true rfl, Nat.le_of_ble_eq_true rfl⟩ (⟨rfl, by rw [e9]; exact hM⟩) dX5_second_182
          · skip
            refine lv_aload_n hx hb dX5_second_136 rfl (lv_at hl 0 rfl) ?_
            refine g_get (C := RX5) (T := TX5) (N := 23) hx hb hts inX5 hown hG hM.1 rfl 12 (by decide) (by decide +kernel) rfl (v := .ref (bm + 11)) rfl dX5_second_137 ?_
            refine lv_iload_n hx hb dX5_second_140 rfl (lv_at hl 1 rfl) ?_
            refine lv_dup2_11 hx hb dX5_second_141 rfl rfl ?_
            refine g_iald (n := 8) hx hb hG (f := fun i => z2 ((sc4 (secB X) n) 12 i)) (show ca D (bm + 11) (iA (ks 0) 8 (fun i => z2 ((sc4 (secB X) n) 12 i))) _ from hM.2.1 12 (sr_of (by decide))) n ⟨by omega, by omega, by decide⟩ dX5_second_142 ?_
            refine W.eq (g2 := F0 m 143 ls (.int (z2 (((sc4 (secB X) n)) 12 n)) :: [.int (z2 (((n : Nat) : Int))), .ref (bm + 11)])) rfl ?_
            refine b_iconst hx hb dX5_second_143 ?_
            refine lv_aload_n hx hb dX5_second_144 rfl (lv_at hl 0 rfl) ?_
            refine g_get (C := RX5) (T := TX5) (N := 23) hx hb hts inX5 hown hG hM.1 rfl 16 (by decide) (by decide +kernel) rfl (v := .ref (bm + 15)) rfl dX5_second_145 ?_
            refine lv_iload_n hx hb dX5_second_148 rfl (lv_at hl 1 rfl) ?_
            have b_149 : 0 ≤ ((sc4 (secB X) n)) 16 n ∧ ((sc4 (secB X) n)) 16 n ≤ 1 := hV.1 16 _ (by decide) rfl
            refine g_iald (n := 8) hx hb hG (f := fun i => z2 ((sc4 (secB X) n) 16 i)) (show ca D (bm + 15) (iA (ks 0) 8 (fun i => z2 ((sc4 (secB X) n) 16 i))) _ from hM.2.1 16 (sr_of (by decide))) n ⟨by omega, by omega, by decide⟩ dX5_second_149 ?_
            refine W.eq (g2 := F0 m 150 ls (.int (z2 (((sc4 (secB X) n)) 16 n)) :: [.int (z2 (1)), .int (z2 (((sc4 (secB X) n)) 12 n)), .int (z2 (((n : Nat) : Int))), .ref (bm + 11)])) rfl ?_
            refine b_isub hx hb dX5_second_150 ?_
            refine b_iconst hx hb dX5_second_151 ?_
            refine lv_aload_n hx hb dX5_second_152 rfl (lv_at hl 0 rfl) ?_
            refine g_get (C := RX5) (T := TX5) (N := 23) hx hb hts inX5 hown hG hM.1 rfl 17 (by decide) (by decide +kernel) rfl (v := .ref (bm + 16)) rfl dX5_second_153 ?_
            refine lv_iload_n hx hb dX5_second_156 rfl (lv_at hl 1 rfl) ?_
            refine g_iald (n := 8) hx hb hG (f := fun i => z2 ((sc4 (secB X) n) 17 i)) (show ca D (bm + 16) (iA (ks 0) 8 (fun i => z2 ((sc4 (secB X) n) 17 i))) _ from hM.2.1 17 (sr_of (by decide))) n ⟨by omega, by omega, by decide⟩ dX5_second_157 ?_
            refine W.eq (g2 := F0 m 158 ls (.int (z2 (((sc4 (secB X) n)) 17 n)) :: [.int (z2 (3)), .int (z2 (1 - (((sc4 (secB X) n)) 16 n))), .int (z2 (((sc4 (secB X) n)) 12 n)), .int (z2 (((n : Nat) : Int))), .ref (bm + 11)])) rfl ?_
            refine b_imul hx hb dX5_second_158 ?_
            refine b_isub hx hb dX5_second_159 ?_
            refine b_iadd hx hb dX5_second_160 ?_
            refine g_iast (n := 8) hx hb hG hS (f := fun i => z2 ((sc4 (secB X) n) 12 i)) (show ca D (bm + 11) (iA (ks 0) 8 (fun i => z2 ((sc4 (secB X) n) 12 i))) _ from hM.2.1 12 (sr_of (by decide))) (Or.inl ⟨by omega, by omega⟩) n ⟨by omega, by omega, by decide⟩ dX5_second_161 (fun H locs he hz oq hS => ?_)
            have hM : PM D ks bm (up ((sc4 (secB X) n)) 12 n ((((sc4 (secB X) n)) 12 n) + ((1 - (((sc4 (secB X) n)) 16 n)) - (3 * (((sc4 (secB X) n)) 17 n))))) H := hM.row (f := 12) (sr_of (by decide)) he oq
            refine lv_aload_n hx hb dX5_second_162 rfl (lv_at hl 0 rfl) ?_
            refine g_get (C := RX5) (T := TX5) (N := 23) hx hb hts inX5 hown hG hM.1 rfl 16 (by decide) (by decide +kernel) rfl (v := .ref (bm + 15)) rfl dX5_second_163 ?_
            refine lv_iload_n hx hb dX5_second_166 rfl (lv_at hl 1 rfl) ?_
            refine b_iconst hx hb dX5_second_167 ?_
            refine g_iast (n := 8) hx hb hG hS (f := fun i => z2 ((up ((sc4 (secB X) n)) 12 n ((((sc4 (secB X) n)) 12 n) + ((1 - (((sc4 (secB X) n)) 16 n)) - (3 * (((sc4 (secB X) n)) 17 n))))) 16 i)) (show ca D (bm + 15) (iA (ks 0) 8 (fun i => z2 ((up ((sc4 (secB X) n)) 12 n ((((sc4 (secB X) n)) 12 n) + ((1 - (((sc4 (secB X) n)) 16 n)) - (3 * (((sc4 (secB X) n)) 17 n))))) 16 i))) _ from hM.2.1 16 (sr_of (by decide))) (Or.inl ⟨by omega, by omega⟩) n ⟨by omega, by omega, by decide⟩ dX5_second_168 (fun H locs he hz oq hS => ?_)
            have hM : PM D ks bm (up (up ((sc4 (secB X) n)) 12 n ((((sc4 (secB X) n)) 12 n) + ((1 - (((sc4 (secB X) n)) 16 n)) - (3 * (((sc4 (secB X) n)) 17 n))))) 16 n (0)) H := hM.row (f := 16) (sr_of (by decide)) he oq
            refine lv_aload_n hx hb dX5_second_169 rfl (lv_at hl 0 rfl) ?_
            refine g_get (C := RX5) (T := TX5) (N := 23) hx hb hts inX5 hown hG hM.1 rfl 17 (by decide) (by decide +kernel) rfl (v := .ref (bm + 16)) rfl dX5_second_170 ?_
            refine lv_iload_n hx hb dX5_second_173 rfl (lv_at hl 1 rfl) ?_
            refine b_iconst hx hb dX5_second_174 ?_
            refine g_iast (n := 8) hx hb hG hS (f := fun i => z2 ((up (up ((sc4 (secB X) n)) 12 n ((((sc4 (secB X) n)) 12 n) + ((1 - (((sc4 (secB X) n)) 16 n)) - (3 * (((sc4 (secB X) n)) 17 n))))) 16 n (0)) 17 i)) (show ca D (bm + 16) (iA (ks 0) 8 (fun i => z2 ((up (up ((sc4 (secB X) n)) 12 n ((((sc4 (secB X) n)) 12 n) + ((1 - (((sc4 (secB X) n)) 16 n)) - (3 * (((sc4 (secB X) n)) 17 n))))) 16 n (0)) 17 i))) _ from hM.2.1 17 (sr_of (by decide))) (Or.inl ⟨by omega, by omega⟩) n ⟨by omega, by omega, by decide⟩ dX5_second_175 (fun H locs he hz oq hS => ?_)
            have hM : PM D ks bm (up (up (up ((sc4 (secB X) n)) 12 n ((((sc4 (secB X) n)) 12 n) + ((1 - (((sc4 (secB X) n)) 16 n)) - (3 * (((sc4 (secB X) n)) 17 n))))) 16 n (0)) 17 n (0)) H := hM.row (f := 17) (sr_of (by decide)) he oq
            refine b_iinc (lv' := [(1, .int (z2 (((n : Nat) : Int) + 1))), (0, .ref bm)]) hx hb dX5_second_176 hl (k := 1) rfl (by decide) rfl (fun ls hl => ?_)
            refine lv_goto (tgt := 119) hx hb dX5_second_179 (by decide) ?_
            exact ih (n + 1) _ _ _ (by omega) ⟨by omega, Or.inr (by omega), hM, hS, lv_sub hl [1, 0] rfl⟩
      · skip
        refine lv_aload_n hx hb dX5_second_79 rfl (lv_at hl 0 rfl) ?_
        refine g_get (C := RX5) (T := TX5) (N := 23) hx hb hts inX5 hown hG hM.1 rfl 18 (by decide) (by decide +kernel) rfl (v := .ref (bm + 17)) rfl dX5_second_80 ?_
        refine lv_iload_n hx hb dX5_second_83 rfl (lv_at hl 1 rfl) ?_
        have b_84 : 0 ≤ ((sc3 (sc2 (secA X) 24) b)) 18 b ∧ ((sc3 (sc2 (secA X) 24) b)) 18 b ≤ 1000050 := hV.1 18 _ (by decide) rfl
        refine g_iald (n := 2) hx hb hG (f := fun i => z2 ((sc3 (sc2 (secA X) 24) b) 18 i)) (show ca D (bm + 17) (iA (ks 0) 2 (fun i => z2 ((sc3 (sc2 (secA X) 24) b) 18 i))) _ from hM.2.1 18 (sr_of (by decide))) b ⟨by omega, by omega, by decide⟩ dX5_second_84 ?_
        refine W.eq (g2 := F0 m 85 ls (.int (z2 (((sc3 (sc2 (secA X) 24) b)) 18 b)) :: [])) rfl ?_
        refine lv_aload_n hx hb dX5_second_85 rfl (lv_at hl 0 rfl) ?_
        have b_86 : 0 ≤ ((sc3 (sc2 (secA X) 24) b)) 0 0 ∧ ((sc3 (sc2 (secA X) 24) b)) 0 0 ≤ 1000000 := hV.1 0 _ (by decide) rfl
        refine g_get (C := RX5) (T := TX5) (N := 23) hx hb hts inX5 hown hG hM.1 rfl 0 (by decide) (by decide +kernel) rfl (v := .int (z2 (((sc3 (sc2 (secA X) 24) b)) 0 0))) rfl dX5_second_86 ?_
        refine b_icmp_ne (tgt := 111) hx hb dX5_second_89 (by decide) ⟨⟨by omega, by omega⟩, ⟨by omega, by omega⟩⟩ (fun c_89 => ?_) (fun c_89 => ?_)
        · skip
          refine b_iinc (lv' := [(1, .int (z2 (((b : Nat) : Int) + 1))), (0, .ref bm)]) hx hb dX5_second_111 hl (k := 1) rfl (by decide) rfl (fun ls hl => ?_)
          refine lv_goto (tgt := 74) hx hb dX5_second_114 (by decide) ?_
          have e2 : cr1 (sc3 (sc2 (secA X) 24) b) b = (sc3 (sc2 (secA X) 24) b) := by unfold cr1; first | rw [if_pos (by omega)] | rw [if_neg (by omega)]
          exact ih (b + 1) _ _ _ (by omega) ⟨by omega, (by show PM D ks bm (cr1 (sc3 (sc2 (secA X) 24) b) b) _; rw [e2]; exact hM), hS, lv_sub hl [1, 0] rfl⟩
        · skip
          refine lv_aload_n hx hb dX5_second_92 rfl (lv_at hl 0 rfl) ?_
          refine g_get (C := RX5) (T := TX5) (N := 23) hx hb hts inX5 hown hG hM.1 rfl 11 (by decide) (by decide +kernel) rfl (v := .ref (bm + 10)) rfl dX5_second_93 ?_
          refine lv_aload_n hx hb dX5_second_96 rfl (lv_at hl 0 rfl) ?_
          refine g_get (C := RX5) (T := TX5) (N := 23) hx hb hts inX5 hown hG hM.1 rfl 19 (by decide) (by decide +kernel) rfl (v := .ref (bm + 18)) rfl dX5_second_97 ?_
          refine lv_iload_n hx hb dX5_second_100 rfl (lv_at hl 1 rfl) ?_
          have b_101 : 0 ≤ ((sc3 (sc2 (secA X) 24) b)) 19 b ∧ ((sc3 (sc2 (secA X) 24) b)) 19 b ≤ 7 := hV.1 19 _ (by decide) rfl
          refine g_iald (n := 2) hx hb hG (f := fun i => z2 ((sc3 (sc2 (secA X) 24) b) 19 i)) (show ca D (bm + 18) (iA (ks 0) 2 (fun i => z2 ((sc3 (sc2 (secA X) 24) b) 19 i))) _ from hM.2.1 19 (sr_of (by decide))) b ⟨by omega, by omega, by decide⟩ dX5_second_101 ?_
          refine W.eq (g2 := F0 m 102 ls (.int (z2 (((sc3 (sc2 (secA X) 24) b)) 19 b)) :: [.ref (bm + 10)])) rfl ?_
          refine b_iconst hx hb dX5_second_102 ?_
          refine g_iast (n := 8) hx hb hG hS (f := fun i => z2 ((sc3 (sc2 (secA X) 24) b) 11 i)) (show ca D (bm + 10) (iA (ks 0) 8 (fun i => z2 ((sc3 (sc2 (secA X) 24) b) 11 i))) _ from hM.2.1 11 (sr_of (by decide))) (Or.inl ⟨by omega, by omega⟩) ((((sc3 (sc2 (secA X) 24) b)) 19 b).toNat) ⟨by omega, by omega, by decide⟩ dX5_second_103 (fun H locs he hz oq hS => ?_)
          have hM : PM D ks bm (up ((sc3 (sc2 (secA X) 24) b)) 11 ((((sc3 (sc2 (secA X) 24) b)) 19 b).toNat) (0)) H := hM.row (f := 11) (sr_of (by decide)) he oq
          refine lv_aload_n hx hb dX5_second_104 rfl (lv_at hl 0 rfl) ?_
          refine g_get (C := RX5) (T := TX5) (N := 23) hx hb hts inX5 hown hG hM.1 rfl 18 (by decide) (by decide +kernel) rfl (v := .ref (bm + 17)) rfl dX5_second_105 ?_
          refine lv_iload_n hx hb dX5_second_108 rfl (lv_at hl 1 rfl) ?_
          refine b_iconst hx hb dX5_second_109 ?_
          refine g_iast (n := 2) hx hb hG hS (f := fun i => z2 ((up ((sc3 (sc2 (secA X) 24) b)) 11 ((((sc3 (sc2 (secA X) 24) b)) 19 b).toNat) (0)) 18 i)) (show ca D (bm + 17) (iA (ks 0) 2 (fun i => z2 ((up ((sc3 (sc2 (secA X) 24) b)) 11 ((((sc3 (sc2 (secA X) 24) b)) 19 b).toNat) (0)) 18 i))) _ from hM.2.1 18 (sr_of (by decide))) (Or.inl ⟨by omega, by omega⟩) b ⟨by omega, by omega, by decide⟩ dX5_second_110 (fun H locs he hz oq hS => ?_)
          have hM : PM D ks bm (up (up ((sc3 (sc2 (secA X) 24) b)) 11 ((((sc3 (sc2 (secA X) 24) b)) 19 b).toNat) (0)) 18 b (0)) H := hM.row (f := 18) (sr_of (by decide)) he oq
          refine b_iinc (lv' := [(1, .int (z2 (((b : Nat) : Int) + 1))), (0, .ref bm)]) hx hb dX5_second_111 hl (k := 1) rfl (by decide) rfl (fun ls hl => ?_)
          refine lv_goto (tgt := 74) hx hb dX5_second_114 (by decide) ?_
          have e2 : cr1 (sc3 (sc2 (secA X) 24) b) b = up (up ((sc3 (sc2 (secA X) 24) b)) 11 ((((sc3 (sc2 (secA X) 24) b)) 19 b).toNat) (0)) 18 b (0) := by unfold cr1; first | rw [if_pos (by omega)] | rw [if_neg (by omega)]
          exact ih (b + 1) _ _ _ (by omega) ⟨by omega, (by show PM D ks bm (cr1 (sc3 (sc2 (secA X) 24) b) b) _; rw [e2]; exact hM), hS, lv_sub hl [1, 0] rfl⟩
    · skip
      refine lv_aload_n hx hb dX5_second_37 rfl (lv_at hl 0 rfl) ?_
      refine g_get (C := RX5) (T := TX5) (N := 23) hx hb hts inX5 hown hG hM.1 rfl 7 (by decide) (by decide +kernel) rfl (v := .ref (bm + 6)) rfl dX5_second_38 ?_
      refine lv_iload_n hx hb dX5_second_41 rfl (lv_at hl 1 rfl) ?_
      refine lv_aload_n hx hb dX5_second_42 rfl (lv_at hl 0 rfl) ?_
      refine g_get (C := RX5) (T := TX5) (N := 23) hx hb hts inX5 hown hG hM.1 rfl 7 (by decide) (by decide +kernel) rfl (v := .ref (bm + 6)) rfl dX5_second_43 ?_
      refine lv_iload_n hx hb dX5_second_46 rfl (lv_at hl 1 rfl) ?_
      have b_47 : 0 ≤ ((sc2 (secA X) o)) 7 o ∧ ((sc2 (secA X) o)) 7 o ≤ 1000024 := hV.1 7 _ (by decide) rfl
      refine g_iald (n := 24) hx hb hG (f := fun i => z2 ((sc2 (secA X) o) 7 i)) (show ca D (bm + 6) (iA (ks 0) 24 (fun i => z2 ((sc2 (secA X) o) 7 i))) _ from hM.2.1 7 (sr_of (by decide))) o ⟨by omega, by omega, by decide⟩ dX5_second_47 ?_
      refine W.eq (g2 := F0 m 48 ls (.int (z2 (((sc2 (secA X) o)) 7 o)) :: [.int (z2 (((o : Nat) : Int))), .ref (bm + 6)])) rfl ?_
      refine lv_aload_n hx hb dX5_second_48 rfl (lv_at hl 0 rfl) ?_
      have b_49 : 0 ≤ ((sc2 (secA X) o)) 0 0 ∧ ((sc2 (secA X) o)) 0 0 ≤ 1000000 := hV.1 0 _ (by decide) rfl
      refine g_get (C := RX5) (T := TX5) (N := 23) hx hb hts inX5 hown hG hM.1 rfl 0 (by decide) (by decide +kernel) rfl (v := .int (z2 (((sc2 (secA X) o)) 0 0))) rfl dX5_second_49 ?_
      refine b_icmp_gt (tgt := 59) hx hb dX5_second_52 (by decide) ⟨⟨by omega, by omega⟩, ⟨by omega, by omega⟩⟩ (fun c_52 => ?_) (fun c_52 => ?_)
      · skip
        refine lv_aload_n hx hb dX5_second_59 rfl (lv_at hl 0 rfl) ?_
        refine g_get (C := RX5) (T := TX5) (N := 23) hx hb hts inX5 hown hG hM.1 rfl 7 (by decide) (by decide +kernel) rfl (v := .ref (bm + 6)) rfl dX5_second_60 ?_
        refine lv_iload_n hx hb dX5_second_63 rfl (lv_at hl 1 rfl) ?_
        have b_64 : 0 ≤ ((sc2 (secA X) o)) 7 o ∧ ((sc2 (secA X) o)) 7 o ≤ 1000024 := hV.1 7 _ (by decide) rfl
        refine g_iald (n := 24) hx hb hG (f := fun i => z2 ((sc2 (secA X) o) 7 i)) (show ca D (bm + 6) (iA (ks 0) 24 (fun i => z2 ((sc2 (secA X) o) 7 i))) _ from hM.2.1 7 (sr_of (by decide))) o ⟨by omega, by omega, by decide⟩ dX5_second_64 ?_
        refine W.eq (g2 := F0 m 65 ls (.int (z2 (((sc2 (secA X) o)) 7 o)) :: [.int (z2 (((o : Nat) : Int))), .ref (bm + 6)])) rfl ?_
        refine g_iast (n := 24) hx hb hG hS (f := fun i => z2 ((sc2 (secA X) o) 7 i)) (show ca D (bm + 6) (iA (ks 0) 24 (fun i => z2 ((sc2 (secA X) o) 7 i))) _ from hM.2.1 7 (sr_of (by decide))) (Or.inl ⟨by omega, by omega⟩) o ⟨by omega, by omega, by decide⟩ dX5_second_65 (fun H locs he hz oq hS => ?_)
        have hM : PM D ks bm (up ((sc2 (secA X) o)) 7 o (((sc2 (secA X) o)) 7 o)) H := hM.row (f := 7) (sr_of (by decide)) he oq
        refine b_iinc (lv' := [(1, .int (z2 (((o : Nat) : Int) + 1))), (0, .ref bm)]) hx hb dX5_second_66 hl (k := 1) rfl (by decide) rfl (fun ls hl => ?_)
        refine lv_goto (tgt := 31) hx hb dX5_second_69 (by decide) ?_
        have e2 : en1 (sc2 (secA X) o) o = up ((sc2 (secA X) o)) 7 o (((sc2 (secA X) o)) 7 o) := by unfold en1; first | rw [if_pos (by omega)] | rw [if_neg (by omega)]
        exact ih (o + 1) _ _ _ (by omega) ⟨by omega, (by show PM D ks bm (en1 (sc2 (secA X) o) o) _; rw [e2]; exact hM), hS, lv_sub hl [1, 0] rfl⟩
      · skip
        refine b_iconst hx hb dX5_second_55 ?_
        refine lv_goto (tgt := 65) hx hb dX5_second_56 (by decide) ?_
        refine g_iast (n := 24) hx hb hG hS (f := fun i => z2 ((sc2 (secA X) o) 7 i)) (show ca D (bm + 6) (iA (ks 0) 24 (fun i => z2 ((sc2 (secA X) o) 7 i))) _ from hM.2.1 7 (sr_of (by decide))) (Or.inl ⟨by omega, by omega⟩) o ⟨by omega, by omega, by decide⟩ dX5_second_65 (fun H locs he hz oq hS => ?_)
        have hM : PM D ks bm (up ((sc2 (secA X) o)) 7 o (0)) H := hM.row (f := 7) (sr_of (by decide)) he oq
        refine b_iinc (lv' := [(1, .int (z2 (((o : Nat) : Int) + 1))), (0, .ref bm)]) hx hb dX5_second_66 hl (k := 1) rfl (by decide) rfl (fun ls hl => ?_)
        refine lv_goto (tgt := 31) hx hb dX5_second_69 (by decide) ?_
        have e2 : en1 (sc2 (secA X) o) o = up ((sc2 (secA X) o)) 7 o (0) := by unfold en1; first | rw [if_pos (by omega)] | rw [if_neg (by omega)]
        exact ih (o + 1) _ _ _ (by omega) ⟨by omega, (by show PM D ks bm (en1 (sc2 (secA X) o) o) _; rw [e2]; exact hM), hS, lv_sub hl [1, 0] rfl⟩
  · skip
    refine lv_aload_n hx hb dX5_second_8 rfl (lv_at hl 0 rfl) ?_
    refine lv_iload_n hx hb dX5_second_9 rfl (lv_at hl 1 rfl) ?_
    refine g_run (vx_runV (As := [.int (z2 (((j : Nat) : Int)))]) (rest := []) ⟨hx, hb, hml, hown, hts⟩ (m_rings l D ks bx bm hbm (sc1 X j) _ hM hV (n := j) (((j : Nat) : Int)) ⟨by omega, by omega⟩) (cwV 1 hts gX5_second_X5_rings rfl rfl rfl (by decide +kernel) ⟨Nat.le_of_ble_eq_true rfl, Nat.le_of_ble_eq_true rfl⟩) (g_preV (r := (RX5, TX5, 23)) hG hS (rm_ge hbm) hM.1 rfl) rfl rfl hl.1 rfl (lv_room (Nat.le_of_ble_eq_true rfl)) dX5_second_10 ⟨Nat.le_of_ble_eq_true rfl, Nat.le_of_ble_eq_true rfl⟩) hS (fun _ h => h) (fun _ _ _ _ _ h => h.elim) (fun v H1 locs hp hz9 hk9 hS => ?_)
    obtain ⟨rfl, hM⟩ := hp
    refine W.eq (g2 := F0 m 13 ls []) rfl ?_
    refine b_iinc (lv' := [(1, .int (z2 (((j : Nat) : Int) + 1))), (0, .ref bm)]) hx hb dX5_second_13 hl (k := 1) rfl (by decide) rfl (fun ls hl => ?_)
    refine lv_goto (tgt := 2) hx hb dX5_second_16 (by decide) ?_
    exact ih (j + 1) _ _ _ (by omega) ⟨by omega, hM, hS, lv_sub hl [1, 0] rfl⟩
