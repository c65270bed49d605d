/-! the reference, on -/
set_option maxHeartbeats 4000000 in
set_option maxRecDepth 100000 in
theorem m_points (l : Launch) (D : va_G) (ks : Nat → ClassId) (bx : Nat) (bm : Nat) (hbm : bx ≤ bm) (X : Nat → Nat → Int) (H : Heap) (hM : PM D ks bm X H) (hV : VS X) (u : Int) (hu : -2147483648 ≤ u ∧ u < 2147483648) : KM l yX5_points wsX5_points ({ frames := 3, cells := 0, slots := 0, locals := 63 } : Room) D ks bx [.ref bm, .int (z2 u)] H (RM bm) (fun v H1 => ∃ (r : Int) (Y : Nat → Nat → Int), ro_points X u r Y ∧ v = some (.int (z2 r)) ∧ PM D ks bm Y H1) (fun _ _ => False) := by
  refine KM.of (cc := cX5_points) (maxL := 2) (ret := (some .int)) (by decide) rfl (Nat.le_of_ble_eq_true rfl) ?_
  intro p e s m below meth c hx hb hml hr hlocks hown hname hts hext hH0 hG ls hl
  subst hH0
  have hown : s.vm.findClass RX5 = some m.cls := hown
  have hS : va_S (AR (RM bm) s.heap.size) s.heap s.heap [] := va_S.rf
  have hl : lv_has ls 2 [(0, .ref bm), (1, .int (z2 (u)))] := hl
  have inX5 : ∀ w ∈ wsX50, w ∈ wsX5_points := by decide +kernel
  refine lv_aload_n hx hb dX5_points_0 rfl (lv_at hl 0 rfl) ?_
  refine lv_iload_n hx hb dX5_points_1 rfl (lv_at hl 1 rfl) ?_
  refine g_run (vx_runV (As := [.int (z2 (u))]) (rest := []) ⟨hx, hb, hml, hown, hts⟩ (m_isSeen l D ks bx bm hbm X _ hM hV (u) (by omega)) (cwV 1 hts gX5_points_X5_isSeen rfl rfl rfl (by decide +kernel) ⟨Nat.le_of_ble_eq_true rfl, Nat.le_of_ble_eq_true rfl⟩) (g_preV (r := (RX5, TX5, 23)) hG hS (rm_ge hbm) hM.1 rfl) rfl rfl hl.1 rfl (lv_room (Nat.le_of_ble_eq_true rfl)) dX5_points_2 ⟨Nat.le_of_ble_eq_true rfl, Nat.le_of_ble_eq_true rfl⟩) hS (fun _ h => h) (fun _ _ _ _ _ h => h.elim) (fun v H1 locs hp hz9 hk9 hS => ?_)
  rcases hp with ⟨q9, rfl, hM⟩ | ⟨q9, rfl, hM⟩
  · skip
    refine W.eq (g2 := F0 m 5 ls [.int (z2 (1))]) rfl ?_
    refine b_if_eq (tgt := 17) hx hb dX5_points_5 (by decide) ⟨by omega, by omega⟩ (fun c => absurd c (by omega)) (fun _ => ?_)
    obtain ⟨n, rfl⟩ : ∃ n : Nat, u = n := ⟨(u).toNat, by omega⟩
    refine lv_aload_n hx hb dX5_points_8 rfl (lv_at hl 0 rfl) ?_
    refine g_get (C := RX5) (T := TX5) (N := 23) hx hb hts inX5 hown hG hM.1 rfl 12 (by decide) (by decide +kernel) rfl (v := .ref (bm + 11)) rfl dX5_points_9 ?_
    refine lv_iload_n hx hb dX5_points_12 rfl (lv_at hl 1 rfl) ?_
    refine g_iald (n := 8) hx hb hG (f := fun i => z2 ((up X 22 0 (0)) 12 i)) (show ca D (bm + 11) (iA (ks 0) 8 (fun i => z2 ((up X 22 0 (0)) 12 i))) _ from hM.2.1 12 (sr_of (by decide))) n ⟨by omega, by omega, by decide⟩ dX5_points_13 ?_
    refine W.eq (g2 := F0 m 14 ls (.int (z2 (X 12 n)) :: [])) rfl ?_
    refine lv_goto (tgt := 18) hx hb dX5_points_14 (by decide) ?_
    exact g_iret hx hb hr hlocks hS ⟨Nat.le_of_ble_eq_true rfl, Nat.le_of_ble_eq_true rfl⟩ (⟨X 12 n, (up X 22 0 (0)), Or.inl (⟨n, by omega, rfl, rfl⟩), rfl, hM⟩) dX5_points_18
  · skip
    refine W.eq (g2 := F0 m 5 ls [.int (z2 (0))]) rfl ?_
    refine b_if_eq (tgt := 17) hx hb dX5_points_5 (by decide) ⟨by omega, by omega⟩ (fun _ => ?_) (fun c => absurd c (by omega))
    refine b_iconst hx hb dX5_points_17 ?_
    exact g_iret hx hb hr hlocks hS ⟨Nat.le_of_ble_eq_true rfl, Nat.le_of_ble_eq_true rfl⟩ (⟨0, (up X 22 0 (1)), Or.inr (⟨by omega, rfl⟩), rfl, hM⟩) dX5_points_18
set_option maxHeartbeats 4000000 in
set_option maxRecDepth 100000 in
theorem m_secondsRung (l : Launch) (D : va_G) (ks : Nat → ClassId) (bx : Nat) (bm : Nat) (hbm : bx ≤ bm) (X : Nat → Nat → Int) (H : Heap) (hM : PM D ks bm X H) (hV : VS X) (u : Int) (hu : -2147483648 ≤ u ∧ u < 2147483648) : KM l yX5_secondsRung wsX5_secondsRung ({ frames := 3, cells := 0, slots := 0, locals := 63 } : Room) D ks bx [.ref bm, .int (z2 u)] H (RM bm) (fun v H1 => ∃ (r : Int) (Y : Nat → Nat → Int), ro_secondsRung X u r Y ∧ v = some (.int (z2 r)) ∧ PM D ks bm Y H1) (fun _ _ => False) := by
  refine KM.of (cc := cX5_secondsRung) (maxL := 2) (ret := (some .int)) (by decide) rfl (Nat.le_of_ble_eq_true rfl) ?_
  intro p e s m below meth c hx hb hml hr hlocks hown hname hts hext hH0 hG ls hl
  subst hH0
  have hown : s.vm.findClass RX5 = some m.cls := hown
  have hS : va_S (AR (RM bm) s.heap.size) s.heap s.heap [] := va_S.rf
  have hl : lv_has ls 2 [(0, .ref bm), (1, .int (z2 (u)))] := hl
  have inX5 : ∀ w ∈ wsX50, w ∈ wsX5_secondsRung := by decide +kernel
  refine lv_aload_n hx hb dX5_secondsRung_0 rfl (lv_at hl 0 rfl) ?_
  refine lv_iload_n hx hb dX5_secondsRung_1 rfl (lv_at hl 1 rfl) ?_
  refine g_run (vx_runV (As := [.int (z2 (u))]) (rest := []) ⟨hx, hb, hml, hown, hts⟩ (m_isSeen l D ks bx bm hbm X _ hM hV (u) (by omega)) (cwV 1 hts gX5_secondsRung_X5_isSeen rfl rfl rfl (by decide +kernel) ⟨Nat.le_of_ble_eq_true rfl, Nat.le_of_ble_eq_true rfl⟩) (g_preV (r := (RX5, TX5, 23)) hG hS (rm_ge hbm) hM.1 rfl) rfl rfl hl.1 rfl (lv_room (Nat.le_of_ble_eq_true rfl)) dX5_secondsRung_2 ⟨Nat.le_of_ble_eq_true rfl, Nat.le_of_ble_eq_true rfl⟩) hS (fun _ h => h) (fun _ _ _ _ _ h => h.elim) (fun v H1 locs hp hz9 hk9 hS => ?_)
  rcases hp with ⟨q9, rfl, hM⟩ | ⟨q9, rfl, hM⟩
  · skip
    refine W.eq (g2 := F0 m 5 ls [.int (z2 (1))]) rfl ?_
    refine b_if_eq (tgt := 17) hx hb dX5_secondsRung_5 (by decide) ⟨by omega, by omega⟩ (fun c => absurd c (by omega)) (fun _ => ?_)
    obtain ⟨n, rfl⟩ : ∃ n : Nat, u = n := ⟨(u).toNat, by omega⟩
    refine lv_aload_n hx hb dX5_secondsRung_8 rfl (lv_at hl 0 rfl) ?_
    refine g_get (C := RX5) (T := TX5) (N := 23) hx hb hts inX5 hown hG hM.1 rfl 13 (by decide) (by decide +kernel) rfl (v := .ref (bm + 12)) rfl dX5_secondsRung_9 ?_
    refine lv_iload_n hx hb dX5_secondsRung_12 rfl (lv_at hl 1 rfl) ?_
    refine g_iald (n := 8) hx hb hG (f := fun i => z2 ((up X 22 0 (0)) 13 i)) (show ca D (bm + 12) (iA (ks 0) 8 (fun i => z2 ((up X 22 0 (0)) 13 i))) _ from hM.2.1 13 (sr_of (by decide))) n ⟨by omega, by omega, by decide⟩ dX5_secondsRung_13 ?_
    refine W.eq (g2 := F0 m 14 ls (.int (z2 (X 13 n)) :: [])) rfl ?_
    refine lv_goto (tgt := 18) hx hb dX5_secondsRung_14 (by decide) ?_
    exact g_iret hx hb hr hlocks hS ⟨Nat.le_of_ble_eq_true rfl, Nat.le_of_ble_eq_true rfl⟩ (⟨X 13 n, (up X 22 0 (0)), Or.inl (⟨n, by omega, rfl, rfl⟩), rfl, hM⟩) dX5_secondsRung_18
  · skip
    refine W.eq (g2 := F0 m 5 ls [.int (z2 (0))]) rfl ?_
    refine b_if_eq (tgt := 17) hx hb dX5_secondsRung_5 (by decide) ⟨by omega, by omega⟩ (fun _ => ?_) (fun c => absurd c (by omega))
    refine b_iconst hx hb dX5_secondsRung_17 ?_
    exact g_iret hx hb hr hlocks hS ⟨Nat.le_of_ble_eq_true rfl, Nat.le_of_ble_eq_true rfl⟩ (⟨0, (up X 22 0 (1)), Or.inr (⟨by omega, rfl⟩), rfl, hM⟩) dX5_secondsRung_18
set_option maxHeartbeats 4000000 in
set_option maxRecDepth 100000 in
theorem m_quietBroken (l : Launch) (D : va_G) (ks : Nat → ClassId) (bx : Nat) (bm : Nat) (hbm : bx ≤ bm) (X : Nat → Nat → Int) (H : Heap) (hM : PM D ks bm X H) (hV : VS X) (u : Int) (hu : -2147483648 ≤ u ∧ u < 2147483648) : KM l yX5_quietBroken wsX5_quietBroken ({ frames := 3, cells := 0, slots := 0, locals := 63 } : Room) D ks bx [.ref bm, .int (z2 u)] H (RM bm) (fun v H1 => ∃ (r : Int) (Y : Nat → Nat → Int), ro_quietBroken X u r Y ∧ v = some (.int (z2 r)) ∧ PM D ks bm Y H1) (fun _ _ => False) := by
  refine KM.of (cc := cX5_quietBroken) (maxL := 2) (ret := (some .int)) (by decide) rfl (Nat.le_of_ble_eq_true rfl) ?_
  intro p e s m below meth c hx hb hml hr hlocks hown hname hts hext hH0 hG ls hl
  subst hH0
  have hown : s.vm.findClass RX5 = some m.cls := hown
  have hS : va_S (AR (RM bm) s.heap.size) s.heap s.heap [] := va_S.rf
  have hl : lv_has ls 2 [(0, .ref bm), (1, .int (z2 (u)))] := hl
  have inX5 : ∀ w ∈ wsX50, w ∈ wsX5_quietBroken := by decide +kernel
  refine lv_aload_n hx hb dX5_quietBroken_0 rfl (lv_at hl 0 rfl) ?_
  refine lv_iload_n hx hb dX5_quietBroken_1 rfl (lv_at hl 1 rfl) ?_
  refine g_run (vx_runV (As := [.int (z2 (u))]) (rest := []) ⟨hx, hb, hml, hown, hts⟩ (m_isSeen l D ks bx bm hbm X _ hM hV (u) (by omega)) (cwV 1 hts gX5_quietBroken_X5_isSeen rfl rfl rfl (by decide +kernel) ⟨Nat.le_of_ble_eq_true rfl, Nat.le_of_ble_eq_true rfl⟩) (g_preV (r := (RX5, TX5, 23)) hG hS (rm_ge hbm) hM.1 rfl) rfl rfl hl.1 rfl (lv_room (Nat.le_of_ble_eq_true rfl)) dX5_quietBroken_2 ⟨Nat.le_of_ble_eq_true rfl, Nat.le_of_ble_eq_true rfl⟩) hS (fun _ h => h) (fun _ _ _ _ _ h => h.elim) (fun v H1 locs hp hz9 hk9 hS => ?_)
  rcases hp with ⟨q9, rfl, hM⟩ | ⟨q9, rfl, hM⟩
  · skip
    refine W.eq (g2 := F0 m 5 ls [.int (z2 (1))]) rfl ?_
    refine b_if_eq (tgt := 17) hx hb dX5_quietBroken_5 (by decide) ⟨by omega, by omega⟩ (fun c => absurd c (by omega)) (fun _ => ?_)
    obtain ⟨n, rfl⟩ : ∃ n : Nat, u = n := ⟨(u).toNat, by omega⟩
    refine lv_aload_n hx hb dX5_quietBroken_8 rfl (lv_at hl 0 rfl) ?_
    refine g_get (C := RX5) (T := TX5) (N := 23) hx hb hts inX5 hown hG hM.1 rfl 14 (by decide) (by decide +kernel) rfl (v := .ref (bm + 13)) rfl dX5_quietBroken_9 ?_
    refine lv_iload_n hx hb dX5_quietBroken_12 rfl (lv_at hl 1 rfl) ?_
    refine g_iald (n := 8) hx hb hG (f := fun i => z2 ((up X 22 0 (0)) 14 i)) (show ca D (bm + 13) (iA (ks 0) 8 (fun i => z2 ((up X 22 0 (0)) 14 i))) _ from hM.2.1 14 (sr_of (by decide))) n ⟨by omega, by omega, by decide⟩ dX5_quietBroken_13 ?_
    refine W.eq (g2 := F0 m 14 ls (.int (z2 (X 14 n)) :: [])) rfl ?_
    refine lv_goto (tgt := 18) hx hb dX5_quietBroken_14 (by decide) ?_
    exact g_iret hx hb hr hlocks hS ⟨Nat.le_of_ble_eq_true rfl, Nat.le_of_ble_eq_true rfl⟩ (⟨X 14 n, (up X 22 0 (0)), Or.inl (⟨n, by omega, rfl, rfl⟩), rfl, hM⟩) dX5_quietBroken_18
  · skip
    refine W.eq (g2 := F0 m 5 ls [.int (z2 (0))]) rfl ?_
    refine b_if_eq (tgt := 17) hx hb dX5_quietBroken_5 (by decide) ⟨by omega, by omega⟩ (fun _ => ?_) (fun c => absurd c (by omega))
    refine b_iconst hx hb dX5_quietBroken_17 ?_
    exact g_iret hx hb hr hlocks hS ⟨Nat.le_of_ble_eq_true rfl, Nat.le_of_ble_eq_true rfl⟩ (⟨0, (up X 22 0 (1)), Or.inr (⟨by omega, rfl⟩), rfl, hM⟩) dX5_quietBroken_18
set_option maxHeartbeats 4000000 in
set_option maxRecDepth 100000 in
theorem m_hushed (l : Launch) (D : va_G) (ks : Nat → ClassId) (bx : Nat) (bm : Nat) (hbm : bx ≤ bm) (X : Nat → Nat → Int) (H : Heap) (hM : PM D ks bm X H) (hV : VS X) (u : Int) (hu : -2147483648 ≤ u ∧ u < 2147483648) : KM l yX5_hushed wsX5_hushed ({ frames := 3, cells := 0, slots := 0, locals := 63 } : Room) D ks bx [.ref bm, .int (z2 u)] H (RM bm) (fun v H1 => ∃ (r : Int) (Y : Nat → Nat → Int), ro_hushed X u r Y ∧ v = some (.int (z2 r)) ∧ PM D ks bm Y H1) (fun _ _ => False) := by
  refine KM.of (cc := cX5_hushed) (maxL := 2) (ret := (some .int)) (by decide) rfl (Nat.le_of_ble_eq_true rfl) ?_
  intro p e s m below meth c hx hb hml hr hlocks hown hname hts hext hH0 hG ls hl
  subst hH0
  have hown : s.vm.findClass RX5 = some m.cls := hown
  have hS : va_S (AR (RM bm) s.heap.size) s.heap s.heap [] := va_S.rf
  have hl : lv_has ls 2 [(0, .ref bm), (1, .int (z2 (u)))] := hl
  have inX5 : ∀ w ∈ wsX50, w ∈ wsX5_hushed := by decide +kernel
  refine lv_aload_n hx hb dX5_hushed_0 rfl (lv_at hl 0 rfl) ?_
  refine lv_iload_n hx hb dX5_hushed_1 rfl (lv_at hl 1 rfl) ?_
  refine g_run (vx_runV (As := [.int (z2 (u))]) (rest := []) ⟨hx, hb, hml, hown, hts⟩ (m_isSeen l D ks bx bm hbm X _ hM hV (u) (by omega)) (cwV 1 hts gX5_hushed_X5_isSeen rfl rfl rfl (by decide +kernel) ⟨Nat.le_of_ble_eq_true rfl, Nat.le_of_ble_eq_true rfl⟩) (g_preV (r := (RX5, TX5, 23)) hG hS (rm_ge hbm) hM.1 rfl) rfl rfl hl.1 rfl (lv_room (Nat.le_of_ble_eq_true rfl)) dX5_hushed_2 ⟨Nat.le_of_ble_eq_true rfl, Nat.le_of_ble_eq_true rfl⟩) hS (fun _ h => h) (fun _ _ _ _ _ h => h.elim) (fun v H1 locs hp hz9 hk9 hS => ?_)
  rcases hp with ⟨q9, rfl, hM⟩ | ⟨q9, rfl, hM⟩
  · skip
    refine W.eq (g2 := F0 m 5 ls [.int (z2 (1))]) rfl ?_
    refine b_if_eq (tgt := 17) hx hb dX5_hushed_5 (by decide) ⟨by omega, by omega⟩ (fun c => absurd c (by omega)) (fun _ => ?_)
    obtain ⟨n, rfl⟩ : ∃ n : Nat, u = n := ⟨(u).toNat, by omega⟩
    refine lv_aload_n hx hb dX5_hushed_8 rfl (lv_at hl 0 rfl) ?_
    refine g_get (C := RX5) (T := TX5) (N := 23) hx hb hts inX5 hown hG hM.1 rfl 15 (by decide) (by decide +kernel) rfl (v := .ref (bm + 14)) rfl dX5_hushed_9 ?_
    refine lv_iload_n hx hb dX5_hushed_12 rfl (lv_at hl 1 rfl) ?_
    refine g_iald (n := 8) hx hb hG (f := fun i => z2 ((up X 22 0 (0)) 15 i)) (show ca D (bm + 14) (iA (ks 0) 8 (fun i => z2 ((up X 22 0 (0)) 15 i))) _ from hM.2.1 15 (sr_of (by decide))) n ⟨by omega, by omega, by decide⟩ dX5_hushed_13 ?_
    refine W.eq (g2 := F0 m 14 ls (.int (z2 (X 15 n)) :: [])) rfl ?_
    refine lv_goto (tgt := 18) hx hb dX5_hushed_14 (by decide) ?_
    exact g_iret hx hb hr hlocks hS ⟨Nat.le_of_ble_eq_true rfl, Nat.le_of_ble_eq_true rfl⟩ (⟨X 15 n, (up X 22 0 (0)), Or.inl (⟨n, by omega, rfl, rfl⟩), rfl, hM⟩) dX5_hushed_18
  · skip
    refine W.eq (g2 := F0 m 5 ls [.int (z2 (0))]) rfl ?_
    refine b_if_eq (tgt := 17) hx hb dX5_hushed_5 (by decide) ⟨by omega, by omega⟩ (fun _ => ?_) (fun c => absurd c (by omega))
    refine b_iconst hx hb dX5_hushed_17 ?_
    exact g_iret hx hb hr hlocks hS ⟨Nat.le_of_ble_eq_true rfl, Nat.le_of_ble_eq_true rfl⟩ (⟨0, (up X 22 0 (1)), Or.inr (⟨by omega, rfl⟩), rfl, hM⟩) dX5_hushed_18
set_option maxHeartbeats 4000000 in
set_option maxRecDepth 100000 in
theorem m_isSound (l : Launch) (D : va_G) (ks : Nat → ClassId) (bx : Nat) (bm : Nat) (hbm : bx ≤ bm) (X : Nat → Nat → Int) (H : Heap) (hM : PM D ks bm X H) (hV : VS X) (u : Int) (hu : -2147483648 ≤ u ∧ u < 2147483648) : KM l yX5_isSound wsX5_isSound ({ frames := 3, cells := 0, slots := 0, locals := 63 } : Room) D ks bx [.ref bm, .int (z2 u)] H (RM bm) (fun v H1 => ∃ (r : Int) (Y : Nat → Nat → Int), ro_isSound X u r Y ∧ v = some (.int (z2 r)) ∧ PM D ks bm Y H1) (fun _ _ => False) := by
  refine KM.of (cc := cX5_isSound) (maxL := 2) (ret := (some .boolean)) (by decide) rfl (Nat.le_of_ble_eq_true rfl) ?_
  intro p e s m below meth c hx hb hml hr hlocks hown hname hts hext hH0 hG ls hl
  subst hH0
  have hown : s.vm.findClass RX5 = some m.cls := hown
  have hS : va_S (AR (RM bm) s.heap.size) s.heap s.heap [] := va_S.rf
  have hl : lv_has ls 2 [(0, .ref bm), (1, .int (z2 (u)))] := hl
  have inX5 : ∀ w ∈ wsX50, w ∈ wsX5_isSound := by decide +kernel
  refine lv_aload_n hx hb dX5_isSound_0 rfl (lv_at hl 0 rfl) ?_
  refine lv_iload_n hx hb dX5_isSound_1 rfl (lv_at hl 1 rfl) ?_
  refine g_run (vx_runV (As := [.int (z2 (u))]) (rest := []) ⟨hx, hb, hml, hown, hts⟩ (m_isSeen l D ks bx bm hbm X _ hM hV (u) (by omega)) (cwV 1 hts gX5_isSound_X5_isSeen rfl rfl rfl (by decide +kernel) ⟨Nat.le_of_ble_eq_true rfl, Nat.le_of_ble_eq_true rfl⟩) (g_preV (r := (RX5, TX5, 23)) hG hS (rm_ge hbm) hM.1 rfl) rfl rfl hl.1 rfl (lv_room (Nat.le_of_ble_eq_true rfl)) dX5_isSound_2 ⟨Nat.le_of_ble_eq_true rfl, Nat.le_of_ble_eq_true rfl⟩) hS (fun _ h => h) (fun _ _ _ _ _ h => h.elim) (fun v H1 locs hp hz9 hk9 hS => ?_)
  rcases hp with ⟨q9, rfl, hM⟩ | ⟨q9, rfl, hM⟩
  · skip
    refine W.eq (g2 := F0 m 5 ls [.int (z2 (1))]) rfl ?_
    refine b_if_eq (tgt := 21) hx hb dX5_isSound_5 (by decide) ⟨by omega, by omega⟩ (fun c => absurd c (by omega)) (fun _ => ?_)
    obtain ⟨n, rfl⟩ : ∃ n : Nat, u = n := ⟨(u).toNat, by omega⟩
    refine lv_aload_n hx hb dX5_isSound_8 rfl (lv_at hl 0 rfl) ?_
    refine g_get (C := RX5) (T := TX5) (N := 23) hx hb hts inX5 hown hG hM.1 rfl 11 (by decide) (by decide +kernel) rfl (v := .ref (bm + 10)) rfl dX5_isSound_9 ?_
    refine lv_iload_n hx hb dX5_isSound_12 rfl (lv_at hl 1 rfl) ?_
    have b_13 : 0 ≤ X 11 n ∧ X 11 n ≤ 1 := hV.1 11 _ (by decide) rfl
    refine g_iald (n := 8) hx hb hG (f := fun i => z2 ((up X 22 0 (0)) 11 i)) (show ca D (bm + 10) (iA (ks 0) 8 (fun i => z2 ((up X 22 0 (0)) 11 i))) _ from hM.2.1 11 (sr_of (by decide))) n ⟨by omega, by omega, by decide⟩ dX5_isSound_13 ?_
    refine W.eq (g2 := F0 m 14 ls (.int (z2 (X 11 n)) :: [])) rfl ?_
    refine b_if_ne (tgt := 21) hx hb dX5_isSound_14 (by decide) ⟨by omega, by omega⟩ (fun c_14 => ?_) (fun c_14 => ?_)
    · skip
      refine b_iconst hx hb dX5_isSound_21 ?_
      exact g_zret hx hb hr hlocks hS (by decide +kernel) ⟨Nat.le_of_ble_eq_true rfl, Nat.le_of_ble_eq_true rfl⟩ (⟨0, (up X 22 0 (0)), Or.inl (⟨n, by omega, by first | rw [if_pos (by omega)] | rw [if_neg (by omega)], rfl⟩), rfl, hM⟩) dX5_isSound_22
    · skip
      refine b_iconst hx hb dX5_isSound_17 ?_
      refine lv_goto (tgt := 22) hx hb dX5_isSound_18 (by decide) ?_
      exact g_zret hx hb hr hlocks hS (by decide +kernel) ⟨Nat.le_of_ble_eq_true rfl, Nat.le_of_ble_eq_true rfl⟩ (⟨1, (up X 22 0 (0)), Or.inl (⟨n, by omega, by first | rw [if_pos (by omega)] | rw [if_neg (by omega)], rfl⟩), rfl, hM⟩) dX5_isSound_22
  · skip
    refine W.eq (g2 := F0 m 5 ls [.int (z2 (0))]) rfl ?_
    refine b_if_eq (tgt := 21) hx hb dX5_isSound_5 (by decide) ⟨by omega, by omega⟩ (fun _ => ?_) (fun c => absurd c (by omega))
    refine b_iconst hx hb dX5_isSound_21 ?_
    exact g_zret hx hb hr hlocks hS (by decide +kernel) ⟨Nat.le_of_ble_eq_true rfl, Nat.le_of_ble_eq_true rfl⟩ (⟨0, (up X 22 0 (1)), Or.inr (⟨by omega, rfl⟩), rfl, hM⟩) dX5_isSound_22
set_option maxHeartbeats 4000000 in
set_option maxRecDepth 100000 in
theorem m_ringing (l : Launch) (D : va_G) (ks : Nat → ClassId) (bx : Nat) (bm : Nat) (hbm : bx ≤ bm) (X : Nat → Nat → Int) (H : Heap) (hM : PM D ks bm X H) (hV : VS X) (u : Int) (hu : -2147483648 ≤ u ∧ u < 2147483648) : KM l yX5_ringing wsX5_ringing ({ frames := 3, cells := 0, slots := 0, locals := 63 } : Room) D ks bx [.ref bm, .int (z2 u)] H (RM bm) (fun v H1 => ∃ (r : Int) (Y : Nat → Nat → Int), ro_ringing X u r Y ∧ v = some (.int (z2 r)) ∧ PM D ks bm Y H1) (fun _ _ => False) := by
  refine KM.of (cc := cX5_ringing) (maxL := 4) (ret := (some .int)) (by decide) rfl (Nat.le_of_ble_eq_true rfl) ?_
  intro p e s m below meth c hx hb hml hr hlocks hown hname hts hext hH0 hG ls hl
  subst hH0
  have hown : s.vm.findClass RX5 = some m.cls := hown
  have hS : va_S (AR (RM bm) s.heap.size) s.heap s.heap [] := va_S.rf
  have hl : lv_has ls 4 [(0, .ref bm), (1, .int (z2 (u)))] := hl
  have inX5 : ∀ w ∈ wsX50, w ∈ wsX5_ringing := by decide +kernel
  refine lv_aload_n hx hb dX5_ringing_0 rfl (lv_at hl 0 rfl) ?_
  refine lv_iload_n hx hb dX5_ringing_1 rfl (lv_at hl 1 rfl) ?_
  refine g_run (vx_runV (As := [.int (z2 (u))]) (rest := []) ⟨hx, hb, hml, hown, hts⟩ (m_isSeen l D ks bx bm hbm X _ hM hV (u) (by omega)) (cwV 1 hts gX5_ringing_X5_isSeen rfl rfl rfl (by decide +kernel) ⟨Nat.le_of_ble_eq_true rfl, Nat.le_of_ble_eq_true rfl⟩) (g_preV (r := (RX5, TX5, 23)) hG hS (rm_ge hbm) hM.1 rfl) rfl rfl hl.1 rfl (lv_room (Nat.le_of_ble_eq_true rfl)) dX5_ringing_2 ⟨Nat.le_of_ble_eq_true rfl, Nat.le_of_ble_eq_true rfl⟩) hS (fun _ h => h) (fun _ _ _ _ _ h => h.elim) (fun v H1 locs hp hz9 hk9 hS => ?_)
  rcases hp with ⟨q9, rfl, hM⟩ | ⟨q9, rfl, hM⟩
  · skip
    refine W.eq (g2 := F0 m 5 ls [.int (z2 (1))]) rfl ?_
    refine b_if_ne (tgt := 10) hx hb dX5_ringing_5 (by decide) ⟨by omega, by omega⟩ (fun _ => ?_) (fun c => absurd c (by omega))
    obtain ⟨n, rfl⟩ : ∃ n : Nat, u = n := ⟨(u).toNat, by omega⟩
    refine b_iconst hx hb dX5_ringing_10 ?_
    refine lv_istore_n (lv' := [(2, .int (z2 (0))), (0, .ref bm), (1, .int (z2 (((n : Nat) : Int))))]) hx hb dX5_ringing_11 rfl hl (by decide) rfl (fun ls hl => ?_)
    refine b_iconst hx hb dX5_ringing_12 ?_
    refine lv_istore_n (lv' := [(3, .int (z2 (0))), (2, .int (z2 (0))), (0, .ref bm), (1, .int (z2 (((n : Nat) : Int))))]) hx hb dX5_ringing_13 rfl hl (by decide) rfl (fun ls hl => ?_)
    refine lv_iload_n hx hb dX5_ringing_14 rfl (lv_at hl 0 rfl) ?_
    refine b_iconst hx hb dX5_ringing_15 ?_
    refine b_icmp_ge (tgt := 48) hx hb dX5_ringing_16 (by decide) ⟨⟨by omega, by omega⟩, ⟨by omega, by omega⟩⟩ (fun c => absurd c (by omega)) (fun _ => ?_)
    refine lv_iload_n hx hb dX5_ringing_19 rfl (lv_at hl 1 rfl) ?_
    refine lv_aload_n hx hb dX5_ringing_20 rfl (lv_at hl 2 rfl) ?_
    refine g_get (C := RX5) (T := TX5) (N := 23) hx hb hts inX5 hown hG hM.1 rfl 7 (by decide) (by decide +kernel) rfl (v := .ref (bm + 6)) rfl dX5_ringing_21 ?_
    refine b_iconst hx hb dX5_ringing_24 ?_
    refine lv_iload_n hx hb dX5_ringing_25 rfl (lv_at hl 3 rfl) ?_
    refine b_imul hx hb dX5_ringing_26 ?_
    refine lv_iload_n hx hb dX5_ringing_27 rfl (lv_at hl 0 rfl) ?_
    refine b_iadd hx hb dX5_ringing_28 ?_
    have b_29 : 0 ≤ X 7 (3 * n + 0) ∧ X 7 (3 * n + 0) ≤ 1000024 := hV.1 7 _ (by decide) rfl
    refine g_iald (n := 24) hx hb hG (f := fun i => z2 ((up X 22 0 (0)) 7 i)) (show ca D (bm + 6) (iA (ks 0) 24 (fun i => z2 ((up X 22 0 (0)) 7 i))) _ from hM.2.1 7 (sr_of (by decide))) (3 * n + 0) ⟨by omega, by omega, by decide⟩ dX5_ringing_29 ?_
    refine W.eq (g2 := F0 m 30 ls (.int (z2 (X 7 (3 * n + 0))) :: [.int (z2 (0))])) rfl ?_
    refine b_if_le (tgt := 39) hx hb dX5_ringing_30 (by decide) ⟨by omega, by omega⟩ (fun c_30 => ?_) (fun c_30 => ?_)
    · skip
      refine b_iconst hx hb dX5_ringing_39 ?_
      refine lv_ior hx hb dX5_ringing_40 ?_
      refine b_top (v := 0) (by decide +kernel) ?_
      refine lv_istore_n (lv' := [(2, .int (z2 (0))), (3, .int (z2 (0))), (0, .ref bm), (1, .int (z2 (((n : Nat) : Int))))]) hx hb dX5_ringing_41 rfl hl (by decide) rfl (fun ls hl => ?_)
      refine b_iinc (lv' := [(3, .int (z2 (1))), (2, .int (z2 (0))), (0, .ref bm), (1, .int (z2 (((n : Nat) : Int))))]) hx hb dX5_ringing_42 hl (k := 1) rfl (by decide) rfl (fun ls hl => ?_)
      refine lv_goto (tgt := 14) hx hb dX5_ringing_45 (by decide) ?_
      refine lv_iload_n hx hb dX5_ringing_14 rfl (lv_at hl 0 rfl) ?_
      refine b_iconst hx hb dX5_ringing_15 ?_
      refine b_icmp_ge (tgt := 48) hx hb dX5_ringing_16 (by decide) ⟨⟨by omega, by omega⟩, ⟨by omega, by omega⟩⟩ (fun c => absurd c (by omega)) (fun _ => ?_)
      refine lv_iload_n hx hb dX5_ringing_19 rfl (lv_at hl 1 rfl) ?_
      refine lv_aload_n hx hb dX5_ringing_20 rfl (lv_at hl 2 rfl) ?_
      refine g_get (C := RX5) (T := TX5) (N := 23) hx hb hts inX5 hown hG hM.1 rfl 7 (by decide) (by decide +kernel) rfl (v := .ref (bm + 6)) rfl dX5_ringing_21 ?_
      refine b_iconst hx hb dX5_ringing_24 ?_
      refine lv_iload_n hx hb dX5_ringing_25 rfl (lv_at hl 3 rfl) ?_
      refine b_imul hx hb dX5_ringing_26 ?_
      refine lv_iload_n hx hb dX5_ringing_27 rfl (lv_at hl 0 rfl) ?_
      refine b_iadd hx hb dX5_ringing_28 ?_
      have b_29 : 0 ≤ X 7 (3 * n + 1) ∧ X 7 (3 * n + 1) ≤ 1000024 := hV.1 7 _ (by decide) rfl
      refine g_iald (n := 24) hx hb hG (f := fun i => z2 ((up X 22 0 (0)) 7 i)) (show ca D (bm + 6) (iA (ks 0) 24 (fun i => z2 ((up X 22 0 (0)) 7 i))) _ from hM.2.1 7 (sr_of (by decide))) (3 * n + 1) ⟨by omega, by omega, by decide⟩ dX5_ringing_29 ?_
      refine W.eq (g2 := F0 m 30 ls (.int (z2 (X 7 (3 * n + 1))) :: [.int (z2 (0))])) rfl ?_
      refine b_if_le (tgt := 39) hx hb dX5_ringing_30 (by decide) ⟨by omega, by omega⟩ (fun c_30 => ?_) (fun c_30 => ?_)
      · skip
        refine b_iconst hx hb dX5_ringing_39 ?_
        refine lv_ior hx hb dX5_ringing_40 ?_
        refine b_top (v := 0) (by decide +kernel) ?_
        refine lv_istore_n (lv' := [(2, .int (z2 (0))), (3, .int (z2 (1))), (0, .ref bm), (1, .int (z2 (((n : Nat) : Int))))]) hx hb dX5_ringing_41 rfl hl (by decide) rfl (fun ls hl => ?_)
        refine b_iinc (lv' := [(3, .int (z2 (2))), (2, .int (z2 (0))), (0, .ref bm), (1, .int (z2 (((n : Nat) : Int))))]) hx hb dX5_ringing_42 hl (k := 1) rfl (by decide) rfl (fun ls hl => ?_)
        refine lv_goto (tgt := 14) hx hb dX5_ringing_45 (by decide) ?_
        refine lv_iload_n hx hb dX5_ringing_14 rfl (lv_at hl 0 rfl) ?_
        refine b_iconst hx hb dX5_ringing_15 ?_
        refine b_icmp_ge (tgt := 48) hx hb dX5_ringing_16 (by decide) ⟨⟨by omega, by omega⟩, ⟨by omega, by omega⟩⟩ (fun c => absurd c (by omega)) (fun _ => ?_)
        refine lv_iload_n hx hb dX5_ringing_19 rfl (lv_at hl 1 rfl) ?_
        refine lv_aload_n hx hb dX5_ringing_20 rfl (lv_at hl 2 rfl) ?_
        refine g_get (C := RX5) (T := TX5) (N := 23) hx hb hts inX5 hown hG hM.1 rfl 7 (by decide) (by decide +kernel) rfl (v := .ref (bm + 6)) rfl dX5_ringing_21 ?_
        refine b_iconst hx hb dX5_ringing_24 ?_
        refine lv_iload_n hx hb dX5_ringing_25 rfl (lv_at hl 3 rfl) ?_
        refine b_imul hx hb dX5_ringing_26 ?_
        refine lv_iload_n hx hb dX5_ringing_27 rfl (lv_at hl 0 rfl) ?_
        refine b_iadd hx hb dX5_ringing_28 ?_
        have b_29 : 0 ≤ X 7 (3 * n + 2) ∧ X 7 (3 * n + 2) ≤ 1000024 := hV.1 7 _ (by decide) rfl
        refine g_iald (n := 24) hx hb hG (f := fun i => z2 ((up X 22 0 (0)) 7 i)) (show ca D (bm + 6) (iA (ks 0) 24 (fun i => z2 ((up X 22 0 (0)) 7 i))) _ from hM.2.1 7 (sr_of (by decide))) (3 * n + 2) ⟨by omega, by omega, by decide⟩ dX5_ringing_29 ?_
        refine W.eq (g2 := F0 m 30 ls (.int (z2 (X 7 (3 * n + 2))) :: [.int (z2 (0))])) rfl ?_
        refine b_if_le (tgt := 39) hx hb dX5_ringing_30 (by decide) ⟨by omega, by omega⟩ (fun c_30 => ?_) (fun c_30 => ?_)
        · skip
          refine b_iconst hx hb dX5_ringing_39 ?_
          refine lv_ior hx hb dX5_ringing_40 ?_
          refine b_top (v := 0) (by decide +kernel) ?_
          refine lv_istore_n (lv' := [(2, .int (z2 (0))), (3, .int (z2 (2))), (0, .ref bm), (1, .int (z2 (((n : Nat) : Int))))]) hx hb dX5_ringing_41 rfl hl (by decide) rfl (fun ls hl => ?_)
          refine b_iinc (lv' := [(3, .int (z2 (3))), (2, .int (z2 (0))), (0, .ref bm), (1, .int (z2 (((n : Nat) : Int))))]) hx hb dX5_ringing_42 hl (k := 1) rfl (by decide) rfl (fun ls hl => ?_)
          refine lv_goto (tgt := 14) hx hb dX5_ringing_45 (by decide) ?_
          refine lv_iload_n hx hb dX5_ringing_14 rfl (lv_at hl 0 rfl) ?_
          refine b_iconst hx hb dX5_ringing_15 ?_
          refine b_icmp_ge (tgt := 48) hx hb dX5_ringing_16 (by decide) ⟨⟨by omega, by omega⟩, ⟨by omega, by omega⟩⟩ (fun _ => ?_) (fun c => absurd c (by omega))
          refine lv_iload_n hx hb dX5_ringing_48 rfl (lv_at hl 1 rfl) ?_
          exact g_iret hx hb hr hlocks hS ⟨Nat.le_of_ble_eq_true rfl, Nat.le_of_ble_eq_true rfl⟩ (⟨0, (up X 22 0 (0)), Or.inl (⟨n, by omega, by unfold rsM; (repeat' split) <;> omega, rfl⟩), rfl, hM⟩) dX5_ringing_49
        · skip
          refine b_iconst hx hb dX5_ringing_33 ?_
          refine lv_iload_n hx hb dX5_ringing_34 rfl (lv_at hl 0 rfl) ?_
          refine lv_ishl hx hb dX5_ringing_35 ?_
          refine b_top (v := 4) (by decide +kernel) ?_
          refine lv_goto (tgt := 40) hx hb dX5_ringing_36 (by decide) ?_
          refine lv_ior hx hb dX5_ringing_40 ?_
          refine b_top (v := 4) (by decide +kernel) ?_
          refine lv_istore_n (lv' := [(2, .int (z2 (4))), (3, .int (z2 (2))), (0, .ref bm), (1, .int (z2 (((n : Nat) : Int))))]) hx hb dX5_ringing_41 rfl hl (by decide) rfl (fun ls hl => ?_)
          refine b_iinc (lv' := [(3, .int (z2 (3))), (2, .int (z2 (4))), (0, .ref bm), (1, .int (z2 (((n : Nat) : Int))))]) hx hb dX5_ringing_42 hl (k := 1) rfl (by decide) rfl (fun ls hl => ?_)
          refine lv_goto (tgt := 14) hx hb dX5_ringing_45 (by decide) ?_
          refine lv_iload_n hx hb dX5_ringing_14 rfl (lv_at hl 0 rfl) ?_
          refine b_iconst hx hb dX5_ringing_15 ?_
          refine b_icmp_ge (tgt := 48) hx hb dX5_ringing_16 (by decide) ⟨⟨by omega, by omega⟩, ⟨by omega, by omega⟩⟩ (fun _ => ?_) (fun c => absurd c (by omega))
          refine lv_iload_n hx hb dX5_ringing_48 rfl (lv_at hl 1 rfl) ?_
          exact g_iret hx hb hr hlocks hS ⟨Nat.le_of_ble_eq_true rfl, Nat.le_of_ble_eq_true rfl⟩ (⟨4, (up X 22 0 (0)), Or.inl (⟨n, by omega, by unfold rsM; (repeat' split) <;> omega, rfl⟩), rfl, hM⟩) dX5_ringing_49
      · skip
        refine b_iconst hx hb dX5_ringing_33 ?_
        refine lv_iload_n hx hb dX5_ringing_34 rfl (lv_at hl 0 rfl) ?_
        refine lv_ishl hx hb dX5_ringing_35 ?_
        refine b_top (v := 2) (by decide +kernel) ?_
        refine lv_goto (tgt := 40) hx hb dX5_ringing_36 (by decide) ?_
        refine lv_ior hx hb dX5_ringing_40 ?_
        refine b_top (v := 2) (by decide +kernel) ?_
        refine lv_istore_n (lv' := [(2, .int (z2 (2))), (3, .int (z2 (1))), (0, .ref bm), (1, .int (z2 (((n : Nat) : Int))))]) hx hb dX5_ringing_41 rfl hl (by decide) rfl (fun ls hl => ?_)
        refine b_iinc (lv' := [(3, .int (z2 (2))), (2, .int (z2 (2))), (0, .ref bm), (1, .int (z2 (((n : Nat) : Int))))]) hx hb dX5_ringing_42 hl (k := 1) rfl (by decide) rfl (fun ls hl => ?_)
        refine lv_goto (tgt := 14) hx hb dX5_ringing_45 (by decide) ?_
        refine lv_iload_n hx hb dX5_ringing_14 rfl (lv_at hl 0 rfl) ?_
        refine b_iconst hx hb dX5_ringing_15 ?_
        refine b_icmp_ge (tgt := 48) hx hb dX5_ringing_16 (by decide) ⟨⟨by omega, by omega⟩, ⟨by omega, by omega⟩⟩ (fun c => absurd c (by omega)) (fun _ => ?_)
        refine lv_iload_n hx hb dX5_ringing_19 rfl (lv_at hl 1 rfl) ?_
        refine lv_aload_n hx hb dX5_ringing_20 rfl (lv_at hl 2 rfl) ?_
        refine g_get (C := RX5) (T := TX5) (N := 23) hx hb hts inX5 hown hG hM.1 rfl 7 (by decide) (by decide +kernel) rfl (v := .ref (bm + 6)) rfl dX5_ringing_21 ?_
        refine b_iconst hx hb dX5_ringing_24 ?_
        refine lv_iload_n hx hb dX5_ringing_25 rfl (lv_at hl 3 rfl) ?_
        refine b_imul hx hb dX5_ringing_26 ?_
        refine lv_iload_n hx hb dX5_ringing_27 rfl (lv_at hl 0 rfl) ?_
        refine b_iadd hx hb dX5_ringing_28 ?_
        have b_29 : 0 ≤ X 7 (3 * n + 2) ∧ X 7 (3 * n + 2) ≤ 1000024 := hV.1 7 _ (by decide) rfl
        refine g_iald (n := 24) hx hb hG (f := fun i => z2 ((up X 22 0 (0)) 7 i)) (show ca D (bm + 6) (iA (ks 0) 24 (fun i => z2 ((up X 22 0 (0)) 7 i))) _ from hM.2.1 7 (sr_of (by decide))) (3 * n + 2) ⟨by omega, by omega, by decide⟩ dX5_ringing_29 ?_
        refine W.eq (g2 := F0 m 30 ls (.int (z2 (X 7 (3 * n + 2))) :: [.int (z2 (2))])) rfl ?_
        refine b_if_le (tgt := 39) hx hb dX5_ringing_30 (by decide) ⟨by omega, by omega⟩ (fun c_30 => ?_) (fun c_30 => ?_)
        · skip
          refine b_iconst hx hb dX5_ringing_39 ?_
          refine lv_ior hx hb dX5_ringing_40 ?_
          refine b_top (v := 2) (by decide +kernel) ?_
          refine lv_istore_n (lv' := [(2, .int (z2 (2))), (3, .int (z2 (2))), (0, .ref bm), (1, .int (z2 (((n : Nat) : Int))))]) hx hb dX5_ringing_41 rfl hl (by decide) rfl (fun ls hl => ?_)
          refine b_iinc (lv' := [(3, .int (z2 (3))), (2, .int (z2 (2))), (0, .ref bm), (1, .int (z2 (((n : Nat) : Int))))]) hx hb dX5_ringing_42 hl (k := 1) rfl (by decide) rfl (fun ls hl => ?_)
          refine lv_goto (tgt := 14) hx hb dX5_ringing_45 (by decide) ?_
          refine lv_iload_n hx hb dX5_ringing_14 rfl (lv_at hl 0 rfl) ?_
          refine b_iconst hx hb dX5_ringing_15 ?_
          refine b_icmp_ge (tgt := 48) hx hb dX5_ringing_16 (by decide) ⟨⟨by omega, by omega⟩, ⟨by omega, by omega⟩⟩ (fun _ => ?_) (fun c => absurd c (by omega))
          refine lv_iload_n hx hb dX5_ringing_48 rfl (lv_at hl 1 rfl) ?_
          exact g_iret hx hb hr hlocks hS ⟨Nat.le_of_ble_eq_true rfl, Nat.le_of_ble_eq_true rfl⟩ (⟨2, (up X 22 0 (0)), Or.inl (⟨n, by omega, by unfold rsM; (repeat' split) <;> omega, rfl⟩), rfl, hM⟩) dX5_ringing_49
        · skip
          refine b_iconst hx hb dX5_ringing_33 ?_
          refine lv_iload_n hx hb dX5_ringing_34 rfl (lv_at hl 0 rfl) ?_
          refine lv_ishl hx hb dX5_ringing_35 ?_
          refine b_top (v := 4) (by decide +kernel) ?_
          refine lv_goto (tgt := 40) hx hb dX5_ringing_36 (by decide) ?_
          refine lv_ior hx hb dX5_ringing_40 ?_
          refine b_top (v := 6) (by decide +kernel) ?_
          refine lv_istore_n (lv' := [(2, .int (z2 (6))), (3, .int (z2 (2))), (0, .ref bm), (1, .int (z2 (((n : Nat) : Int))))]) hx hb dX5_ringing_41 rfl hl (by decide) rfl (fun ls hl => ?_)
          refine b_iinc (lv' := [(3, .int (z2 (3))), (2, .int (z2 (6))), (0, .ref bm), (1, .int (z2 (((n : Nat) : Int))))]) hx hb dX5_ringing_42 hl (k := 1) rfl (by decide) rfl (fun ls hl => ?_)
          refine lv_goto (tgt := 14) hx hb dX5_ringing_45 (by decide) ?_
          refine lv_iload_n hx hb dX5_ringing_14 rfl (lv_at hl 0 rfl) ?_
          refine b_iconst hx hb dX5_ringing_15 ?_
          refine b_icmp_ge (tgt := 48) hx hb dX5_ringing_16 (by decide) ⟨⟨by omega, by omega⟩, ⟨by omega, by omega⟩⟩ (fun _ => ?_) (fun c => absurd c (by omega))
          refine lv_iload_n hx hb dX5_ringing_48 rfl (lv_at hl 1 rfl) ?_
          exact g_iret hx hb hr hlocks hS ⟨Nat.le_of_ble_eq_true rfl, Nat.le_of_ble_eq_true rfl⟩ (⟨6, (up X 22 0 (0)), Or.inl (⟨n, by omega, by unfold rsM; (repeat' split) <;> omega, rfl⟩), rfl, hM⟩) dX5_ringing_49
    · skip
      refine b_iconst hx hb dX5_ringing_33 ?_
      refine lv_iload_n hx hb dX5_ringing_34 rfl (lv_at hl 0 rfl) ?_
      refine lv_ishl hx hb dX5_ringing_35 ?_
      refine b_top (v := 1) (by decide +kernel) ?_
      refine lv_goto (tgt := 40) hx hb dX5_ringing_36 (by decide) ?_
      refine lv_ior hx hb dX5_ringing_40 ?_
      refine b_top (v := 1) (by decide +kernel) ?_
      refine lv_istore_n (lv' := [(2, .int (z2 (1))), (3, .int (z2 (0))), (0, .ref bm), (1, .int (z2 (((n : Nat) : Int))))]) hx hb dX5_ringing_41 rfl hl (by decide) rfl (fun ls hl => ?_)
      refine b_iinc (lv' := [(3, .int (z2 (1))), (2, .int (z2 (1))), (0, .ref bm), (1, .int (z2 (((n : Nat) : Int))))]) hx hb dX5_ringing_42 hl (k := 1) rfl (by decide) rfl (fun ls hl => ?_)
      refine lv_goto (tgt := 14) hx hb dX5_ringing_45 (by decide) ?_
      refine lv_iload_n hx hb dX5_ringing_14 rfl (lv_at hl 0 rfl) ?_
      refine b_iconst hx hb dX5_ringing_15 ?_
      refine b_icmp_ge (tgt := 48) hx hb dX5_ringing_16 (by decide) ⟨⟨by omega, by omega⟩, ⟨by omega, by omega⟩⟩ (fun c => absurd c (by omega)) (fun _ => ?_)
      refine lv_iload_n hx hb dX5_ringing_19 rfl (lv_at hl 1 rfl) ?_
      refine lv_aload_n hx hb dX5_ringing_20 rfl (lv_at hl 2 rfl) ?_
      refine g_get (C := RX5) (T := TX5) (N := 23) hx hb hts inX5 hown hG hM.1 rfl 7 (by decide) (by decide +kernel) rfl (v := .ref (bm + 6)) rfl dX5_ringing_21 ?_
      refine b_iconst hx hb dX5_ringing_24 ?_
      refine lv_iload_n hx hb dX5_ringing_25 rfl (lv_at hl 3 rfl) ?_
      refine b_imul hx hb dX5_ringing_26 ?_
      refine lv_iload_n hx hb dX5_ringing_27 rfl (lv_at hl 0 rfl) ?_
      refine b_iadd hx hb dX5_ringing_28 ?_
      have b_29 : 0 ≤ X 7 (3 * n + 1) ∧ X 7 (3 * n + 1) ≤ 1000024 := hV.1 7 _ (by decide) rfl
      refine g_iald (n := 24) hx hb hG (f := fun i => z2 ((up X 22 0 (0)) 7 i)) (show ca D (bm + 6) (iA (ks 0) 24 (fun i => z2 ((up X 22 0 (0)) 7 i))) _ from hM.2.1 7 (sr_of (by decide))) (3 * n + 1) ⟨by omega, by omega, by decide⟩ dX5_ringing_29 ?_
      refine W.eq (g2 := F0 m 30 ls (.int (z2 (X 7 (3 * n + 1))) :: [.int (z2 (1))])) rfl ?_
      refine b_if_le (tgt := 39) hx hb dX5_ringing_30 (by decide) ⟨by omega, by omega⟩ (fun c_30 => ?_) (fun c_30 => ?_)
      · skip
        refine b_iconst hx hb dX5_ringing_39 ?_
        refine lv_ior hx hb dX5_ringing_40 ?_
        refine b_top (v := 1) (by decide +kernel) ?_
        refine lv_istore_n (lv' := [(2, .int (z2 (1))), (3, .int (z2 (1))), (0, .ref bm), (1, .int (z2 (((n : Nat) : Int))))]) hx hb dX5_ringing_41 rfl hl (by decide) rfl (fun ls hl => ?_)
        refine b_iinc (lv' := [(3, .int (z2 (2))), (2, .int (z2 (1))), (0, .ref bm), (1, .int (z2 (((n : Nat) : Int))))]) hx hb dX5_ringing_42 hl (k := 1) rfl (by decide) rfl (fun ls hl => ?_)
        refine lv_goto (tgt := 14) hx hb dX5_ringing_45 (by decide) ?_
        refine lv_iload_n hx hb dX5_ringing_14 rfl (lv_at hl 0 rfl) ?_
        refine b_iconst hx hb dX5_ringing_15 ?_
        refine b_icmp_ge (tgt := 48) hx hb dX5_ringing_16 (by decide) ⟨⟨by omega, by omega⟩, ⟨by omega, by omega⟩⟩ (fun c => absurd c (by omega)) (fun _ => ?_)
        refine lv_iload_n hx hb dX5_ringing_19 rfl (lv_at hl 1 rfl) ?_
        refine lv_aload_n hx hb dX5_ringing_20 rfl (lv_at hl 2 rfl) ?_
        refine g_get (C := RX5) (T := TX5) (N := 23) hx hb hts inX5 hown hG hM.1 rfl 7 (by decide) (by decide +kernel) rfl (v := .ref (bm + 6)) rfl dX5_ringing_21 ?_
        refine b_iconst hx hb dX5_ringing_24 ?_
        refine lv_iload_n hx hb dX5_ringing_25 rfl (lv_at hl 3 rfl) ?_
        refine b_imul hx hb dX5_ringing_26 ?_
        refine lv_iload_n hx hb dX5_ringing_27 rfl (lv_at hl 0 rfl) ?_
        refine b_iadd hx hb dX5_ringing_28 ?_
        have b_29 : 0 ≤ X 7 (3 * n + 2) ∧ X 7 (3 * n + 2) ≤ 1000024 := hV.1 7 _ (by decide) rfl
        refine g_iald (n := 24) hx hb hG (f := fun i => z2 ((up X 22 0 (0)) 7 i)) (show ca D (bm + 6) (iA (ks 0) 24 (fun i => z2 ((up X 22 0 (0)) 7 i))) _ from hM.2.1 7 (sr_of (by decide))) (3 * n + 2) ⟨by omega, by omega, by decide⟩ dX5_ringing_29 ?_
        refine W.eq (g2 := F0 m 30 ls (.int (z2 (X 7 (3 * n + 2))) :: [.int (z2 (1))])) rfl ?_
        refine b_if_le (tgt := 39) hx hb dX5_ringing_30 (by decide) ⟨by omega, by omega⟩ (fun c_30 => ?_) (fun c_30 => ?_)
        · skip
          refine b_iconst hx hb dX5_ringing_39 ?_
          refine lv_ior hx hb dX5_ringing_40 ?_
          refine b_top (v := 1) (by decide +kernel) ?_
          refine lv_istore_n (lv' := [(2, .int (z2 (1))), (3, .int (z2 (2))), (0, .ref bm), (1, .int (z2 (((n : Nat) : Int))))]) hx hb dX5_ringing_41 rfl hl (by decide) rfl (fun ls hl => ?_)
          refine b_iinc (lv' := [(3, .int (z2 (3))), (2, .int (z2 (1))), (0, .ref bm), (1, .int (z2 (((n : Nat) : Int))))]) hx hb dX5_ringing_42 hl (k := 1) rfl (by decide) rfl (fun ls hl => ?_)
          refine lv_goto (tgt := 14) hx hb dX5_ringing_45 (by decide) ?_
          refine lv_iload_n hx hb dX5_ringing_14 rfl (lv_at hl 0 rfl) ?_
          refine b_iconst hx hb dX5_ringing_15 ?_
          refine b_icmp_ge (tgt := 48) hx hb dX5_ringing_16 (by decide) ⟨⟨by omega, by omega⟩, ⟨by omega, by omega⟩⟩ (fun _ => ?_) (fun c => absurd c (by omega))
          refine lv_iload_n hx hb dX5_ringing_48 rfl (lv_at hl 1 rfl) ?_
          exact g_iret hx hb hr hlocks hS ⟨Nat.le_of_ble_eq_true rfl, Nat.le_of_ble_eq_true rfl⟩ (⟨1, (up X 22 0 (0)), Or.inl (⟨n, by omega, by unfold rsM; (repeat' split) <;> omega, rfl⟩), rfl, hM⟩) dX5_ringing_49
        · skip
          refine b_iconst hx hb dX5_ringing_33 ?_
          refine lv_iload_n hx hb dX5_ringing_34 rfl (lv_at hl 0 rfl) ?_
          refine lv_ishl hx hb dX5_ringing_35 ?_
          refine b_top (v := 4) (by decide +kernel) ?_
          refine lv_goto (tgt := 40) hx hb dX5_ringing_36 (by decide) ?_
          refine lv_ior hx hb dX5_ringing_40 ?_
          refine b_top (v := 5) (by decide +kernel) ?_
          refine lv_istore_n (lv' := [(2, .int (z2 (5))), (3, .int (z2 (2))), (0, .ref bm), (1, .int (z2 (((n : Nat) : Int))))]) hx hb dX5_ringing_41 rfl hl (by decide) rfl (fun ls hl => ?_)
          refine b_iinc (lv' := [(3, .int (z2 (3))), (2, .int (z2 (5))), (0, .ref bm), (1, .int (z2 (((n : Nat) : Int))))]) hx hb dX5_ringing_42 hl (k := 1) rfl (by decide) rfl (fun ls hl => ?_)
          refine lv_goto (tgt := 14) hx hb dX5_ringing_45 (by decide) ?_
          refine lv_iload_n hx hb dX5_ringing_14 rfl (lv_at hl 0 rfl) ?_
          refine b_iconst hx hb dX5_ringing_15 ?_
          refine b_icmp_ge (tgt := 48) hx hb dX5_ringing_16 (by decide) ⟨⟨by omega, by omega⟩, ⟨by omega, by omega⟩⟩ (fun _ => ?_) (fun c => absurd c (by omega))
          refine lv_iload_n hx hb dX5_ringing_48 rfl (lv_at hl 1 rfl) ?_
          exact g_iret hx hb hr hlocks hS ⟨Nat.le_of_ble_eq_true rfl, Nat.le_of_ble_eq_true rfl⟩ (⟨5, (up X 22 0 (0)), Or.inl (⟨n, by omega, by unfold rsM; (repeat' split) <;> omega, rfl⟩), rfl, hM⟩) dX5_ringing_49
      · skip
        refine b_iconst hx hb dX5_ringing_33 ?_
        refine lv_iload_n hx hb dX5_ringing_34 rfl (lv_at hl 0 rfl) ?_
        refine lv_ishl hx hb dX5_ringing_35 ?_
        refine b_top (v := 2) (by decide +kernel) ?_
        refine lv_goto (tgt := 40) hx hb dX5_ringing_36 (by decide) ?_
        refine lv_ior hx hb dX5_ringing_40 ?_
        refine b_top (v := 3) (by decide +kernel) ?_
        refine lv_istore_n (lv' := [(2, .int (z2 (3))), (3, .int (z2 (1))), (0, .ref bm), (1, .int (z2 (((n : Nat) : Int))))]) hx hb dX5_ringing_41 rfl hl (by decide) rfl (fun ls hl => ?_)
        refine b_iinc (lv' := [(3, .int (z2 (2))), (2, .int (z2 (3))), (0, .ref bm), (1, .int (z2 (((n : Nat) : Int))))]) hx hb dX5_ringing_42 hl (k := 1) rfl (by decide) rfl (fun ls hl => ?_)
        refine lv_goto (tgt := 14) hx hb dX5_ringing_45 (by decide) ?_
        refine lv_iload_n hx hb dX5_ringing_14 rfl (lv_at hl 0 rfl) ?_
        refine b_iconst hx hb dX5_ringing_15 ?_
        refine b_icmp_ge (tgt := 48) hx hb dX5_ringing_16 (by decide) ⟨⟨by omega, by omega⟩, ⟨by omega, by omega⟩⟩ (fun c => absurd c (by omega)) (fun _ => ?_)
        refine lv_iload_n hx hb dX5_ringing_19 rfl (lv_at hl 1 rfl) ?_
        refine lv_aload_n hx hb dX5_ringing_20 rfl (lv_at hl 2 rfl) ?_
        refine g_get (C := RX5) (T := TX5) (N := 23) hx hb hts inX5 hown hG hM.1 rfl 7 (by decide) (by decide +kernel) rfl (v := .ref (bm + 6)) rfl dX5_ringing_21 ?_
        refine b_iconst hx hb dX5_ringing_24 ?_
        refine lv_iload_n hx hb dX5_ringing_25 rfl (lv_at hl 3 rfl) ?_
        refine b_imul hx hb dX5_ringing_26 ?_
        refine lv_iload_n hx hb dX5_ringing_27 rfl (lv_at hl 0 rfl) ?_
        refine b_iadd hx hb dX5_ringing_28 ?_
        have b_29 : 0 ≤ X 7 (3 * n + 2) ∧ X 7 (3 * n + 2) ≤ 1000024 := hV.1 7 _ (by decide) rfl
        refine g_iald (n := 24) hx hb hG (f := fun i => z2 ((up X 22 0 (0)) 7 i)) (show ca D (bm + 6) (iA (ks 0) 24 (fun i => z2 ((up X 22 0 (0)) 7 i))) _ from hM.2.1 7 (sr_of (by decide))) (3 * n + 2) ⟨by omega, by omega, by decide⟩ dX5_ringing_29 ?_
        refine W.eq (g2 := F0 m 30 ls (.int (z2 (X 7 (3 * n + 2))) :: [.int (z2 (3))])) rfl ?_
        refine b_if_le (tgt := 39) hx hb dX5_ringing_30 (by decide) ⟨by omega, by omega⟩ (fun c_30 => ?_) (fun c_30 => ?_)
        · skip
          refine b_iconst hx hb dX5_ringing_39 ?_
          refine lv_ior hx hb dX5_ringing_40 ?_
          refine b_top (v := 3) (by decide +kernel) ?_
          refine lv_istore_n (lv' := [(2, .int (z2 (3))), (3, .int (z2 (2))), (0, .ref bm), (1, .int (z2 (((n : Nat) : Int))))]) hx hb dX5_ringing_41 rfl hl (by decide) rfl (fun ls hl => ?_)
          refine b_iinc (lv' := [(3, .int (z2 (3))), (2, .int (z2 (3))), (0, .ref bm), (1, .int (z2 (((n : Nat) : Int))))]) hx hb dX5_ringing_42 hl (k := 1) rfl (by decide) rfl (fun ls hl => ?_)
          refine lv_goto (tgt := 14) hx hb dX5_ringing_45 (by decide) ?_
          refine lv_iload_n hx hb dX5_ringing_14 rfl (lv_at hl 0 rfl) ?_
          refine b_iconst hx hb dX5_ringing_15 ?_
          refine b_icmp_ge (tgt := 48) hx hb dX5_ringing_16 (by decide) ⟨⟨by omega, by omega⟩, ⟨by omega, by omega⟩⟩ (fun _ => ?_) (fun c => absurd c (by omega))
          refine lv_iload_n hx hb dX5_ringing_48 rfl (lv_at hl 1 rfl) ?_
          exact g_iret hx hb hr hlocks hS ⟨Nat.le_of_ble_eq_true rfl, Nat.le_of_ble_eq_true rfl⟩ (⟨3, (up X 22 0 (0)), Or.inl (⟨n, by omega, by unfold rsM; (repeat' split) <;> omega, rfl⟩), rfl, hM⟩) dX5_ringing_49
        · skip
          refine b_iconst hx hb dX5_ringing_33 ?_
          refine lv_iload_n hx hb dX5_ringing_34 rfl (lv_at hl 0 rfl) ?_
          refine lv_ishl hx hb dX5_ringing_35 ?_
          refine b_top (v := 4) (by decide +kernel) ?_
          refine lv_goto (tgt := 40) hx hb dX5_ringing_36 (by decide) ?_
          refine lv_ior hx hb dX5_ringing_40 ?_
          refine b_top (v := 7) (by decide +kernel) ?_
          refine lv_istore_n (lv' := [(2, .int (z2 (7))), (3, .int (z2 (2))), (0, .ref bm), (1, .int (z2 (((n : Nat) : Int))))]) hx hb dX5_ringing_41 rfl hl (by decide) rfl (fun ls hl => ?_)
          refine b_iinc (lv' := [(3, .int (z2 (3))), (2, .int (z2 (7))), (0, .ref bm), (1, .int (z2 (((n : Nat) : Int))))]) hx hb dX5_ringing_42 hl (k := 1) rfl (by decide) rfl (fun ls hl => ?_)
          refine lv_goto (tgt := 14) hx hb dX5_ringing_45 (by decide) ?_
          refine lv_iload_n hx hb dX5_ringing_14 rfl (lv_at hl 0 rfl) ?_
          refine b_iconst hx hb dX5_ringing_15 ?_
          refine b_icmp_ge (tgt := 48) hx hb dX5_ringing_16 (by decide) ⟨⟨by omega, by omega⟩, ⟨by omega, by omega⟩⟩ (fun _ => ?_) (fun c => absurd c (by omega))
          refine lv_iload_n hx hb dX5_ringing_48 rfl (lv_at hl 1 rfl) ?_
          exact g_iret hx hb hr hlocks hS ⟨Nat.le_of_ble_eq_true rfl, Nat.le_of_ble_eq_true rfl⟩ (⟨7, (up X 22 0 (0)), Or.inl (⟨n, by omega, by unfold rsM; (repeat' split) <;> omega, rfl⟩), rfl, hM⟩) dX5_ringing_49
  · skip
    refine W.eq (g2 := F0 m 5 ls [.int (z2 (0))]) rfl ?_
    refine b_if_ne (tgt := 10) hx hb dX5_ringing_5 (by decide) ⟨by omega, by omega⟩ (fun c => absurd c (by omega)) (fun _ => ?_)
    refine b_iconst hx hb dX5_ringing_8 ?_
    exact g_iret hx hb hr hlocks hS ⟨Nat.le_of_ble_eq_true rfl, Nat.le_of_ble_eq_true rfl⟩ (⟨0, (up X 22 0 (1)), Or.inr (⟨by omega, rfl⟩), rfl, hM⟩) dX5_ringing_9
set_option maxHeartbeats 4000000 in
set_option maxRecDepth 100000 in
theorem m_ringsLeft (l : Launch) (D : va_G) (ks : Nat → ClassId) (bx : Nat) (bm : Nat) (hbm : bx ≤ bm) (X : Nat → Nat → Int) (H : Heap) (hM : PM D ks bm X H) (hV : VS X) (u v2 : Int) (hu : -2147483648 ≤ u ∧ u < 2147483648) (hv2 : -2147483648 ≤ v2 ∧ v2 < 2147483648) : KM l yX5_ringsLeft wsX5_ringsLeft ({ frames := 2, cells := 0, slots := 0, locals := 42 } : Room) D ks bx [.ref bm, .int (z2 u), .int (z2 v2)] H (RM bm) (fun v H1 => ∃ (r : Int) (Y : Nat → Nat → Int), ro_ringsLeft X u v2 r Y ∧ v = some (.int (z2 r)) ∧ PM D ks bm Y H1) (fun _ _ => False) := by
  refine KM.of (cc := cX5_ringsLeft) (maxL := 3) (ret := (some .int)) (by decide) rfl (Nat.le_of_ble_eq_true rfl) ?_
  intro p e s m below meth c hx hb hml hr hlocks hown hname hts hext hH0 hG ls hl
  subst hH0
  have hown : s.vm.findClass RX5 = some m.cls := hown
  have hS : va_S (AR (RM bm) s.heap.size) s.heap s.heap [] := va_S.rf
  have hl : lv_has ls 3 [(0, .ref bm), (1, .int (z2 (u))), (2, .int (z2 (v2)))] := hl
  have inX5 : ∀ w ∈ wsX50, w ∈ wsX5_ringsLeft := by decide +kernel
  have b1 : 0 ≤ X 1 0 ∧ X 1 0 ≤ 12 := hV.1 1 0 (by decide) rfl
  refine lv_aload_n hx hb dX5_ringsLeft_0 rfl (lv_at hl 0 rfl) ?_
  refine lv_iload_n hx hb dX5_ringsLeft_1 rfl (lv_at hl 1 rfl) ?_
  refine g_run (vx_runS (As := [.int (z2 (u))]) (rest := [.ref bm]) ⟨hx, hb, hml, hown, hts⟩ (m_isHouse l D ks bx bm hbm _ (u) ⟨by omega, by omega⟩) (cwS 1 hts gX5_ringsLeft_X5_isHouse rfl rfl rfl (by decide +kernel) ⟨Nat.le_of_ble_eq_true rfl, Nat.le_of_ble_eq_true rfl⟩) (g_preS hG hS (rm_ge hbm)) rfl rfl hl.1 rfl (lv_room (Nat.le_of_ble_eq_true rfl)) dX5_ringsLeft_2 ⟨Nat.le_of_ble_eq_true rfl, Nat.le_of_ble_eq_true rfl⟩) hS (fun _ h => h) (fun _ _ _ _ _ h => h.elim) (fun v H1 locs hp hz9 hk9 hS => ?_)
  obtain ⟨rfl, hH9⟩ := hp
  obtain rfl := hH9.symm
  obtain ⟨iv_2, ev_2, ib_2⟩ : ∃ z : Int, z = (if 0 ≤ u ∧ u ≤ 7 then 1 else 0) ∧ (((0 ≤ u ∧ u ≤ 7) ∧ z = 1) ∨ (¬ (0 ≤ u ∧ u ≤ 7) ∧ z = 0)) := ⟨_, rfl, by split <;> omega⟩
  rw [← ev_2]
  refine W.eq (g2 := F0 m 5 ls [.int (z2 (iv_2)), .ref bm]) rfl ?_
  refine b_if_eq (tgt := 26) hx hb dX5_ringsLeft_5 (by decide) ⟨by omega, by omega⟩ (fun c_5 => ?_) (fun c_5 => ?_)
  · skip
    refine b_iconst hx hb dX5_ringsLeft_26 ?_
    refine g_put (C := RX5) (T := TX5) (N := 23) hx hb hts inX5 tyX5 tyX5_ok nmX5 hown hG hS hM.1 (Or.inl ⟨by omega, by omega⟩) rfl 22 (by decide) (by decide +kernel) rfl rfl (v := .int (z2 (1))) rfl rfl (Nat.le_of_ble_eq_true rfl) dX5_ringsLeft_27 (fun H locs he hz oq hS => ?_)
    have hM : PM D ks bm (up X 22 0 (1)) H := hM.own (k := 22) (by decide) he oq
    refine lv_aload_n hx hb dX5_ringsLeft_30 rfl (lv_at hl 0 rfl) ?_
    refine g_get (C := RX5) (T := TX5) (N := 23) hx hb hts inX5 hown hG hM.1 rfl 22 (by decide) (by decide +kernel) rfl (v := .int (z2 (1))) (congrArg (fun z => some (Value.int (z2 z))) (by simp [up] : (up X 22 0 (1)) 22 0 = 1)) dX5_ringsLeft_31 ?_
    refine b_if_le (tgt := 39) hx hb dX5_ringsLeft_34 (by decide) ⟨by omega, by omega⟩ (fun c => absurd c (by omega)) (fun _ => ?_)
    refine b_iconst hx hb dX5_ringsLeft_37 ?_
    exact g_iret hx hb hr hlocks hS ⟨Nat.le_of_ble_eq_true rfl, Nat.le_of_ble_eq_true rfl⟩ (⟨0, up X 22 0 (1), Or.inr (⟨by omega, rfl⟩), rfl, hM⟩) dX5_ringsLeft_38
  · skip
    refine lv_iload_n hx hb dX5_ringsLeft_8 rfl (lv_at hl 2 rfl) ?_
    refine b_iconst hx hb dX5_ringsLeft_9 ?_
    refine lv_aload_n hx hb dX5_ringsLeft_10 rfl (lv_at hl 0 rfl) ?_
    have b_11 : 0 ≤ X 1 0 ∧ X 1 0 ≤ 12 := hV.1 1 _ (by decide) rfl
    refine g_get (C := RX5) (T := TX5) (N := 23) hx hb hts inX5 hown hG hM.1 rfl 1 (by decide) (by decide +kernel) rfl (v := .int (z2 (X 1 0))) rfl dX5_ringsLeft_11 ?_
    refine b_iconst hx hb dX5_ringsLeft_14 ?_
    refine b_isub hx hb dX5_ringsLeft_15 ?_
    refine g_run (vx_runS (As := [.int (z2 (v2)), .int (z2 (0)), .int (z2 ((X 1 0) - 1))]) (rest := [.ref bm]) ⟨hx, hb, hml, hown, hts⟩ (m_in l D ks bx bm _ (v2) (0) ((X 1 0) - 1) ⟨⟨by omega, by omega⟩, ⟨by omega, by omega⟩, by omega, by omega⟩) (cwS 3 hts gX5_ringsLeft_X5_in rfl rfl rfl (by decide +kernel) ⟨Nat.le_of_ble_eq_true rfl, Nat.le_of_ble_eq_true rfl⟩) (g_preS hG hS (rm_ge hbm)) rfl rfl hl.1 rfl (lv_room (Nat.le_of_ble_eq_true rfl)) dX5_ringsLeft_16 ⟨Nat.le_of_ble_eq_true rfl, Nat.le_of_ble_eq_true rfl⟩) hS (fun _ h => h) (fun _ _ _ _ _ h => h.elim) (fun v H1 locs hp hz9 hk9 hS => ?_)
    obtain ⟨rfl, hH9⟩ := hp
    obtain rfl := hH9.symm
    obtain ⟨iv_16, ev_16, ib_16⟩ : ∃ z : Int, z = (if 0 ≤ v2 ∧ v2 ≤ (X 1 0) - 1 then 1 else 0) ∧ (((0 ≤ v2 ∧ v2 ≤ (X 1 0) - 1) ∧ z = 1) ∨ (¬ (0 ≤ v2 ∧ v2 ≤ (X 1 0) - 1) ∧ z = 0)) := ⟨_, rfl, by split <;> omega⟩
    rw [← ev_16]
    refine W.eq (g2 := F0 m 19 ls [.int (z2 (iv_16)), .ref bm]) rfl ?_
    refine b_if_eq (tgt := 26) hx hb dX5_ringsLeft_19 (by decide) ⟨by omega, by omega⟩ (fun c_19 => ?_) (fun c_19 => ?_)
    · skip
      refine b_iconst hx hb dX5_ringsLeft_26 ?_
      refine g_put (C := RX5) (T := TX5) (N := 23) hx hb hts inX5 tyX5 tyX5_ok nmX5 hown hG hS hM.1 (Or.inl ⟨by omega, by omega⟩) rfl 22 (by decide) (by decide +kernel) rfl rfl (v := .int (z2 (1))) rfl rfl (Nat.le_of_ble_eq_true rfl) dX5_ringsLeft_27 (fun H locs he hz oq hS => ?_)
      have hM : PM D ks bm (up X 22 0 (1)) H := hM.own (k := 22) (by decide) he oq
      refine lv_aload_n hx hb dX5_ringsLeft_30 rfl (lv_at hl 0 rfl) ?_
      refine g_get (C := RX5) (T := TX5) (N := 23) hx hb hts inX5 hown hG hM.1 rfl 22 (by decide) (by decide +kernel) rfl (v := .int (z2 (1))) (congrArg (fun z => some (Value.int (z2 z))) (by simp [up] : (up X 22 0 (1)) 22 0 = 1)) dX5_ringsLeft_31 ?_
      refine b_if_le (tgt := 39) hx hb dX5_ringsLeft_34 (by decide) ⟨by omega, by omega⟩ (fun c => absurd c (by omega)) (fun _ => ?_)
      refine b_iconst hx hb dX5_ringsLeft_37 ?_
      exact g_iret hx hb hr hlocks hS ⟨Nat.le_of_ble_eq_true rfl, Nat.le_of_ble_eq_true rfl⟩ (⟨0, up X 22 0 (1), Or.inr (⟨by omega, rfl⟩), rfl, hM⟩) dX5_ringsLeft_38
    · skip
      refine b_iconst hx hb dX5_ringsLeft_22 ?_
      refine lv_goto (tgt := 27) hx hb dX5_ringsLeft_23 (by decide) ?_
      refine g_put (C := RX5) (T := TX5) (N := 23) hx hb hts inX5 tyX5 tyX5_ok nmX5 hown hG hS hM.1 (Or.inl ⟨by omega, by omega⟩) rfl 22 (by decide) (by decide +kernel) rfl rfl (v := .int (z2 (0))) rfl rfl (Nat.le_of_ble_eq_true rfl) dX5_ringsLeft_27 (fun H locs he hz oq hS => ?_)
      have hM : PM D ks bm (up X 22 0 (0)) H := hM.own (k := 22) (by decide) he oq
      refine lv_aload_n hx hb dX5_ringsLeft_30 rfl (lv_at hl 0 rfl) ?_
      refine g_get (C := RX5) (T := TX5) (N := 23) hx hb hts inX5 hown hG hM.1 rfl 22 (by decide) (by decide +kernel) rfl (v := .int (z2 (0))) (congrArg (fun z => some (Value.int (z2 z))) (by simp [up] : (up X 22 0 (0)) 22 0 = 0)) dX5_ringsLeft_31 ?_
      refine b_if_le (tgt := 39) hx hb dX5_ringsLeft_34 (by decide) ⟨by omega, by omega⟩ (fun _ => ?_) (fun c => absurd c (by omega))
      obtain ⟨n, rfl⟩ : ∃ n : Nat, u = n := ⟨(u).toNat, by omega⟩
      obtain ⟨k, rfl⟩ : ∃ k : Nat, v2 = k := ⟨(v2).toNat, by omega⟩
      refine lv_aload_n hx hb dX5_ringsLeft_39 rfl (lv_at hl 0 rfl) ?_
      refine g_get (C := RX5) (T := TX5) (N := 23) hx hb hts inX5 hown hG hM.1 rfl 2 (by decide) (by decide +kernel) rfl (v := .ref (bm + 1)) rfl dX5_ringsLeft_40 ?_
      refine lv_iload_n hx hb dX5_ringsLeft_43 rfl (lv_at hl 2 rfl) ?_
      have b_44 : 0 ≤ X 2 k ∧ X 2 k ≤ 7 := hV.1 2 _ (by decide) rfl
      refine g_iald (n := 12) hx hb hG (f := fun i => z2 ((up X 22 0 (0)) 2 i)) (show ca D (bm + 1) (iA (ks 0) 12 (fun i => z2 ((up X 22 0 (0)) 2 i))) _ from hM.2.1 2 (sr_of (by decide))) k ⟨by omega, by omega, by decide⟩ dX5_ringsLeft_44 ?_
      refine W.eq (g2 := F0 m 45 ls (.int (z2 (X 2 k)) :: [])) rfl ?_
      refine lv_iload_n hx hb dX5_ringsLeft_45 rfl (lv_at hl 1 rfl) ?_
      refine b_icmp_ne (tgt := 53) hx hb dX5_ringsLeft_46 (by decide) ⟨⟨by omega, by omega⟩, ⟨by omega, by omega⟩⟩ (fun c_46 => ?_) (fun c_46 => ?_)
      · skip
        refine lv_aload_n hx hb dX5_ringsLeft_53 rfl (lv_at hl 0 rfl) ?_
        refine g_get (C := RX5) (T := TX5) (N := 23) hx hb hts inX5 hown hG hM.1 rfl 8 (by decide) (by decide +kernel) rfl (v := .ref (bm + 7)) rfl dX5_ringsLeft_54 ?_
        refine b_bipush hx hb dX5_ringsLeft_57 (by decide +kernel) ?_
        refine lv_iload_n hx hb dX5_ringsLeft_59 rfl (lv_at hl 1 rfl) ?_
        refine b_imul hx hb dX5_ringsLeft_60 ?_
        refine lv_iload_n hx hb dX5_ringsLeft_61 rfl (lv_at hl 2 rfl) ?_
        refine b_iadd hx hb dX5_ringsLeft_62 ?_
        have b_63 : 0 ≤ X 8 (12 * n + k) ∧ X 8 (12 * n + k) ≤ 1000 := hV.1 8 _ (by decide) rfl
        refine g_iald (n := 96) hx hb hG (f := fun i => z2 ((up X 22 0 (0)) 8 i)) (show ca D (bm + 7) (iA (ks 0) 96 (fun i => z2 ((up X 22 0 (0)) 8 i))) _ from hM.2.1 8 (sr_of (by decide))) (12 * n + k) ⟨by omega, by omega, by decide⟩ dX5_ringsLeft_63 ?_
        refine W.eq (g2 := F0 m 64 ls (.int (z2 (X 8 (12 * n + k))) :: [])) rfl ?_
        exact g_iret hx hb hr hlocks hS ⟨Nat.le_of_ble_eq_true rfl, Nat.le_of_ble_eq_true rfl⟩ (⟨X 8 (12 * n + k), up X 22 0 (0), Or.inl (⟨n, k, by omega, by first | rw [if_pos (by omega)] | rw [if_neg (by omega)], rfl⟩), rfl, hM⟩) dX5_ringsLeft_64
      · skip
        refine b_iconst hx hb dX5_ringsLeft_49 ?_
        refine lv_goto (tgt := 64) hx hb dX5_ringsLeft_50 (by decide) ?_
        exact g_iret hx hb hr hlocks hS ⟨Nat.le_of_ble_eq_true rfl, Nat.le_of_ble_eq_true rfl⟩ (⟨(-1), up X 22 0 (0), Or.inl (⟨n, k, by omega, by first | rw [if_pos (by omega)] | rw [if_neg (by omega)], rfl⟩), rfl, hM⟩) dX5_ringsLeft_64
set_option maxHeartbeats 4000000 in
set_option maxRecDepth 100000 in
theorem m_faultAt (l : Launch) (D : va_G) (ks : Nat → ClassId) (bx : Nat) (bm : Nat) (hbm : bx ≤ bm) (X : Nat → Nat → Int) (H : Heap) (hM : PM D ks bm X H) (hV : VS X) (u : Int) (hu : -2147483648 ≤ u ∧ u < 2147483648) : KM l yX5_faultAt wsX5_faultAt ({ frames := 1, cells := 0, slots := 0, locals := 22 } : Room) D ks bx [.ref bm, .int (z2 u)] H (RM bm) (fun v H1 => ∃ (r : Int) (Y : Nat → Nat → Int), ro_faultAt X u r Y ∧ v = some (.int (z2 r)) ∧ PM D ks bm Y H1) (fun _ _ => False) := by
  refine KM.of (cc := cX5_faultAt) (maxL := 2) (ret := (some .int)) (by decide) rfl (Nat.le_of_ble_eq_true rfl) ?_
  intro p e s m below meth c hx hb hml hr hlocks hown hname hts hext hH0 hG ls hl
  subst hH0
  have hown : s.vm.findClass RX5 = some m.cls := hown
  have hS : va_S (AR (RM bm) s.heap.size) s.heap s.heap [] := va_S.rf
  have hl : lv_has ls 2 [(0, .ref bm), (1, .int (z2 (u)))] := hl
  have inX5 : ∀ w ∈ wsX50, w ∈ wsX5_faultAt := by decide +kernel
  refine lv_aload_n hx hb dX5_faultAt_0 rfl (lv_at hl 0 rfl) ?_
  refine lv_iload_n hx hb dX5_faultAt_1 rfl (lv_at hl 1 rfl) ?_
  refine b_iconst hx hb dX5_faultAt_2 ?_
  refine lv_aload_n hx hb dX5_faultAt_3 rfl (lv_at hl 0 rfl) ?_
  have b_4 : 0 ≤ X 20 0 ∧ X 20 0 ≤ 100 := hV.1 20 _ (by decide) rfl
  refine g_get (C := RX5) (T := TX5) (N := 23) hx hb hts inX5 hown hG hM.1 rfl 20 (by decide) (by decide +kernel) rfl (v := .int (z2 (X 20 0))) rfl dX5_faultAt_4 ?_
  refine b_iconst hx hb dX5_faultAt_7 ?_
  refine b_isub hx hb dX5_faultAt_8 ?_
  refine g_run (vx_runS (As := [.int (z2 (u)), .int (z2 (0)), .int (z2 ((X 20 0) - 1))]) (rest := [.ref bm]) ⟨hx, hb, hml, hown, hts⟩ (m_in l D ks bx bm _ (u) (0) ((X 20 0) - 1) ⟨⟨by omega, by omega⟩, ⟨by omega, by omega⟩, by omega, by omega⟩) (cwS 3 hts gX5_faultAt_X5_in rfl rfl rfl (by decide +kernel) ⟨Nat.le_of_ble_eq_true rfl, Nat.le_of_ble_eq_true rfl⟩) (g_preS hG hS (rm_ge hbm)) rfl rfl hl.1 rfl (lv_room (Nat.le_of_ble_eq_true rfl)) dX5_faultAt_9 ⟨Nat.le_of_ble_eq_true rfl, Nat.le_of_ble_eq_true rfl⟩) hS (fun _ h => h) (fun _ _ _ _ _ h => h.elim) (fun v H1 locs hp hz9 hk9 hS => ?_)
  obtain ⟨rfl, hH9⟩ := hp
  obtain rfl := hH9.symm
  obtain ⟨iv_9, ev_9, ib_9⟩ : ∃ z : Int, z = (if 0 ≤ u ∧ u ≤ (X 20 0) - 1 then 1 else 0) ∧ (((0 ≤ u ∧ u ≤ (X 20 0) - 1) ∧ z = 1) ∨ (¬ (0 ≤ u ∧ u ≤ (X 20 0) - 1) ∧ z = 0)) := ⟨_, rfl, by split <;> omega⟩
  rw [← ev_9]
  refine W.eq (g2 := F0 m 12 ls [.int (z2 (iv_9)), .ref bm]) rfl ?_
  refine b_if_eq (tgt := 19) hx hb dX5_faultAt_12 (by decide) ⟨by omega, by omega⟩ (fun c_12 => ?_) (fun c_12 => ?_)
  · skip
    refine b_iconst hx hb dX5_faultAt_19 ?_
    refine g_put (C := RX5) (T := TX5) (N := 23) hx hb hts inX5 tyX5 tyX5_ok nmX5 hown hG hS hM.1 (Or.inl ⟨by omega, by omega⟩) rfl 22 (by decide) (by decide +kernel) rfl rfl (v := .int (z2 (1))) rfl rfl (Nat.le_of_ble_eq_true rfl) dX5_faultAt_20 (fun H locs he hz oq hS => ?_)
    have hM : PM D ks bm (up X 22 0 (1)) H := hM.own (k := 22) (by decide) he oq
    refine lv_aload_n hx hb dX5_faultAt_23 rfl (lv_at hl 0 rfl) ?_
    refine g_get (C := RX5) (T := TX5) (N := 23) hx hb hts inX5 hown hG hM.1 rfl 22 (by decide) (by decide +kernel) rfl (v := .int (z2 (1))) (congrArg (fun z => some (Value.int (z2 z))) (by simp [up] : (up X 22 0 (1)) 22 0 = 1)) dX5_faultAt_24 ?_
    refine b_if_ne (tgt := 39) hx hb dX5_faultAt_27 (by decide) ⟨by omega, by omega⟩ (fun _ => ?_) (fun c => absurd c (by omega))
    refine b_iconst hx hb dX5_faultAt_39 ?_
    exact g_iret hx hb hr hlocks hS ⟨Nat.le_of_ble_eq_true rfl, Nat.le_of_ble_eq_true rfl⟩ (⟨0, up X 22 0 (1), Or.inr (⟨by omega, rfl⟩), rfl, hM⟩) dX5_faultAt_40
  · skip
    refine b_iconst hx hb dX5_faultAt_15 ?_
    refine lv_goto (tgt := 20) hx hb dX5_faultAt_16 (by decide) ?_
    refine g_put (C := RX5) (T := TX5) (N := 23) hx hb hts inX5 tyX5 tyX5_ok nmX5 hown hG hS hM.1 (Or.inl ⟨by omega, by omega⟩) rfl 22 (by decide) (by decide +kernel) rfl rfl (v := .int (z2 (0))) rfl rfl (Nat.le_of_ble_eq_true rfl) dX5_faultAt_20 (fun H locs he hz oq hS => ?_)
    have hM : PM D ks bm (up X 22 0 (0)) H := hM.own (k := 22) (by decide) he oq
    refine lv_aload_n hx hb dX5_faultAt_23 rfl (lv_at hl 0 rfl) ?_
    refine g_get (C := RX5) (T := TX5) (N := 23) hx hb hts inX5 hown hG hM.1 rfl 22 (by decide) (by decide +kernel) rfl (v := .int (z2 (0))) (congrArg (fun z => some (Value.int (z2 z))) (by simp [up] : (up X 22 0 (0)) 22 0 = 0)) dX5_faultAt_24 ?_
    refine b_if_ne (tgt := 39) hx hb dX5_faultAt_27 (by decide) ⟨by omega, by omega⟩ (fun c => absurd c (by omega)) (fun _ => ?_)
    obtain ⟨q, rfl⟩ : ∃ q : Nat, u = q := ⟨(u).toNat, by omega⟩
    refine lv_aload_n hx hb dX5_faultAt_30 rfl (lv_at hl 0 rfl) ?_
    refine g_get (C := RX5) (T := TX5) (N := 23) hx hb hts inX5 hown hG hM.1 rfl 21 (by decide) (by decide +kernel) rfl (v := .ref (bm + 19)) rfl dX5_faultAt_31 ?_
    refine lv_iload_n hx hb dX5_faultAt_34 rfl (lv_at hl 1 rfl) ?_
    refine g_iald (n := 100) hx hb hG (f := fun i => z2 ((up X 22 0 (0)) 21 i)) (show ca D (bm + 19) (iA (ks 0) 100 (fun i => z2 ((up X 22 0 (0)) 21 i))) _ from hM.2.1 21 (sr_of (by decide))) q ⟨by omega, by omega, by decide⟩ dX5_faultAt_35 ?_
    refine W.eq (g2 := F0 m 36 ls (.int (z2 (X 21 q)) :: [])) rfl ?_
    refine lv_goto (tgt := 40) hx hb dX5_faultAt_36 (by decide) ?_
    exact g_iret hx hb hr hlocks hS ⟨Nat.le_of_ble_eq_true rfl, Nat.le_of_ble_eq_true rfl⟩ (⟨X 21 q, up X 22 0 (0), Or.inl (⟨q, by omega, rfl, rfl⟩), rfl, hM⟩) dX5_faultAt_40
