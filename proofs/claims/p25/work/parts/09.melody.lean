/-! THE CLASS, module Melody. -/
set_option maxHeartbeats 4000000 in
set_option maxRecDepth 100000 in
theorem k_tone (l : Launch) (D : va_G) (ks : Nat → ClassId) (bx : Nat) (ml : Nat → Nat) (X : Nat → Nat → Int) (H : Heap) (hP : PX D ks bx ml X H) (hV : VX X) {k : Nat} (hk : (k : Int) < X 4 0) {q : Nat} (v2 : Int) (hq : v2 = q ∧ q < 16) : KM l yX3_tone wsX3_tone ({ frames := 0, cells := 0, slots := 0, locals := 0 } : Room) D ks bx [.ref (ml k), .int (z2 v2)] H (RX bx) (fun v H1 => v = some (.int (z2 (toS (X 38 k) q))) ∧ H1 = H) (fun _ _ => False) := by
  refine KM.of (cc := cX3_tone) (maxL := 2) (ret := (some .int)) (by decide) rfl (Nat.le_of_ble_eq_true rfl) ?_
  intro p e s m below meth c hx hb hml hr hlocks hown hname hts hext hH0 hG ls hl
  subst hH0
  have hown : s.vm.findClass RX3 = some m.cls := hown
  have hS : va_S (AR (RX bx) s.heap.size) s.heap s.heap [] := va_S.rf
  have hl : lv_has ls 2 [(0, .ref (ml k)), (1, .int (z2 (v2)))] := hl
  have inX3 : ∀ w ∈ wsX30, w ∈ wsX3_tone := by decide +kernel
  have t48 : X 38 k < 281474976710656 := Int.lt_of_lt_of_le (hV.2.2 k).2 (p16 (by have b : 1 ≤ X 37 k ∧ X 37 k ≤ 12 := hV.1 37 _ rfl; omega))
  have t0 : 0 ≤ X 38 k := (hV.2.2 k).1
  obtain ⟨rfl, hq⟩ := hq
  refine lv_aload_n hx hb dX3_tone_0 rfl (lv_at hl 0 rfl) ?_
  refine g_get (C := RX3) (T := TX3) (N := 4) hx hb hts inX3 hown hG (hP.me hk) rfl 3 (by decide) (by decide +kernel) rfl (v := .long (l2 (X 38 k))) rfl dX3_tone_1 ?_
  refine b_iconst hx hb dX3_tone_4 ?_
  refine lv_iload_n hx hb dX3_tone_5 rfl (lv_at hl 1 rfl) ?_
  refine b_imul hx hb dX3_tone_6 ?_
  refine lv_lshr hx hb dX3_tone_7 rfl ?_
  refine b_topl (v := X 38 k / 16 ^ q) (l2_tone ⟨t0, by omega⟩ (by omega)) ?_
  refine lv_l2i (v := z2 (X 38 k / 16 ^ q)) hx hb dX3_tone_8 (l2_z2 _) ?_
  refine b_bipush hx hb dX3_tone_9 (by decide +kernel) ?_
  refine lv_iand hx hb dX3_tone_11 ?_
  refine b_top (v := (X 38 k / 16 ^ q) % 16) (z2_and15 _) ?_
  exact g_iret hx hb hr hlocks hS ⟨Nat.le_of_ble_eq_true rfl, Nat.le_of_ble_eq_true rfl⟩ (⟨rfl, rfl⟩) dX3_tone_12
set_option maxHeartbeats 4000000 in
set_option maxRecDepth 100000 in
theorem k_tonesShifted (l : Launch) (D : va_G) (ks : Nat → ClassId) (bx : Nat) (ml : Nat → Nat) (X : Nat → Nat → Int) (H : Heap) (hP : PX D ks bx ml X H) (hV : VX X) {k : Nat} (hk : (k : Int) < X 4 0) (v2 : Int) (hr : 0 ≤ v2 ∧ v2 ≤ 15) {cn : Nat} (hc : X 37 k = cn) : KM l yX3_tonesShifted wsX3_tonesShifted ({ frames := 1, cells := 0, slots := 0, locals := 21 } : Room) D ks bx [.ref (ml k), .int (z2 v2)] H (RX bx) (fun v H1 => v = some (.long (l2 (shR (X 38 k) v2 cn cn))) ∧ H1 = H) (fun _ _ => False) := by
  refine KM.of (cc := cX3_tonesShifted) (maxL := 5) (ret := (some .long)) (by decide) rfl (Nat.le_of_ble_eq_true rfl) ?_
  intro p e s m below meth c hx hb hml hr hlocks hown hname hts hext hH0 hG ls hl
  subst hH0
  have hown : s.vm.findClass RX3 = some m.cls := hown
  have hS : va_S (AR (RX bx) s.heap.size) s.heap s.heap [] := va_S.rf
  have hl : lv_has ls 5 [(0, .ref (ml k)), (1, .int (z2 (v2)))] := hl
  have inX3 : ∀ w ∈ wsX30, w ∈ wsX3_tonesShifted := by decide +kernel
  have bc : 1 ≤ X 37 k ∧ X 37 k ≤ 12 := hV.1 37 _ rfl
  refine lv_lconst (v := l2 0) hx hb dX3_tonesShifted_0 (by decide +kernel) ?_
  refine lv_lstore_n (lv' := [(2, .long (l2 0)), (0, .ref (ml k)), (1, .int (z2 (v2)))]) hx hb dX3_tonesShifted_1 rfl hl (by decide) rfl (fun ls hl => ?_)
  refine lv_aload_n hx hb dX3_tonesShifted_2 rfl (lv_at hl 1 rfl) ?_
  have b_3 : 1 ≤ X 37 k ∧ X 37 k ≤ 12 := hV.1 37 _ rfl
  refine g_get (C := RX3) (T := TX3) (N := 4) hx hb hts inX3 hown hG (hP.me hk) rfl 2 (by decide) (by decide +kernel) rfl (v := .int (z2 (X 37 k))) rfl dX3_tonesShifted_3 ?_
  refine b_iconst hx hb dX3_tonesShifted_6 ?_
  refine b_isub hx hb dX3_tonesShifted_7 ?_
  refine lv_istore (lv' := [(4, .int (z2 ((X 37 k) - 1))), (2, .long (l2 0)), (0, .ref (ml k)), (1, .int (z2 (v2)))]) hx hb dX3_tonesShifted_8 hl (by decide) rfl (fun ls hl => ?_)
  refine lp_ms (σ := Nat) (fun j H locs ls => j ≤ cn ∧ PX D ks bx ml X H ∧ H = s.heap ∧ va_S (AR (RX bx) s.heap.size) s.heap H locs ∧ lv_has ls 5 [(0, .ref (ml k)), (1, .int (z2 (v2))), (2, .long (l2 (shR (X 38 k) v2 cn j))), (4, .int (z2 ((cn : Int) - 1 - ((j : Nat) : Int))))]) (fun j => cn - j) (fun j H locs ls hI ih => ?_) 0 ⟨by omega, hP, rfl, hS, (by have e0 : (cn : Int) - 1 - ((0 : Nat) : Int) = X 37 k - 1 := (by omega); rw [e0]; exact lv_sub hl [2, 3, 1, 0] rfl)⟩
  obtain ⟨hkN, hP, hHs, hS, hl⟩ := hI
  have sb := shR_b (X 38 k) v2 cn j
  have sp := p16 (k := j) (by omega)
  refine lv_iload hx hb dX3_tonesShifted_10 (lv_at hl 3 rfl) ?_
  refine b_if_lt (tgt := 38) hx hb dX3_tonesShifted_12 (by decide) ⟨by omega, by omega⟩ (fun c_12 => ?_) (fun c_12 => ?_)
  · skip
    refine lv_lload_n hx hb dX3_tonesShifted_38 rfl (lv_at hl 2 rfl) ?_
    obtain rfl : j = cn := by omega
    exact g_lret hx hb hr hlocks hS ⟨Nat.le_of_ble_eq_true rfl, Nat.le_of_ble_eq_true rfl⟩ (⟨rfl, hHs⟩) dX3_tonesShifted_39
  · skip
    refine lv_lload_n hx hb dX3_tonesShifted_15 rfl (lv_at hl 2 rfl) ?_
    refine b_iconst hx hb dX3_tonesShifted_16 ?_
    refine lv_lshl hx hb dX3_tonesShifted_17 rfl ?_
    refine lv_aload_n hx hb dX3_tonesShifted_18 rfl (lv_at hl 0 rfl) ?_
    refine lv_iload hx hb dX3_tonesShifted_19 (lv_at hl 3 rfl) ?_
    refine g_run (vx_runV (As := [.int (z2 ((cn : Int) - 1 - ((j : Nat) : Int)))]) (rest := [.long ((l2 (shR (X 38 k) v2 cn j)) <<< ((z2 (4)).toInt64 &&& 63))]) ⟨hx, hb, hml, hown, hts⟩ (k_tone l D ks bx ml X _ hP hV hk (q := cn - 1 - j) ((cn : Int) - 1 - ((j : Nat) : Int)) (by omega)) (cwV 1 hts gX3_tonesShifted_X3_tone rfl rfl rfl (by decide +kernel) ⟨Nat.le_of_ble_eq_true rfl, Nat.le_of_ble_eq_true rfl⟩) (g_preV (r := (RX3, TX3, 4)) hG hS rx_ge (hP.me hk) rfl) rfl rfl hl.1 rfl (lv_room (Nat.le_of_ble_eq_true rfl)) dX3_tonesShifted_21 ⟨Nat.le_of_ble_eq_true rfl, Nat.le_of_ble_eq_true rfl⟩) hS (fun _ h => h) (fun _ _ _ _ _ h => h.elim) (fun v H1 locs hp hz9 hk9 hS => ?_)
    obtain ⟨rfl, hH9⟩ := hp
    obtain rfl := hH9.symm
    have tb_21 := toS_b (X 38 k) (cn - 1 - j)
    refine W.eq (g2 := F0 m 24 ls [.int (z2 (toS (X 38 k) (cn - 1 - j))), .long ((l2 (shR (X 38 k) v2 cn j)) <<< ((z2 (4)).toInt64 &&& 63))]) rfl ?_
    refine lv_iload_n hx hb dX3_tonesShifted_24 rfl (lv_at hl 1 rfl) ?_
    refine b_iadd hx hb dX3_tonesShifted_25 ?_
    refine b_bipush hx hb dX3_tonesShifted_26 (by decide +kernel) ?_
    refine lv_iand hx hb dX3_tonesShifted_28 ?_
    refine b_top (v := ((toS (X 38 k) (cn - 1 - j)) + v2) % 16) (z2_and15 _) ?_
    refine lv_i2l (v := l2 (((toS (X 38 k) (cn - 1 - j)) + v2) % 16)) hx hb dX3_tonesShifted_29 (z2_l2 ⟨by omega, by omega⟩) ?_
    refine lv_lor hx hb dX3_tonesShifted_30 ?_
    refine b_topl (v := shR (X 38 k) v2 cn (j + 1)) (l2_dig ⟨by omega, by omega⟩ ⟨Int.emod_nonneg _ (by decide), Int.emod_lt_of_pos _ (by decide)⟩) ?_
    refine lv_lstore_n (lv' := [(2, .long (l2 (shR (X 38 k) v2 cn (j + 1)))), (0, .ref (ml k)), (1, .int (z2 (v2))), (4, .int (z2 ((cn : Int) - 1 - ((j : Nat) : Int))))]) hx hb dX3_tonesShifted_31 rfl hl (by decide) rfl (fun ls hl => ?_)
    refine b_iinc (lv' := [(4, .int (z2 (((cn : Int) - 1 - ((j : Nat) : Int)) + (-1)))), (2, .long (l2 (shR (X 38 k) v2 cn (j + 1)))), (0, .ref (ml k)), (1, .int (z2 (v2)))]) hx hb dX3_tonesShifted_32 hl (k := 3) rfl (by decide) rfl (fun ls hl => ?_)
    refine lv_goto (tgt := 10) hx hb dX3_tonesShifted_35 (by decide) ?_
    have e1 : (cn : Int) - 1 - ((j + 1 : Nat) : Int) = (cn : Int) - 1 - ((j : Nat) : Int) + -1 := by omega
    exact ih (j + 1) _ _ _ (by omega) ⟨by omega, hP, hHs, hS, by rw [e1]; exact lv_sub hl [2, 3, 1, 0] rfl⟩
set_option maxHeartbeats 4000000 in
set_option maxRecDepth 100000 in
theorem k_tonesTurned (l : Launch) (D : va_G) (ks : Nat → ClassId) (bx : Nat) (ml : Nat → Nat) (X : Nat → Nat → Int) (H : Heap) (hP : PX D ks bx ml X H) (hV : VX X) {k : Nat} (hk : (k : Int) < X 4 0) {cn : Nat} (hc : X 37 k = cn) : KM l yX3_tonesTurned wsX3_tonesTurned ({ frames := 1, cells := 0, slots := 0, locals := 21 } : Room) D ks bx [.ref (ml k)] H (RX bx) (fun v H1 => v = some (.long (l2 (tuR (X 38 k) cn))) ∧ H1 = H) (fun _ _ => False) := by
  refine KM.of (cc := cX3_tonesTurned) (maxL := 4) (ret := (some .long)) (by decide) rfl (Nat.le_of_ble_eq_true rfl) ?_
  intro p e s m below meth c hx hb hml hr hlocks hown hname hts hext hH0 hG ls hl
  subst hH0
  have hown : s.vm.findClass RX3 = some m.cls := hown
  have hS : va_S (AR (RX bx) s.heap.size) s.heap s.heap [] := va_S.rf
  have hl : lv_has ls 4 [(0, .ref (ml k))] := hl
  have inX3 : ∀ w ∈ wsX30, w ∈ wsX3_tonesTurned := by decide +kernel
  have bc : 1 ≤ X 37 k ∧ X 37 k ≤ 12 := hV.1 37 _ rfl
  refine lv_lconst (v := l2 0) hx hb dX3_tonesTurned_0 (by decide +kernel) ?_
  refine lv_lstore_n (lv' := [(1, .long (l2 0)), (0, .ref (ml k))]) hx hb dX3_tonesTurned_1 rfl hl (by decide) rfl (fun ls hl => ?_)
  refine b_iconst hx hb dX3_tonesTurned_2 ?_
  refine lv_istore_n (lv' := [(3, .int (z2 (0))), (1, .long (l2 0)), (0, .ref (ml k))]) hx hb dX3_tonesTurned_3 rfl hl (by decide) rfl (fun ls hl => ?_)
  refine lp_ms (σ := Nat) (fun j H locs ls => j ≤ cn ∧ PX D ks bx ml X H ∧ H = s.heap ∧ va_S (AR (RX bx) s.heap.size) s.heap H locs ∧ lv_has ls 4 [(0, .ref (ml k)), (1, .long (l2 (tuR (X 38 k) j))), (3, .int (z2 (((j : Nat) : Int))))]) (fun j => cn - j) (fun j H locs ls hI ih => ?_) 0 ⟨by omega, hP, rfl, hS, lv_sub hl [2, 1, 0] rfl⟩
  obtain ⟨hkN, hP, hHs, hS, hl⟩ := hI
  have sb := tuR_b (X 38 k) j
  have sp := p16 (k := j) (by omega)
  refine lv_iload_n hx hb dX3_tonesTurned_4 rfl (lv_at hl 2 rfl) ?_
  refine lv_aload_n hx hb dX3_tonesTurned_5 rfl (lv_at hl 0 rfl) ?_
  have b_6 : 1 ≤ X 37 k ∧ X 37 k ≤ 12 := hV.1 37 _ rfl
  refine g_get (C := RX3) (T := TX3) (N := 4) hx hb hts inX3 hown hG (hP.me hk) rfl 2 (by decide) (by decide +kernel) rfl (v := .int (z2 (X 37 k))) rfl dX3_tonesTurned_6 ?_
  refine b_icmp_ge (tgt := 29) hx hb dX3_tonesTurned_9 (by decide) ⟨⟨by omega, by omega⟩, ⟨by omega, by omega⟩⟩ (fun c_9 => ?_) (fun c_9 => ?_)
  · skip
    refine lv_lload_n hx hb dX3_tonesTurned_29 rfl (lv_at hl 1 rfl) ?_
    obtain rfl : j = cn := by omega
    exact g_lret hx hb hr hlocks hS ⟨Nat.le_of_ble_eq_true rfl, Nat.le_of_ble_eq_true rfl⟩ (⟨rfl, hHs⟩) dX3_tonesTurned_30
  · skip
    refine lv_lload_n hx hb dX3_tonesTurned_12 rfl (lv_at hl 1 rfl) ?_
    refine b_iconst hx hb dX3_tonesTurned_13 ?_
    refine lv_lshl hx hb dX3_tonesTurned_14 rfl ?_
    refine lv_aload_n hx hb dX3_tonesTurned_15 rfl (lv_at hl 0 rfl) ?_
    refine lv_iload_n hx hb dX3_tonesTurned_16 rfl (lv_at hl 2 rfl) ?_
    refine g_run (vx_runV (As := [.int (z2 (((j : Nat) : Int)))]) (rest := [.long ((l2 (tuR (X 38 k) j)) <<< ((z2 (4)).toInt64 &&& 63))]) ⟨hx, hb, hml, hown, hts⟩ (k_tone l D ks bx ml X _ hP hV hk (q := j) (((j : Nat) : Int)) (by omega)) (cwV 1 hts gX3_tonesTurned_X3_tone rfl rfl rfl (by decide +kernel) ⟨Nat.le_of_ble_eq_true rfl, Nat.le_of_ble_eq_true rfl⟩) (g_preV (r := (RX3, TX3, 4)) hG hS rx_ge (hP.me hk) rfl) rfl rfl hl.1 rfl (lv_room (Nat.le_of_ble_eq_true rfl)) dX3_tonesTurned_17 ⟨Nat.le_of_ble_eq_true rfl, Nat.le_of_ble_eq_true rfl⟩) hS (fun _ h => h) (fun _ _ _ _ _ h => h.elim) (fun v H1 locs hp hz9 hk9 hS => ?_)
    obtain ⟨rfl, hH9⟩ := hp
    obtain rfl := hH9.symm
    have tb_17 := toS_b (X 38 k) j
    refine W.eq (g2 := F0 m 20 ls [.int (z2 (toS (X 38 k) j)), .long ((l2 (tuR (X 38 k) j)) <<< ((z2 (4)).toInt64 &&& 63))]) rfl ?_
    refine lv_i2l (v := l2 (toS (X 38 k) j)) hx hb dX3_tonesTurned_20 (z2_l2 ⟨by omega, by omega⟩) ?_
    refine lv_lor hx hb dX3_tonesTurned_21 ?_
    refine b_topl (v := tuR (X 38 k) (j + 1)) (l2_dig ⟨by omega, by omega⟩ (toS_b _ _)) ?_
    refine lv_lstore_n (lv' := [(1, .long (l2 (tuR (X 38 k) (j + 1)))), (0, .ref (ml k)), (3, .int (z2 (((j : Nat) : Int))))]) hx hb dX3_tonesTurned_22 rfl hl (by decide) rfl (fun ls hl => ?_)
    refine b_iinc (lv' := [(3, .int (z2 (((j : Nat) : Int) + 1))), (1, .long (l2 (tuR (X 38 k) (j + 1)))), (0, .ref (ml k))]) hx hb dX3_tonesTurned_23 hl (k := 2) rfl (by decide) rfl (fun ls hl => ?_)
    refine lv_goto (tgt := 4) hx hb dX3_tonesTurned_26 (by decide) ?_
    exact ih (j + 1) _ _ _ (by omega) ⟨by omega, hP, hHs, hS, lv_sub hl [2, 1, 0] rfl⟩
/-- isShiftOf of the melodies k, o -/
def isS (X : Nat → Nat → Int) (k o : Nat) : Int := if X 37 k = X 37 o ∧ X 38 k = shR (X 38 o) ((toS (X 38 k) 0 - toS (X 38 o) 0) % 16) (X 37 o).toNat (X 37 o).toNat then 1 else 0
set_option maxHeartbeats 4000000 in
set_option maxRecDepth 100000 in
theorem k_isShiftOf (l : Launch) (D : va_G) (ks : Nat → ClassId) (bx : Nat) (ml : Nat → Nat) (X : Nat → Nat → Int) (H : Heap) (hP : PX D ks bx ml X H) (hV : VX X) {k o : Nat} (hk : (k : Int) < X 4 0) (ho : (o : Int) < X 4 0) : KM l yX3_isShiftOf wsX3_isShiftOf ({ frames := 2, cells := 0, slots := 0, locals := 45 } : Room) D ks bx [.ref (ml k), .ref (ml o)] H (RX bx) (fun v H1 => v = some (.int (z2 (isS X k o))) ∧ H1 = H) (fun _ _ => False) := by
  refine KM.of (cc := cX3_isShiftOf) (maxL := 3) (ret := (some .boolean)) (by decide) rfl (Nat.le_of_ble_eq_true rfl) ?_
  intro p e s m below meth c hx hb hml hr hlocks hown hname hts hext hH0 hG ls hl
  subst hH0
  have hown : s.vm.findClass RX3 = some m.cls := hown
  have hS : va_S (AR (RX bx) s.heap.size) s.heap s.heap [] := va_S.rf
  have hl : lv_has ls 3 [(0, .ref (ml k)), (1, .ref (ml o))] := hl
  have inX3 : ∀ w ∈ wsX30, w ∈ wsX3_isShiftOf := by decide +kernel
  have t48 : X 38 k < 281474976710656 := Int.lt_of_lt_of_le (hV.2.2 k).2 (p16 (by have b : 1 ≤ X 37 k ∧ X 37 k ≤ 12 := hV.1 37 _ rfl; omega))
  have t0 : 0 ≤ X 38 k := (hV.2.2 k).1
  have bk : 1 ≤ X 37 k ∧ X 37 k ≤ 12 := hV.1 37 _ rfl
  have bo : 1 ≤ X 37 o ∧ X 37 o ≤ 12 := hV.1 37 _ rfl
  obtain ⟨co, hco⟩ : ∃ co : Nat, X 37 o = co := ⟨(X 37 o).toNat, by omega⟩
  have hcoN : co = (X 37 o).toNat := by omega
  have so := shR_b (X 38 o) ((toS (X 38 k) 0 - toS (X 38 o) 0) % 16) co co
  have sp := p16 (k := co) (by omega)
  refine lv_aload_n hx hb dX3_isShiftOf_0 rfl (lv_at hl 0 rfl) ?_
  refine b_iconst hx hb dX3_isShiftOf_1 ?_
  refine g_run (vx_runV (As := [.int (z2 (0))]) (rest := []) ⟨hx, hb, hml, hown, hts⟩ (k_tone l D ks bx ml X _ hP hV hk (q := 0) (0) (by omega)) (cwV 1 hts gX3_isShiftOf_X3_tone rfl rfl rfl (by decide +kernel) ⟨Nat.le_of_ble_eq_true rfl, Nat.le_of_ble_eq_true rfl⟩) (g_preV (r := (RX3, TX3, 4)) hG hS rx_ge (hP.me hk) rfl) rfl rfl hl.1 rfl (lv_room (Nat.le_of_ble_eq_true rfl)) dX3_isShiftOf_2 ⟨Nat.le_of_ble_eq_true rfl, Nat.le_of_ble_eq_true rfl⟩) hS (fun _ h => h) (fun _ _ _ _ _ h => h.elim) (fun v H1 locs hp hz9 hk9 hS => ?_)
  obtain ⟨rfl, hH9⟩ := hp
  obtain rfl := hH9.symm
  have tb_2 := toS_b (X 38 k) 0
  refine W.eq (g2 := F0 m 5 ls [.int (z2 (toS (X 38 k) 0))]) rfl ?_
  refine lv_aload_n hx hb dX3_isShiftOf_5 rfl (lv_at hl 1 rfl) ?_
  refine b_iconst hx hb dX3_isShiftOf_6 ?_
  refine g_run (vx_runV (As := [.int (z2 (0))]) (rest := [.int (z2 (toS (X 38 k) 0))]) ⟨hx, hb, hml, hown, hts⟩ (k_tone l D ks bx ml X _ hP hV ho (q := 0) (0) (by omega)) (cwV 1 hts gX3_isShiftOf_X3_tone rfl rfl rfl (by decide +kernel) ⟨Nat.le_of_ble_eq_true rfl, Nat.le_of_ble_eq_true rfl⟩) (g_preV (r := (RX3, TX3, 4)) hG hS rx_ge (hP.me ho) rfl) rfl rfl hl.1 rfl (lv_room (Nat.le_of_ble_eq_true rfl)) dX3_isShiftOf_7 ⟨Nat.le_of_ble_eq_true rfl, Nat.le_of_ble_eq_true rfl⟩) hS (fun _ h => h) (fun _ _ _ _ _ h => h.elim) (fun v H1 locs hp hz9 hk9 hS => ?_)
  obtain ⟨rfl, hH9⟩ := hp
  obtain rfl := hH9.symm
  have tb_7 := toS_b (X 38 o) 0
  refine W.eq (g2 := F0 m 10 ls [.int (z2 (toS (X 38 o) 0)), .int (z2 (toS (X 38 k) 0))]) rfl ?_
  refine b_isub hx hb dX3_isShiftOf_10 ?_
  refine b_bipush hx hb dX3_isShiftOf_11 (by decide +kernel) ?_
  refine lv_iand hx hb dX3_isShiftOf_13 ?_
  refine b_top (v := ((toS (X 38 k) 0) - (toS (X 38 o) 0)) % 16) (z2_and15 _) ?_
  refine lv_istore_n (lv' := [(2, .int (z2 (((toS (X 38 k) 0) - (toS (X 38 o) 0)) % 16))), (0, .ref (ml k)), (1, .ref (ml o))]) hx hb dX3_isShiftOf_14 rfl hl (by decide) rfl (fun ls hl => ?_)
  refine lv_aload_n hx hb dX3_isShiftOf_15 rfl (lv_at hl 1 rfl) ?_
  have b_16 : 1 ≤ X 37 k ∧ X 37 k ≤ 12 := hV.1 37 _ rfl
  refine g_get (C := RX3) (T := TX3) (N := 4) hx hb hts inX3 hown hG (hP.me hk) rfl 2 (by decide) (by decide +kernel) rfl (v := .int (z2 (X 37 k))) rfl dX3_isShiftOf_16 ?_
  refine lv_aload_n hx hb dX3_isShiftOf_19 rfl (lv_at hl 2 rfl) ?_
  have b_20 : 1 ≤ X 37 o ∧ X 37 o ≤ 12 := hV.1 37 _ rfl
  refine g_get (C := RX3) (T := TX3) (N := 4) hx hb hts inX3 hown hG (hP.me ho) rfl 2 (by decide) (by decide +kernel) rfl (v := .int (z2 (X 37 o))) rfl dX3_isShiftOf_20 ?_
  refine b_icmp_ne (tgt := 43) hx hb dX3_isShiftOf_23 (by decide) ⟨⟨by omega, by omega⟩, ⟨by omega, by omega⟩⟩ (fun c_23 => ?_) (fun c_23 => ?_)
  · skip
    refine b_iconst hx hb dX3_isShiftOf_43 ?_
    exact g_zret hx hb hr hlocks hS (by decide +kernel) ⟨Nat.le_of_ble_eq_true rfl, Nat.le_of_ble_eq_true rfl⟩ (⟨congrArg (fun z => some (Value.int (z2 z))) (by unfold isS; rw [if_neg (fun q => by rw [← hcoN] at q; omega)]), rfl⟩) dX3_isShiftOf_44
  · skip
    refine lv_aload_n hx hb dX3_isShiftOf_26 rfl (lv_at hl 1 rfl) ?_
    refine g_get (C := RX3) (T := TX3) (N := 4) hx hb hts inX3 hown hG (hP.me hk) rfl 3 (by decide) (by decide +kernel) rfl (v := .long (l2 (X 38 k))) rfl dX3_isShiftOf_27 ?_
    refine lv_aload_n hx hb dX3_isShiftOf_30 rfl (lv_at hl 2 rfl) ?_
    refine lv_iload_n hx hb dX3_isShiftOf_31 rfl (lv_at hl 0 rfl) ?_
    refine g_run (vx_runV (As := [.int (z2 (((toS (X 38 k) 0) - (toS (X 38 o) 0)) % 16))]) (rest := [.long (l2 (X 38 k))]) ⟨hx, hb, hml, hown, hts⟩ (k_tonesShifted l D ks bx ml X _ hP hV ho (((toS (X 38 k) 0) - (toS (X 38 o) 0)) % 16) ⟨by omega, by omega⟩ hco) (cwV 1 hts gX3_isShiftOf_X3_tonesShifted rfl rfl rfl (by decide +kernel) ⟨Nat.le_of_ble_eq_true rfl, Nat.le_of_ble_eq_true rfl⟩) (g_preV (r := (RX3, TX3, 4)) hG hS rx_ge (hP.me ho) rfl) rfl rfl hl.1 rfl (lv_room (Nat.le_of_ble_eq_true rfl)) dX3_isShiftOf_32 ⟨Nat.le_of_ble_eq_true rfl, Nat.le_of_ble_eq_true rfl⟩) hS (fun _ h => h) (fun _ _ _ _ _ h => h.elim) (fun v H1 locs hp hz9 hk9 hS => ?_)
    obtain ⟨rfl, hH9⟩ := hp
    obtain rfl := hH9.symm
    refine W.eq (g2 := F0 m 35 ls [.long (l2 (shR (X 38 o) (((toS (X 38 k) 0) - (toS (X 38 o) 0)) % 16) co co)), .long (l2 (X 38 k))]) rfl ?_
    refine W.lcmp hx hb dX3_isShiftOf_35 ?_
    obtain ⟨cv35, ecv35, bcv35⟩ : ∃ z : Int, z = (if (shR (X 38 o) (((toS (X 38 k) 0) - (toS (X 38 o) 0)) % 16) co co) < (X 38 k) then 1 else if (X 38 k) = (shR (X 38 o) (((toS (X 38 k) 0) - (toS (X 38 o) 0)) % 16) co co) then 0 else -1) ∧ -1 ≤ z ∧ z ≤ 1 := ⟨_, rfl, by (repeat' split) <;> omega, by (repeat' split) <;> omega⟩
    refine b_top (v := cv35) ((l2_cmp ⟨by omega, by omega⟩ ⟨by omega, by omega⟩).trans (by rw [ecv35])) ?_
    refine b_if_ne (tgt := 43) hx hb dX3_isShiftOf_36 (by decide) ⟨by omega, by omega⟩ (fun c_36 => ?_) (fun c_36 => ?_)
    · skip
      refine b_iconst hx hb dX3_isShiftOf_43 ?_
      exact g_zret hx hb hr hlocks hS (by decide +kernel) ⟨Nat.le_of_ble_eq_true rfl, Nat.le_of_ble_eq_true rfl⟩ (⟨congrArg (fun z => some (Value.int (z2 z))) (by unfold isS; rw [if_neg (fun q => by rw [← hcoN] at q; omega)]), rfl⟩) dX3_isShiftOf_44
    · skip
      refine b_iconst hx hb dX3_isShiftOf_39 ?_
      refine lv_goto (tgt := 44) hx hb dX3_isShiftOf_40 (by decide) ?_
      exact g_zret hx hb hr hlocks hS (by decide +kernel) ⟨Nat.le_of_ble_eq_true rfl, Nat.le_of_ble_eq_true rfl⟩ (⟨congrArg (fun z => some (Value.int (z2 z))) (by unfold isS; rw [if_pos ⟨by omega, by rw [← hcoN]; omega⟩]), rfl⟩) dX3_isShiftOf_44
