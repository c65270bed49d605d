/-! THE LAW's own helpers: a call of the class, its exceptions told by a number. -/
def RW (bx : Nat) : Nat → Prop := fun q => RX bx q ∨ q = bx + 75
theorem rw_ge {bx : Nat} : ∀ q, RW bx q → bx ≤ q := fun q h => h.elim (fun r => r.1) (fun r => by omega)
def co_addMelody (X : Nat → Nat → Int) (u v2 t z r : Int) (Y : Nat → Nat → Int) : Prop := (∃ k cn : Nat, ((0 ≤ u ∧ u < 8) ∧ ((v2 = cn ∧ 1 ≤ cn ∧ cn ≤ 12) ∧ 0 ≤ t ∧ t / 16 ^ cn = 0) ∧ X 4 0 = k ∧ k < 12) ∧ z = 0 ∧ r = ((k : Nat) : Int) ∧ Y = nX X k u v2 t) ∨ ((¬ (0 ≤ u ∧ u < 8)) ∧ z = 1 ∧ Y = X) ∨ (((0 ≤ u ∧ u < 8) ∧ ¬ ∃ cn : Nat, (v2 = cn ∧ 1 ≤ cn ∧ cn ≤ 12) ∧ 0 ≤ t ∧ t / 16 ^ cn = 0) ∧ z = 2 ∧ Y = X) ∨ (((0 ≤ u ∧ u < 8) ∧ (∃ cn : Nat, (v2 = cn ∧ 1 ≤ cn ∧ cn ≤ 12) ∧ 0 ≤ t ∧ t / 16 ^ cn = 0) ∧ 12 ≤ X 4 0) ∧ z = 3 ∧ Y = X)
def co_toneAt (X : Nat → Nat → Int) (u v2 z r : Int) (Y : Nat → Nat → Int) : Prop := (∃ k q : Nat, ((u = k ∧ (k : Int) < X 4 0) ∧ v2 = q ∧ (q : Int) < X 37 k) ∧ z = 0 ∧ r = (toS (X 38 k) q) ∧ Y = X) ∨ ((¬ (0 ≤ u ∧ u < X 4 0) ∨ ∃ k : Nat, u = k ∧ (k : Int) < X 4 0 ∧ ¬ (0 ≤ v2 ∧ v2 < X 37 k)) ∧ z = 1 ∧ Y = X)
def co_shifted (X : Nat → Nat → Int) (u v2 z r : Int) (Y : Nat → Nat → Int) : Prop := (∃ k cn : Nat, ((u = k ∧ (k : Int) < X 4 0) ∧ X 37 k = cn ∧ 0 ≤ v2 ∧ v2 ≤ 15) ∧ z = 0 ∧ r = (shR (X 38 k) v2 cn cn) ∧ Y = X) ∨ ((¬ (0 ≤ u ∧ u < X 4 0)) ∧ z = 1 ∧ Y = X) ∨ (((0 ≤ u ∧ u < X 4 0) ∧ ¬ (0 ≤ v2 ∧ v2 ≤ 15)) ∧ z = 2 ∧ Y = X)
def co_turned (X : Nat → Nat → Int) (u z r : Int) (Y : Nat → Nat → Int) : Prop := (∃ k cn : Nat, ((u = k ∧ (k : Int) < X 4 0) ∧ X 37 k = cn) ∧ z = 0 ∧ r = (tuR (X 38 k) cn) ∧ Y = X) ∨ ((¬ (0 ≤ u ∧ u < X 4 0)) ∧ z = 1 ∧ Y = X)
def co_areAlike (X : Nat → Nat → Int) (u v2 z r : Int) (Y : Nat → Nat → Int) : Prop := (∃ k k2 : Nat, ((u = k ∧ (k : Int) < X 4 0) ∧ v2 = k2 ∧ (k2 : Int) < X 4 0) ∧ z = 0 ∧ r = (isS X k k2) ∧ Y = X) ∨ ((¬ ((0 ≤ u ∧ u < X 4 0) ∧ 0 ≤ v2 ∧ v2 < X 4 0)) ∧ z = 1 ∧ Y = X)
def co_license (X : Nat → Nat → Int) (u v2 u3 z r : Int) (Y : Nat → Nat → Int) : Prop := (∃ n k : Nat, ((u = n ∧ n < 8) ∧ (v2 = k ∧ (k : Int) < X 4 0) ∧ 1 ≤ u3 ∧ u3 ≤ 1000 ∧ X 36 k ≠ n ∧ X 23 (12 * n + k) + u3 ≤ 1000) ∧ z = 0 ∧ r = (X 23 (12 * n + k) + u3) ∧ Y = (up X 23 (12 * n + k) (X 23 (12 * n + k) + u3))) ∨ ((¬ ((0 ≤ u ∧ u < 8) ∧ (0 ≤ v2 ∧ v2 < X 4 0))) ∧ z = 1 ∧ Y = X) ∨ (((0 ≤ u ∧ u < 8) ∧ (0 ≤ v2 ∧ v2 < X 4 0) ∧ ¬ (1 ≤ u3 ∧ u3 ≤ 1000)) ∧ z = 2 ∧ Y = X) ∨ ((∃ n k : Nat, ((u = n ∧ n < 8) ∧ (v2 = k ∧ (k : Int) < X 4 0) ∧ 1 ≤ u3 ∧ u3 ≤ 1000 ∧ (X 36 k = n ∨ 1000 < X 23 (12 * n + k) + u3))) ∧ z = 3 ∧ Y = X)
def co_setQuiet (X : Nat → Nat → Int) (u v2 u3 z r : Int) (Y : Nat → Nat → Int) : Prop := (∃ n : Nat, ((u = n ∧ n < 8) ∧ (0 ≤ v2 ∧ v2 < 1000 ∧ 0 ≤ u3 ∧ u3 < 1000)) ∧ z = 0 ∧ r = (if 0 < qS (up (up X 15 n v2) 16 n u3) n ((up (up X 15 n v2) 16 n u3) 6 0) ((up (up X 15 n v2) 16 n u3) 6 0 + 1) then 1 else 0) ∧ Y = (up (up X 15 n v2) 16 n u3)) ∨ ((¬ (0 ≤ u ∧ u < 8)) ∧ z = 1 ∧ Y = X) ∨ (((0 ≤ u ∧ u < 8) ∧ ¬ (0 ≤ v2 ∧ v2 < 1000 ∧ 0 ≤ u3 ∧ u3 < 1000)) ∧ z = 2 ∧ Y = X)
def co_lay (X : Nat → Nat → Int) (u v2 u3 u4 z r : Int) (Y : Nat → Nat → Int) : Prop := (∃ n b : Nat, ((u = n ∧ n < 8) ∧ (v2 = b ∧ b < 3) ∧ (u3 = -1 ∨ (0 ≤ u3 ∧ u3 < X 4 0)) ∧ 1 ≤ u4 ∧ u4 ≤ 9) ∧ z = 0 ∧ r = (X 30 (3 * n + b)) ∧ Y = (up (up (up X 30 (3 * n + b) u3) 31 (3 * n + b) u4) 32 (3 * n + b) 0)) ∨ ((¬ ((0 ≤ u ∧ u < 8) ∧ (0 ≤ v2 ∧ v2 < 3) ∧ (u3 = -1 ∨ (0 ≤ u3 ∧ u3 < X 4 0)))) ∧ z = 1 ∧ Y = X) ∨ ((((0 ≤ u ∧ u < 8) ∧ (0 ≤ v2 ∧ v2 < 3) ∧ (u3 = -1 ∨ (0 ≤ u3 ∧ u3 < X 4 0))) ∧ ¬ (1 ≤ u4 ∧ u4 ≤ 9)) ∧ z = 2 ∧ Y = X)
def co_press (X : Nat → Nat → Int) (u v2 z r : Int) (Y : Nat → Nat → Int) : Prop := (∃ n b k : Nat, ((u = n ∧ n < 8) ∧ (v2 = b ∧ b < 3) ∧ X 30 (3 * n + b) = k) ∧ z = 0 ∧ r = (prV X n b k) ∧ Y = (prX X n b k)) ∨ ((¬ ((0 ≤ u ∧ u < 8) ∧ 0 ≤ v2 ∧ v2 < 3)) ∧ z = 1 ∧ Y = X) ∨ ((∃ n b : Nat, (u = n ∧ n < 8) ∧ (v2 = b ∧ b < 3) ∧ X 30 (3 * n + b) = -1) ∧ z = 2 ∧ Y = X)
def co_fault (X : Nat → Nat → Int) (u z r : Int) (Y : Nat → Nat → Int) : Prop := (∃ n : Nat, ((u = n ∧ n < 8) ∧ X 14 n ≠ 0 ∧ X 5 0 < 100) ∧ z = 0 ∧ r = (faN X n 8) ∧ Y = (faR X n u)) ∨ ((¬ (0 ≤ u ∧ u < 8)) ∧ z = 1 ∧ Y = X) ∨ ((∃ n : Nat, (u = n ∧ n < 8) ∧ (X 14 n = 0 ∨ 100 ≤ X 5 0)) ∧ z = 2 ∧ Y = X)
def co_repair (X : Nat → Nat → Int) (u z r : Int) (Y : Nat → Nat → Int) : Prop := (∃ n : Nat, ((u = n ∧ n < 8) ∧ X 14 n = 0 ∧ X 34 (n / 4) = -1) ∧ z = 0 ∧ r = (X 6 0 + 50) ∧ Y = (up (up X 34 (n / 4) n) 35 (n / 4) (X 6 0 + 50))) ∨ ((¬ (0 ≤ u ∧ u < 8)) ∧ z = 1 ∧ Y = X) ∨ ((∃ n : Nat, (u = n ∧ n < 8) ∧ (X 14 n ≠ 0 ∨ X 34 (n / 4) ≠ -1)) ∧ z = 2 ∧ Y = X)
def co_pass (X : Nat → Nat → Int) (u z r : Int) (Y : Nat → Nat → Int) : Prop := (∃ j : Nat, (((1 ≤ u ∧ u ≤ 2000) ∧ X 6 0 + u ≤ 1000000) ∧ j ≤ u ∧ (j = u ∨ X 6 0 + u ≤ paX X (X 6 0 + u) j 6 0)) ∧ z = 0 ∧ r = (paX X (X 6 0 + u) j 6 0) ∧ Y = (paX X (X 6 0 + u) j)) ∨ ((¬ (1 ≤ u ∧ u ≤ 2000)) ∧ z = 1 ∧ Y = X) ∨ (((1 ≤ u ∧ u ≤ 2000) ∧ 1000000 < X 6 0 + u) ∧ z = 2 ∧ Y = X)
def co_ringing (X : Nat → Nat → Int) (u z r : Int) (Y : Nat → Nat → Int) : Prop := (∃ n : Nat, (u = n ∧ n < 8) ∧ z = 0 ∧ r = (rsS X n) ∧ Y = X) ∨ ((¬ (0 ≤ u ∧ u < 8)) ∧ z = 1 ∧ Y = X)
def co_isSound (X : Nat → Nat → Int) (u z r : Int) (Y : Nat → Nat → Int) : Prop := (∃ n : Nat, (u = n ∧ n < 8) ∧ z = 0 ∧ r = (X 14 n) ∧ Y = X) ∨ ((¬ (0 ≤ u ∧ u < 8)) ∧ z = 1 ∧ Y = X)
def co_ringsLeft (X : Nat → Nat → Int) (u v2 z r : Int) (Y : Nat → Nat → Int) : Prop := (∃ n k : Nat, ((u = n ∧ n < 8) ∧ v2 = k ∧ (k : Int) < X 4 0) ∧ z = 0 ∧ r = (if X 36 k = n then -1 else X 23 (12 * n + k)) ∧ Y = X) ∨ ((¬ ((0 ≤ u ∧ u < 8) ∧ (0 ≤ v2 ∧ v2 < X 4 0))) ∧ z = 1 ∧ Y = X)
def co_points (X : Nat → Nat → Int) (u z r : Int) (Y : Nat → Nat → Int) : Prop := (∃ n : Nat, (u = n ∧ n < 8) ∧ z = 0 ∧ r = (X 17 n) ∧ Y = X) ∨ ((¬ (0 ≤ u ∧ u < 8)) ∧ z = 1 ∧ Y = X)
def co_secondsRung (X : Nat → Nat → Int) (u z r : Int) (Y : Nat → Nat → Int) : Prop := (∃ n : Nat, (u = n ∧ n < 8) ∧ z = 0 ∧ r = (X 18 n) ∧ Y = X) ∨ ((¬ (0 ≤ u ∧ u < 8)) ∧ z = 1 ∧ Y = X)
def co_quietBroken (X : Nat → Nat → Int) (u z r : Int) (Y : Nat → Nat → Int) : Prop := (∃ n : Nat, (u = n ∧ n < 8) ∧ z = 0 ∧ r = (X 19 n) ∧ Y = X) ∨ ((¬ (0 ≤ u ∧ u < 8)) ∧ z = 1 ∧ Y = X)
def co_hushed (X : Nat → Nat → Int) (u z r : Int) (Y : Nat → Nat → Int) : Prop := (∃ n : Nat, (u = n ∧ n < 8) ∧ z = 0 ∧ r = (X 20 n) ∧ Y = X) ∨ ((¬ (0 ≤ u ∧ u < 8)) ∧ z = 1 ∧ Y = X)
def co_faultAt (X : Nat → Nat → Int) (u z r : Int) (Y : Nat → Nat → Int) : Prop := ((0 ≤ u ∧ u < X 5 0) ∧ z = 0 ∧ r = (X 7 (u).toNat) ∧ Y = X) ∨ ((¬ (0 ≤ u ∧ u < X 5 0)) ∧ z = 1 ∧ Y = X)
set_option maxHeartbeats 4000000 in
set_option maxRecDepth 100000 in
theorem w_addMelody (l : Launch) (D : va_G) (ks : Nat → ClassId) (bx : Nat) (ml : Nat → Nat) (X : Nat → Nat → Int) (H : Heap) (hP : PX D ks bx ml X H) (hV : VX X) (hst : l.stackTraces = false) (hs76 : bx + 76 ≤ H.size) {fo : Nat → Int64} (ho : ca D (bx + 75) (jA (ks 1) 1 fo) H) (u v2 t : Int) (hu : -2147483648 ≤ u ∧ u < 2147483648) (hv2 : -2147483648 ≤ v2 ∧ v2 < 2147483648) (ht : -9223372036854775808 ≤ t ∧ t < 9223372036854775808) : KM l yL_addMelody wsL_addMelody ({ frames := 8, cells := 3, slots := 18, locals := 136 } : Room) D ks bx [.ref bx, .int (z2 (u)), .int (z2 (v2)), .long (l2 t), .ref (bx + 75)] H (RW bx) (fun v H1 => ∃ (z r : Int) (Y : Nat → Nat → Int), co_addMelody X u v2 t z r Y ∧ v = some (.int (z2 z)) ∧ (∃ ml1 : Nat → Nat, PX D ks bx ml1 Y H1) ∧ ∃ f1 : Nat → Int64, ca D (bx + 75) (jA (ks 1) 1 f1) H1 ∧ (z = 0 → f1 0 = (z2 r).toInt64)) (fun _ _ => False) := by
  refine KM.ofH (cc := cL_addMelody) (maxL := 7) (ret := (some .int)) (hh := [(0, 12, 15, 13), (0, 12, 19, 15), (0, 12, 23, 17)]) (by decide) rfl (Nat.le_of_ble_eq_true rfl) ?_
  intro p e s m below meth c hx hb hml hr hlocks hown hts htb hH0 hG ls hl
  subst hH0
  have hown : s.vm.findClass RL = some m.cls := hown
  have hS : va_S (AR (RW bx) s.heap.size) s.heap s.heap [] := va_S.rf
  have hl : lv_has ls 7 [(0, .ref bx), (1, .int (z2 (u))), (2, .int (z2 (v2))), (3, .long (l2 t)), (5, .ref (bx + 75))] := hl
  refine lv_aload hx hb dL_addMelody_0 (lv_at hl 4 rfl) ?_
  refine b_iconst hx hb dL_addMelody_2 ?_
  refine lv_aload_n hx hb dL_addMelody_3 rfl (lv_at hl 0 rfl) ?_
  refine lv_iload_n hx hb dL_addMelody_4 rfl (lv_at hl 1 rfl) ?_
  refine lv_iload_n hx hb dL_addMelody_5 rfl (lv_at hl 2 rfl) ?_
  refine lv_lload_n hx hb dL_addMelody_6 rfl (lv_at hl 3 rfl) ?_
  refine g_run (vx_runV (As := [.int (z2 (u)), .int (z2 (v2)), .long (l2 t)]) (rest := [.int (z2 (0)), .ref (bx + 75)]) ⟨hx, hb, hml, hown, hts⟩ (k_addMelody l D ks bx ml X _ hP hV hst hs76 (u) (v2) (t) hu hv2 ht) (cwV 3 hts gL_addMelody_X4_addMelody rfl rfl rfl (by decide +kernel) ⟨Nat.le_of_ble_eq_true rfl, Nat.le_of_ble_eq_true rfl⟩) (g_preV (r := (RX4, TX4, 7)) hG hS rw_ge hP.1 rfl) rfl rfl hl.1 rfl (lv_room (Nat.le_of_ble_eq_true rfl)) dL_addMelody_7 ⟨Nat.le_of_ble_eq_true rfl, Nat.le_of_ble_eq_true rfl⟩) hS (fun _ h => Or.inl h) ?_ ?_
  · intro E ce q9 H locs hp hz9 hk9 hS hce hcv hcl
    obtain ⟨t9, e9⟩ := hp
    have hP := hP.keep (fun q h1 _ => t9.2 q h1)
    have ho := ho.kept (t9.2 _ ho.lt)
    rcases e9 with ⟨rfl, c9⟩ | ⟨rfl, c9⟩ | ⟨rfl, c9⟩
    · skip
      refine vx_catch hown [] ⟨0, 12, 15, 13⟩ [⟨0, 12, 19, 15⟩, ⟨0, 12, 23, 17⟩] (htb.trans rfl) (fun z hz => by cases hz) rfl (by decide) (name := "java/lang/IndexOutOfBoundsException") (hts (.classLink RL 13 "java/lang/IndexOutOfBoundsException") (by decide +kernel)) (va_Nw.use rfl (hG.2.1 _ (List.mem_of_getElem? (i := 28) rfl))) hce hcv hcl ?_
      refine lv_astore (lv' := [(6, .ref q9), (0, .ref bx), (1, .int (z2 (u))), (2, .int (z2 (v2))), (3, .long (l2 t)), (5, .ref (bx + 75))]) hx hb dL_addMelody_15 hl (by decide) rfl (fun ls hl => ?_)
      refine b_iconst hx hb dL_addMelody_17 ?_
      exact g_iret hx hb hr hlocks hS ⟨Nat.le_of_ble_eq_true rfl, Nat.le_of_ble_eq_true rfl⟩ (⟨1, 0, X, Or.inr (Or.inl (⟨c9, rfl, rfl⟩)), rfl, ⟨_, hP⟩, ⟨_, ho, fun q => absurd q (by decide)⟩⟩) dL_addMelody_18
    · skip
      refine vx_catch hown [⟨0, 12, 15, 13⟩] ⟨0, 12, 19, 15⟩ [⟨0, 12, 23, 17⟩] (htb.trans rfl) (fun z hz => by (rcases List.mem_cons.mp hz with rfl | hz; exact Or.inr ⟨by decide, "java/lang/IndexOutOfBoundsException", hts (.classLink RL 13 "java/lang/IndexOutOfBoundsException") (by decide +kernel), hG.2.2.2.1 _ (List.mem_of_getElem? (i := 0) rfl)⟩; cases hz)) rfl (by decide) (name := "java/lang/IllegalArgumentException") (hts (.classLink RL 15 "java/lang/IllegalArgumentException") (by decide +kernel)) (va_Nw.use rfl (hG.2.1 _ (List.mem_of_getElem? (i := 29) rfl))) hce hcv hcl ?_
      refine lv_astore (lv' := [(6, .ref q9), (0, .ref bx), (1, .int (z2 (u))), (2, .int (z2 (v2))), (3, .long (l2 t)), (5, .ref (bx + 75))]) hx hb dL_addMelody_19 hl (by decide) rfl (fun ls hl => ?_)
      refine b_iconst hx hb dL_addMelody_21 ?_
      exact g_iret hx hb hr hlocks hS ⟨Nat.le_of_ble_eq_true rfl, Nat.le_of_ble_eq_true rfl⟩ (⟨2, 0, X, Or.inr (Or.inr (Or.inl (⟨c9, rfl, rfl⟩))), rfl, ⟨_, hP⟩, ⟨_, ho, fun q => absurd q (by decide)⟩⟩) dL_addMelody_22
    · skip
      refine vx_catch hown [⟨0, 12, 15, 13⟩, ⟨0, 12, 19, 15⟩] ⟨0, 12, 23, 17⟩ [] (htb.trans rfl) (fun z hz => by (rcases List.mem_cons.mp hz with rfl | hz; exact Or.inr ⟨by decide, "java/lang/IndexOutOfBoundsException", hts (.classLink RL 13 "java/lang/IndexOutOfBoundsException") (by decide +kernel), hG.2.2.2.1 _ (List.mem_of_getElem? (i := 1) rfl)⟩; (rcases List.mem_cons.mp hz with rfl | hz; exact Or.inr ⟨by decide, "java/lang/IllegalArgumentException", hts (.classLink RL 15 "java/lang/IllegalArgumentException") (by decide +kernel), hG.2.2.2.1 _ (List.mem_of_getElem? (i := 2) rfl)⟩; cases hz))) rfl (by decide) (name := "java/lang/IllegalStateException") (hts (.classLink RL 17 "java/lang/IllegalStateException") (by decide +kernel)) (va_Nw.use rfl (hG.2.1 _ (List.mem_of_getElem? (i := 30) rfl))) hce hcv hcl ?_
      refine lv_astore (lv' := [(6, .ref q9), (0, .ref bx), (1, .int (z2 (u))), (2, .int (z2 (v2))), (3, .long (l2 t)), (5, .ref (bx + 75))]) hx hb dL_addMelody_23 hl (by decide) rfl (fun ls hl => ?_)
      refine b_iconst hx hb dL_addMelody_25 ?_
      exact g_iret hx hb hr hlocks hS ⟨Nat.le_of_ble_eq_true rfl, Nat.le_of_ble_eq_true rfl⟩ (⟨3, 0, X, Or.inr (Or.inr (Or.inr (⟨c9, rfl, rfl⟩))), rfl, ⟨_, hP⟩, ⟨_, ho, fun q => absurd q (by decide)⟩⟩) dL_addMelody_26
  · intro v H locs hp hz9 hk9 hS
    obtain ⟨k, cn, hc9, rfl, hP9⟩ := hp
    obtain ⟨a9, hP9⟩ := hP9
    have hP := hP9
    have ho := ho.kept (hk9 _ ho.lt (fun h => absurd h.2 (by omega)))
    refine W.eq (g2 := F0 m 10 ls [.int (z2 (((k : Nat) : Int))), .int (z2 (0)), .ref (bx + 75)]) rfl ?_
    refine lv_i2l (v := (z2 (((k : Nat) : Int))).toInt64) hx hb dL_addMelody_10 rfl ?_
    refine g_last (n := 1) hx hb hG hS ho (Or.inl (Or.inr rfl)) 0 ⟨rfl, by decide, by decide⟩ dL_addMelody_11 (fun H locs he hz9 oq hS => ?_)
    have ho := he
    have hP := hP.keep (fun q _ h2 => oq q (by omega))
    refine lv_goto (tgt := 27) hx hb dL_addMelody_12 (by decide) ?_
    refine b_iconst hx hb dL_addMelody_27 ?_
    exact g_iret hx hb hr hlocks hS ⟨Nat.le_of_ble_eq_true rfl, Nat.le_of_ble_eq_true rfl⟩ (⟨0, ((k : Nat) : Int), nX X k u v2 t, Or.inl ⟨k, cn, hc9, rfl, rfl, rfl⟩, rfl, ⟨_, hP⟩, ⟨_, ho, fun _ => rfl⟩⟩) dL_addMelody_28
set_option maxHeartbeats 4000000 in
set_option maxRecDepth 100000 in
theorem w_toneAt (l : Launch) (D : va_G) (ks : Nat → ClassId) (bx : Nat) (ml : Nat → Nat) (X : Nat → Nat → Int) (H : Heap) (hP : PX D ks bx ml X H) (hV : VX X) (hst : l.stackTraces = false) {fo : Nat → Int64} (ho : ca D (bx + 75) (jA (ks 1) 1 fo) H) (u v2 : Int) (hu : -2147483648 ≤ u ∧ u < 2147483648) (hv2 : -2147483648 ≤ v2 ∧ v2 < 2147483648) : KM l yL_toneAt wsL_toneAt ({ frames := 8, cells := 2, slots := 12, locals := 135 } : Room) D ks bx [.ref bx, .int (z2 (u)), .int (z2 (v2)), .ref (bx + 75)] H (RW bx) (fun v H1 => ∃ (z r : Int) (Y : Nat → Nat → Int), co_toneAt X u v2 z r Y ∧ v = some (.int (z2 z)) ∧ (∃ ml1 : Nat → Nat, PX D ks bx ml1 Y H1) ∧ ∃ f1 : Nat → Int64, ca D (bx + 75) (jA (ks 1) 1 f1) H1 ∧ (z = 0 → f1 0 = (z2 r).toInt64)) (fun _ _ => False) := by
  refine KM.ofH (cc := cL_toneAt) (maxL := 5) (ret := (some .int)) (hh := [(0, 10, 13, 13)]) (by decide) rfl (Nat.le_of_ble_eq_true rfl) ?_
  intro p e s m below meth c hx hb hml hr hlocks hown hts htb hH0 hG ls hl
  subst hH0
  have hown : s.vm.findClass RL = some m.cls := hown
  have hS : va_S (AR (RW bx) s.heap.size) s.heap s.heap [] := va_S.rf
  have hl : lv_has ls 5 [(0, .ref bx), (1, .int (z2 (u))), (2, .int (z2 (v2))), (3, .ref (bx + 75))] := hl
  refine lv_aload_n hx hb dL_toneAt_0 rfl (lv_at hl 3 rfl) ?_
  refine b_iconst hx hb dL_toneAt_1 ?_
  refine lv_aload_n hx hb dL_toneAt_2 rfl (lv_at hl 0 rfl) ?_
  refine lv_iload_n hx hb dL_toneAt_3 rfl (lv_at hl 1 rfl) ?_
  refine lv_iload_n hx hb dL_toneAt_4 rfl (lv_at hl 2 rfl) ?_
  refine g_run (vx_runV (As := [.int (z2 (u)), .int (z2 (v2))]) (rest := [.int (z2 (0)), .ref (bx + 75)]) ⟨hx, hb, hml, hown, hts⟩ (k_toneAt l D ks bx ml X _ hP hV hst (u) (v2) hu hv2) (cwV 2 hts gL_toneAt_X4_toneAt rfl rfl rfl (by decide +kernel) ⟨Nat.le_of_ble_eq_true rfl, Nat.le_of_ble_eq_true rfl⟩) (g_preV (r := (RX4, TX4, 7)) hG hS rw_ge hP.1 rfl) rfl rfl hl.1 rfl (lv_room (Nat.le_of_ble_eq_true rfl)) dL_toneAt_5 ⟨Nat.le_of_ble_eq_true rfl, Nat.le_of_ble_eq_true rfl⟩) hS (fun _ h => Or.inl h) ?_ ?_
  · intro E ce q9 H locs hp hz9 hk9 hS hce hcv hcl
    obtain ⟨t9, e9⟩ := hp
    have hP := hP.keep (fun q h1 _ => t9.2 q h1)
    have ho := ho.kept (t9.2 _ ho.lt)
    rcases e9 with ⟨rfl, c9⟩
    · skip
      refine vx_catch hown [] ⟨0, 10, 13, 13⟩ [] (htb.trans rfl) (fun z hz => by cases hz) rfl (by decide) (name := "java/lang/IndexOutOfBoundsException") (hts (.classLink RL 13 "java/lang/IndexOutOfBoundsException") (by decide +kernel)) (va_Nw.use rfl (hG.2.1 _ (List.mem_of_getElem? (i := 28) rfl))) hce hcv hcl ?_
      refine lv_astore (lv' := [(4, .ref q9), (0, .ref bx), (1, .int (z2 (u))), (2, .int (z2 (v2))), (3, .ref (bx + 75))]) hx hb dL_toneAt_13 hl (by decide) rfl (fun ls hl => ?_)
      refine b_iconst hx hb dL_toneAt_15 ?_
      exact g_iret hx hb hr hlocks hS ⟨Nat.le_of_ble_eq_true rfl, Nat.le_of_ble_eq_true rfl⟩ (⟨1, 0, X, Or.inr (⟨c9, rfl, rfl⟩), rfl, ⟨_, hP⟩, ⟨_, ho, fun q => absurd q (by decide)⟩⟩) dL_toneAt_16
  · intro v H locs hp hz9 hk9 hS
    obtain ⟨k, q, hc9, rfl, hP9⟩ := hp
    obtain rfl := hP9.symm
    have ho := ho.kept (hk9 _ ho.lt (fun h => absurd h.2 (by omega)))
    refine W.eq (g2 := F0 m 8 ls [.int (z2 (toS (X 38 k) q)), .int (z2 (0)), .ref (bx + 75)]) rfl ?_
    refine lv_i2l (v := (z2 (toS (X 38 k) q)).toInt64) hx hb dL_toneAt_8 rfl ?_
    refine g_last (n := 1) hx hb hG hS ho (Or.inl (Or.inr rfl)) 0 ⟨rfl, by decide, by decide⟩ dL_toneAt_9 (fun H locs he hz9 oq hS => ?_)
    have ho := he
    have hP := hP.keep (fun q _ h2 => oq q (by omega))
    refine lv_goto (tgt := 17) hx hb dL_toneAt_10 (by decide) ?_
    refine b_iconst hx hb dL_toneAt_17 ?_
    exact g_iret hx hb hr hlocks hS ⟨Nat.le_of_ble_eq_true rfl, Nat.le_of_ble_eq_true rfl⟩ (⟨0, toS (X 38 k) q, X, Or.inl ⟨k, q, hc9, rfl, rfl, rfl⟩, rfl, ⟨_, hP⟩, ⟨_, ho, fun _ => rfl⟩⟩) dL_toneAt_18
set_option maxHeartbeats 4000000 in
set_option maxRecDepth 100000 in
theorem w_shifted (l : Launch) (D : va_G) (ks : Nat → ClassId) (bx : Nat) (ml : Nat → Nat) (X : Nat → Nat → Int) (H : Heap) (hP : PX D ks bx ml X H) (hV : VX X) (hst : l.stackTraces = false) {fo : Nat → Int64} (ho : ca D (bx + 75) (jA (ks 1) 1 fo) H) (u v2 : Int) (hu : -2147483648 ≤ u ∧ u < 2147483648) (hv2 : -2147483648 ≤ v2 ∧ v2 < 2147483648) : KM l yL_shifted wsL_shifted ({ frames := 8, cells := 2, slots := 12, locals := 135 } : Room) D ks bx [.ref bx, .int (z2 (u)), .int (z2 (v2)), .ref (bx + 75)] H (RW bx) (fun v H1 => ∃ (z r : Int) (Y : Nat → Nat → Int), co_shifted X u v2 z r Y ∧ v = some (.int (z2 z)) ∧ (∃ ml1 : Nat → Nat, PX D ks bx ml1 Y H1) ∧ ∃ f1 : Nat → Int64, ca D (bx + 75) (jA (ks 1) 1 f1) H1 ∧ (z = 0 → f1 0 = l2 r)) (fun _ _ => False) := by
  refine KM.ofH (cc := cL_shifted) (maxL := 5) (ret := (some .int)) (hh := [(0, 9, 12, 13), (0, 9, 16, 15)]) (by decide) rfl (Nat.le_of_ble_eq_true rfl) ?_
  intro p e s m below meth c hx hb hml hr hlocks hown hts htb hH0 hG ls hl
  subst hH0
  have hown : s.vm.findClass RL = some m.cls := hown
  have hS : va_S (AR (RW bx) s.heap.size) s.heap s.heap [] := va_S.rf
  have hl : lv_has ls 5 [(0, .ref bx), (1, .int (z2 (u))), (2, .int (z2 (v2))), (3, .ref (bx + 75))] := hl
  refine lv_aload_n hx hb dL_shifted_0 rfl (lv_at hl 3 rfl) ?_
  refine b_iconst hx hb dL_shifted_1 ?_
  refine lv_aload_n hx hb dL_shifted_2 rfl (lv_at hl 0 rfl) ?_
  refine lv_iload_n hx hb dL_shifted_3 rfl (lv_at hl 1 rfl) ?_
  refine lv_iload_n hx hb dL_shifted_4 rfl (lv_at hl 2 rfl) ?_
  refine g_run (vx_runV (As := [.int (z2 (u)), .int (z2 (v2))]) (rest := [.int (z2 (0)), .ref (bx + 75)]) ⟨hx, hb, hml, hown, hts⟩ (k_shifted l D ks bx ml X _ hP hV hst (u) (v2) hu hv2) (cwV 2 hts gL_shifted_X4_shifted rfl rfl rfl (by decide +kernel) ⟨Nat.le_of_ble_eq_true rfl, Nat.le_of_ble_eq_true rfl⟩) (g_preV (r := (RX4, TX4, 7)) hG hS rw_ge hP.1 rfl) rfl rfl hl.1 rfl (lv_room (Nat.le_of_ble_eq_true rfl)) dL_shifted_5 ⟨Nat.le_of_ble_eq_true rfl, Nat.le_of_ble_eq_true rfl⟩) hS (fun _ h => Or.inl h) ?_ ?_
  · intro E ce q9 H locs hp hz9 hk9 hS hce hcv hcl
    obtain ⟨t9, e9⟩ := hp
    have hP := hP.keep (fun q h1 _ => t9.2 q h1)
    have ho := ho.kept (t9.2 _ ho.lt)
    rcases e9 with ⟨rfl, c9⟩ | ⟨rfl, c9⟩
    · skip
      refine vx_catch hown [] ⟨0, 9, 12, 13⟩ [⟨0, 9, 16, 15⟩] (htb.trans rfl) (fun z hz => by cases hz) rfl (by decide) (name := "java/lang/IndexOutOfBoundsException") (hts (.classLink RL 13 "java/lang/IndexOutOfBoundsException") (by decide +kernel)) (va_Nw.use rfl (hG.2.1 _ (List.mem_of_getElem? (i := 28) rfl))) hce hcv hcl ?_
      refine lv_astore (lv' := [(4, .ref q9), (0, .ref bx), (1, .int (z2 (u))), (2, .int (z2 (v2))), (3, .ref (bx + 75))]) hx hb dL_shifted_12 hl (by decide) rfl (fun ls hl => ?_)
      refine b_iconst hx hb dL_shifted_14 ?_
      exact g_iret hx hb hr hlocks hS ⟨Nat.le_of_ble_eq_true rfl, Nat.le_of_ble_eq_true rfl⟩ (⟨1, 0, X, Or.inr (Or.inl (⟨c9, rfl, rfl⟩)), rfl, ⟨_, hP⟩, ⟨_, ho, fun q => absurd q (by decide)⟩⟩) dL_shifted_15
    · skip
      refine vx_catch hown [⟨0, 9, 12, 13⟩] ⟨0, 9, 16, 15⟩ [] (htb.trans rfl) (fun z hz => by (rcases List.mem_cons.mp hz with rfl | hz; exact Or.inr ⟨by decide, "java/lang/IndexOutOfBoundsException", hts (.classLink RL 13 "java/lang/IndexOutOfBoundsException") (by decide +kernel), hG.2.2.2.1 _ (List.mem_of_getElem? (i := 0) rfl)⟩; cases hz)) rfl (by decide) (name := "java/lang/IllegalArgumentException") (hts (.classLink RL 15 "java/lang/IllegalArgumentException") (by decide +kernel)) (va_Nw.use rfl (hG.2.1 _ (List.mem_of_getElem? (i := 29) rfl))) hce hcv hcl ?_
      refine lv_astore (lv' := [(4, .ref q9), (0, .ref bx), (1, .int (z2 (u))), (2, .int (z2 (v2))), (3, .ref (bx + 75))]) hx hb dL_shifted_16 hl (by decide) rfl (fun ls hl => ?_)
      refine b_iconst hx hb dL_shifted_18 ?_
      exact g_iret hx hb hr hlocks hS ⟨Nat.le_of_ble_eq_true rfl, Nat.le_of_ble_eq_true rfl⟩ (⟨2, 0, X, Or.inr (Or.inr (⟨c9, rfl, rfl⟩)), rfl, ⟨_, hP⟩, ⟨_, ho, fun q => absurd q (by decide)⟩⟩) dL_shifted_19
  · intro v H locs hp hz9 hk9 hS
    obtain ⟨k, cn, hc9, rfl, hP9⟩ := hp
    obtain rfl := hP9.symm
    have ho := ho.kept (hk9 _ ho.lt (fun h => absurd h.2 (by omega)))
    refine W.eq (g2 := F0 m 8 ls [.long (l2 (shR (X 38 k) v2 cn cn)), .int (z2 (0)), .ref (bx + 75)]) rfl ?_
    refine g_last (n := 1) hx hb hG hS ho (Or.inl (Or.inr rfl)) 0 ⟨rfl, by decide, by decide⟩ dL_shifted_8 (fun H locs he hz9 oq hS => ?_)
    have ho := he
    have hP := hP.keep (fun q _ h2 => oq q (by omega))
    refine lv_goto (tgt := 20) hx hb dL_shifted_9 (by decide) ?_
    refine b_iconst hx hb dL_shifted_20 ?_
    exact g_iret hx hb hr hlocks hS ⟨Nat.le_of_ble_eq_true rfl, Nat.le_of_ble_eq_true rfl⟩ (⟨0, shR (X 38 k) v2 cn cn, X, Or.inl ⟨k, cn, hc9, rfl, rfl, rfl⟩, rfl, ⟨_, hP⟩, ⟨_, ho, fun _ => rfl⟩⟩) dL_shifted_21
set_option maxHeartbeats 4000000 in
set_option maxRecDepth 100000 in
theorem w_turned (l : Launch) (D : va_G) (ks : Nat → ClassId) (bx : Nat) (ml : Nat → Nat) (X : Nat → Nat → Int) (H : Heap) (hP : PX D ks bx ml X H) (hV : VX X) (hst : l.stackTraces = false) {fo : Nat → Int64} (ho : ca D (bx + 75) (jA (ks 1) 1 fo) H) (u : Int) (hu : -2147483648 ≤ u ∧ u < 2147483648) : KM l yL_turned wsL_turned ({ frames := 8, cells := 1, slots := 6, locals := 133 } : Room) D ks bx [.ref bx, .int (z2 (u)), .ref (bx + 75)] H (RW bx) (fun v H1 => ∃ (z r : Int) (Y : Nat → Nat → Int), co_turned X u z r Y ∧ v = some (.int (z2 z)) ∧ (∃ ml1 : Nat → Nat, PX D ks bx ml1 Y H1) ∧ ∃ f1 : Nat → Int64, ca D (bx + 75) (jA (ks 1) 1 f1) H1 ∧ (z = 0 → f1 0 = l2 r)) (fun _ _ => False) := by
  refine KM.ofH (cc := cL_turned) (maxL := 4) (ret := (some .int)) (hh := [(0, 8, 11, 13)]) (by decide) rfl (Nat.le_of_ble_eq_true rfl) ?_
  intro p e s m below meth c hx hb hml hr hlocks hown hts htb hH0 hG ls hl
  subst hH0
  have hown : s.vm.findClass RL = some m.cls := hown
  have hS : va_S (AR (RW bx) s.heap.size) s.heap s.heap [] := va_S.rf
  have hl : lv_has ls 4 [(0, .ref bx), (1, .int (z2 (u))), (2, .ref (bx + 75))] := hl
  refine lv_aload_n hx hb dL_turned_0 rfl (lv_at hl 2 rfl) ?_
  refine b_iconst hx hb dL_turned_1 ?_
  refine lv_aload_n hx hb dL_turned_2 rfl (lv_at hl 0 rfl) ?_
  refine lv_iload_n hx hb dL_turned_3 rfl (lv_at hl 1 rfl) ?_
  refine g_run (vx_runV (As := [.int (z2 (u))]) (rest := [.int (z2 (0)), .ref (bx + 75)]) ⟨hx, hb, hml, hown, hts⟩ (k_turned l D ks bx ml X _ hP hV hst (u) hu) (cwV 1 hts gL_turned_X4_turned rfl rfl rfl (by decide +kernel) ⟨Nat.le_of_ble_eq_true rfl, Nat.le_of_ble_eq_true rfl⟩) (g_preV (r := (RX4, TX4, 7)) hG hS rw_ge hP.1 rfl) rfl rfl hl.1 rfl (lv_room (Nat.le_of_ble_eq_true rfl)) dL_turned_4 ⟨Nat.le_of_ble_eq_true rfl, Nat.le_of_ble_eq_true rfl⟩) hS (fun _ h => Or.inl h) ?_ ?_
  · intro E ce q9 H locs hp hz9 hk9 hS hce hcv hcl
    obtain ⟨t9, e9⟩ := hp
    have hP := hP.keep (fun q h1 _ => t9.2 q h1)
    have ho := ho.kept (t9.2 _ ho.lt)
    rcases e9 with ⟨rfl, c9⟩
    · skip
      refine vx_catch hown [] ⟨0, 8, 11, 13⟩ [] (htb.trans rfl) (fun z hz => by cases hz) rfl (by decide) (name := "java/lang/IndexOutOfBoundsException") (hts (.classLink RL 13 "java/lang/IndexOutOfBoundsException") (by decide +kernel)) (va_Nw.use rfl (hG.2.1 _ (List.mem_of_getElem? (i := 28) rfl))) hce hcv hcl ?_
      refine lv_astore_n (lv' := [(3, .ref q9), (0, .ref bx), (1, .int (z2 (u))), (2, .ref (bx + 75))]) hx hb dL_turned_11 rfl hl (by decide) rfl (fun ls hl => ?_)
      refine b_iconst hx hb dL_turned_12 ?_
      exact g_iret hx hb hr hlocks hS ⟨Nat.le_of_ble_eq_true rfl, Nat.le_of_ble_eq_true rfl⟩ (⟨1, 0, X, Or.inr (⟨c9, rfl, rfl⟩), rfl, ⟨_, hP⟩, ⟨_, ho, fun q => absurd q (by decide)⟩⟩) dL_turned_13
  · intro v H locs hp hz9 hk9 hS
    obtain ⟨k, cn, hc9, rfl, hP9⟩ := hp
    obtain rfl := hP9.symm
    have ho := ho.kept (hk9 _ ho.lt (fun h => absurd h.2 (by omega)))
    refine W.eq (g2 := F0 m 7 ls [.long (l2 (tuR (X 38 k) cn)), .int (z2 (0)), .ref (bx + 75)]) rfl ?_
    refine g_last (n := 1) hx hb hG hS ho (Or.inl (Or.inr rfl)) 0 ⟨rfl, by decide, by decide⟩ dL_turned_7 (fun H locs he hz9 oq hS => ?_)
    have ho := he
    have hP := hP.keep (fun q _ h2 => oq q (by omega))
    refine lv_goto (tgt := 14) hx hb dL_turned_8 (by decide) ?_
    refine b_iconst hx hb dL_turned_14 ?_
    exact g_iret hx hb hr hlocks hS ⟨Nat.le_of_ble_eq_true rfl, Nat.le_of_ble_eq_true rfl⟩ (⟨0, tuR (X 38 k) cn, X, Or.inl ⟨k, cn, hc9, rfl, rfl, rfl⟩, rfl, ⟨_, hP⟩, ⟨_, ho, fun _ => rfl⟩⟩) dL_turned_15
set_option maxHeartbeats 4000000 in
set_option maxRecDepth 100000 in
theorem w_areAlike (l : Launch) (D : va_G) (ks : Nat → ClassId) (bx : Nat) (ml : Nat → Nat) (X : Nat → Nat → Int) (H : Heap) (hP : PX D ks bx ml X H) (hV : VX X) (hst : l.stackTraces = false) {fo : Nat → Int64} (ho : ca D (bx + 75) (jA (ks 1) 1 fo) H) (u v2 : Int) (hu : -2147483648 ≤ u ∧ u < 2147483648) (hv2 : -2147483648 ≤ v2 ∧ v2 < 2147483648) : KM l yL_areAlike wsL_areAlike ({ frames := 8, cells := 2, slots := 12, locals := 134 } : Room) D ks bx [.ref bx, .int (z2 (u)), .int (z2 (v2)), .ref (bx + 75)] H (RW bx) (fun v H1 => ∃ (z r : Int) (Y : Nat → Nat → Int), co_areAlike X u v2 z r Y ∧ v = some (.int (z2 z)) ∧ (∃ ml1 : Nat → Nat, PX D ks bx ml1 Y H1) ∧ ∃ f1 : Nat → Int64, ca D (bx + 75) (jA (ks 1) 1 f1) H1 ∧ (z = 0 → f1 0 = l2 r)) (fun _ _ => False) := by
  refine KM.ofH (cc := cL_areAlike) (maxL := 5) (ret := (some .int)) (hh := [(0, 17, 20, 13)]) (by decide) rfl (Nat.le_of_ble_eq_true rfl) ?_
  intro p e s m below meth c hx hb hml hr hlocks hown hts htb hH0 hG ls hl
  subst hH0
  have hown : s.vm.findClass RL = some m.cls := hown
  have hS : va_S (AR (RW bx) s.heap.size) s.heap s.heap [] := va_S.rf
  have hl : lv_has ls 5 [(0, .ref bx), (1, .int (z2 (u))), (2, .int (z2 (v2))), (3, .ref (bx + 75))] := hl
  refine lv_aload_n hx hb dL_areAlike_0 rfl (lv_at hl 3 rfl) ?_
  refine b_iconst hx hb dL_areAlike_1 ?_
  refine lv_aload_n hx hb dL_areAlike_2 rfl (lv_at hl 0 rfl) ?_
  refine lv_iload_n hx hb dL_areAlike_3 rfl (lv_at hl 1 rfl) ?_
  refine lv_iload_n hx hb dL_areAlike_4 rfl (lv_at hl 2 rfl) ?_
  refine g_run (vx_runV (As := [.int (z2 (u)), .int (z2 (v2))]) (rest := [.int (z2 (0)), .ref (bx + 75)]) ⟨hx, hb, hml, hown, hts⟩ (k_areAlike l D ks bx ml X _ hP hV hst (u) (v2) hu hv2) (cwV 2 hts gL_areAlike_X4_areAlike rfl rfl rfl (by decide +kernel) ⟨Nat.le_of_ble_eq_true rfl, Nat.le_of_ble_eq_true rfl⟩) (g_preV (r := (RX4, TX4, 7)) hG hS rw_ge hP.1 rfl) rfl rfl hl.1 rfl (lv_room (Nat.le_of_ble_eq_true rfl)) dL_areAlike_5 ⟨Nat.le_of_ble_eq_true rfl, Nat.le_of_ble_eq_true rfl⟩) hS (fun _ h => Or.inl h) ?_ ?_
  · intro E ce q9 H locs hp hz9 hk9 hS hce hcv hcl
    obtain ⟨t9, e9⟩ := hp
    have hP := hP.keep (fun q h1 _ => t9.2 q h1)
    have ho := ho.kept (t9.2 _ ho.lt)
    rcases e9 with ⟨rfl, c9⟩
    · skip
      refine vx_catch hown [] ⟨0, 17, 20, 13⟩ [] (htb.trans rfl) (fun z hz => by cases hz) rfl (by decide) (name := "java/lang/IndexOutOfBoundsException") (hts (.classLink RL 13 "java/lang/IndexOutOfBoundsException") (by decide +kernel)) (va_Nw.use rfl (hG.2.1 _ (List.mem_of_getElem? (i := 28) rfl))) hce hcv hcl ?_
      refine lv_astore (lv' := [(4, .ref q9), (0, .ref bx), (1, .int (z2 (u))), (2, .int (z2 (v2))), (3, .ref (bx + 75))]) hx hb dL_areAlike_20 hl (by decide) rfl (fun ls hl => ?_)
      refine b_iconst hx hb dL_areAlike_22 ?_
      exact g_iret hx hb hr hlocks hS ⟨Nat.le_of_ble_eq_true rfl, Nat.le_of_ble_eq_true rfl⟩ (⟨1, 0, X, Or.inr (⟨c9, rfl, rfl⟩), rfl, ⟨_, hP⟩, ⟨_, ho, fun q => absurd q (by decide)⟩⟩) dL_areAlike_23
  · intro v H locs hp hz9 hk9 hS
    obtain ⟨k, k2, hc9, rfl, hP9⟩ := hp
    obtain rfl := hP9.symm
    have ho := ho.kept (hk9 _ ho.lt (fun h => absurd h.2 (by omega)))
    obtain ⟨w9, ew9, r01⟩ : ∃ w9 : Int, w9 = (isS X k k2) ∧ (w9 = 0 ∨ w9 = 1) := ⟨_, rfl, by unfold isS; split <;> simp⟩
    rw [← ew9]
    refine W.eq (g2 := F0 m 8 ls [.int (z2 (w9)), .int (z2 (0)), .ref (bx + 75)]) rfl ?_
    refine b_if_eq (tgt := 15) hx hb dL_areAlike_8 (by decide) ⟨by omega, by omega⟩ (fun c_b => ?_) (fun c_b => ?_)
    · skip
      refine lv_lconst (v := l2 0) hx hb dL_areAlike_15 (by decide +kernel) ?_
      refine g_last (n := 1) hx hb hG hS ho (Or.inl (Or.inr rfl)) 0 ⟨rfl, by decide, by decide⟩ dL_areAlike_16 (fun H locs he hz9 oq hS => ?_)
      have ho := he
      have hP := hP.keep (fun q _ h2 => oq q (by omega))
      refine lv_goto (tgt := 24) hx hb dL_areAlike_17 (by decide) ?_
      refine b_iconst hx hb dL_areAlike_24 ?_
      exact g_iret hx hb hr hlocks hS ⟨Nat.le_of_ble_eq_true rfl, Nat.le_of_ble_eq_true rfl⟩ (⟨0, isS X k k2, X, Or.inl ⟨k, k2, hc9, rfl, rfl, rfl⟩, rfl, ⟨_, hP⟩, ⟨_, ho, fun _ => congrArg l2 (show (0 : Int) = isS X k k2 by omega)⟩⟩) dL_areAlike_25
    · skip
      refine lv_lconst (v := l2 1) hx hb dL_areAlike_11 (by decide +kernel) ?_
      refine lv_goto (tgt := 16) hx hb dL_areAlike_12 (by decide) ?_
      refine g_last (n := 1) hx hb hG hS ho (Or.inl (Or.inr rfl)) 0 ⟨rfl, by decide, by decide⟩ dL_areAlike_16 (fun H locs he hz9 oq hS => ?_)
      have ho := he
      have hP := hP.keep (fun q _ h2 => oq q (by omega))
      refine lv_goto (tgt := 24) hx hb dL_areAlike_17 (by decide) ?_
      refine b_iconst hx hb dL_areAlike_24 ?_
      exact g_iret hx hb hr hlocks hS ⟨Nat.le_of_ble_eq_true rfl, Nat.le_of_ble_eq_true rfl⟩ (⟨0, isS X k k2, X, Or.inl ⟨k, k2, hc9, rfl, rfl, rfl⟩, rfl, ⟨_, hP⟩, ⟨_, ho, fun _ => congrArg l2 (show (1 : Int) = isS X k k2 by omega)⟩⟩) dL_areAlike_25
set_option maxHeartbeats 4000000 in
set_option maxRecDepth 100000 in
theorem w_license (l : Launch) (D : va_G) (ks : Nat → ClassId) (bx : Nat) (ml : Nat → Nat) (X : Nat → Nat → Int) (H : Heap) (hP : PX D ks bx ml X H) (hV : VX X) (hst : l.stackTraces = false) {fo : Nat → Int64} (ho : ca D (bx + 75) (jA (ks 1) 1 fo) H) (u v2 u3 : Int) (hu : -2147483648 ≤ u ∧ u < 2147483648) (hv2 : -2147483648 ≤ v2 ∧ v2 < 2147483648) (hu3 : -2147483648 ≤ u3 ∧ u3 < 2147483648) : KM l yL_license wsL_license ({ frames := 9, cells := 3, slots := 18, locals := 157 } : Room) D ks bx [.ref bx, .int (z2 (u)), .int (z2 (v2)), .int (z2 (u3)), .ref (bx + 75)] H (RW bx) (fun v H1 => ∃ (z r : Int) (Y : Nat → Nat → Int), co_license X u v2 u3 z r Y ∧ v = some (.int (z2 z)) ∧ (∃ ml1 : Nat → Nat, PX D ks bx ml1 Y H1) ∧ ∃ f1 : Nat → Int64, ca D (bx + 75) (jA (ks 1) 1 f1) H1 ∧ (z = 0 → f1 0 = (z2 r).toInt64)) (fun _ _ => False) := by
  refine KM.ofH (cc := cL_license) (maxL := 6) (ret := (some .int)) (hh := [(0, 12, 15, 13), (0, 12, 19, 15), (0, 12, 23, 17)]) (by decide) rfl (Nat.le_of_ble_eq_true rfl) ?_
  intro p e s m below meth c hx hb hml hr hlocks hown hts htb hH0 hG ls hl
  subst hH0
  have hown : s.vm.findClass RL = some m.cls := hown
  have hS : va_S (AR (RW bx) s.heap.size) s.heap s.heap [] := va_S.rf
  have hl : lv_has ls 6 [(0, .ref bx), (1, .int (z2 (u))), (2, .int (z2 (v2))), (3, .int (z2 (u3))), (4, .ref (bx + 75))] := hl
  refine lv_aload hx hb dL_license_0 (lv_at hl 4 rfl) ?_
  refine b_iconst hx hb dL_license_2 ?_
  refine lv_aload_n hx hb dL_license_3 rfl (lv_at hl 0 rfl) ?_
  refine lv_iload_n hx hb dL_license_4 rfl (lv_at hl 1 rfl) ?_
  refine lv_iload_n hx hb dL_license_5 rfl (lv_at hl 2 rfl) ?_
  refine lv_iload_n hx hb dL_license_6 rfl (lv_at hl 3 rfl) ?_
  refine g_run (vx_runV (As := [.int (z2 (u)), .int (z2 (v2)), .int (z2 (u3))]) (rest := [.int (z2 (0)), .ref (bx + 75)]) ⟨hx, hb, hml, hown, hts⟩ (k_license l D ks bx ml X _ hP hV hst (u) (v2) (u3) hu hv2 hu3) (cwV 3 hts gL_license_X4_license rfl rfl rfl (by decide +kernel) ⟨Nat.le_of_ble_eq_true rfl, Nat.le_of_ble_eq_true rfl⟩) (g_preV (r := (RX4, TX4, 7)) hG hS rw_ge hP.1 rfl) rfl rfl hl.1 rfl (lv_room (Nat.le_of_ble_eq_true rfl)) dL_license_7 ⟨Nat.le_of_ble_eq_true rfl, Nat.le_of_ble_eq_true rfl⟩) hS (fun _ h => Or.inl h) ?_ ?_
  · intro E ce q9 H locs hp hz9 hk9 hS hce hcv hcl
    obtain ⟨t9, e9⟩ := hp
    have hP := hP.keep (fun q h1 _ => t9.2 q h1)
    have ho := ho.kept (t9.2 _ ho.lt)
    rcases e9 with ⟨rfl, c9⟩ | ⟨rfl, c9⟩ | ⟨rfl, c9⟩
    · skip
      refine vx_catch hown [] ⟨0, 12, 15, 13⟩ [⟨0, 12, 19, 15⟩, ⟨0, 12, 23, 17⟩] (htb.trans rfl) (fun z hz => by cases hz) rfl (by decide) (name := "java/lang/IndexOutOfBoundsException") (hts (.classLink RL 13 "java/lang/IndexOutOfBoundsException") (by decide +kernel)) (va_Nw.use rfl (hG.2.1 _ (List.mem_of_getElem? (i := 28) rfl))) hce hcv hcl ?_
      refine lv_astore (lv' := [(5, .ref q9), (0, .ref bx), (1, .int (z2 (u))), (2, .int (z2 (v2))), (3, .int (z2 (u3))), (4, .ref (bx + 75))]) hx hb dL_license_15 hl (by decide) rfl (fun ls hl => ?_)
      refine b_iconst hx hb dL_license_17 ?_
      exact g_iret hx hb hr hlocks hS ⟨Nat.le_of_ble_eq_true rfl, Nat.le_of_ble_eq_true rfl⟩ (⟨1, 0, X, Or.inr (Or.inl (⟨c9, rfl, rfl⟩)), rfl, ⟨_, hP⟩, ⟨_, ho, fun q => absurd q (by decide)⟩⟩) dL_license_18
    · skip
      refine vx_catch hown [⟨0, 12, 15, 13⟩] ⟨0, 12, 19, 15⟩ [⟨0, 12, 23, 17⟩] (htb.trans rfl) (fun z hz => by (rcases List.mem_cons.mp hz with rfl | hz; exact Or.inr ⟨by decide, "java/lang/IndexOutOfBoundsException", hts (.classLink RL 13 "java/lang/IndexOutOfBoundsException") (by decide +kernel), hG.2.2.2.1 _ (List.mem_of_getElem? (i := 0) rfl)⟩; cases hz)) rfl (by decide) (name := "java/lang/IllegalArgumentException") (hts (.classLink RL 15 "java/lang/IllegalArgumentException") (by decide +kernel)) (va_Nw.use rfl (hG.2.1 _ (List.mem_of_getElem? (i := 29) rfl))) hce hcv hcl ?_
      refine lv_astore (lv' := [(5, .ref q9), (0, .ref bx), (1, .int (z2 (u))), (2, .int (z2 (v2))), (3, .int (z2 (u3))), (4, .ref (bx + 75))]) hx hb dL_license_19 hl (by decide) rfl (fun ls hl => ?_)
      refine b_iconst hx hb dL_license_21 ?_
      exact g_iret hx hb hr hlocks hS ⟨Nat.le_of_ble_eq_true rfl, Nat.le_of_ble_eq_true rfl⟩ (⟨2, 0, X, Or.inr (Or.inr (Or.inl (⟨c9, rfl, rfl⟩))), rfl, ⟨_, hP⟩, ⟨_, ho, fun q => absurd q (by decide)⟩⟩) dL_license_22
    · skip
      refine vx_catch hown [⟨0, 12, 15, 13⟩, ⟨0, 12, 19, 15⟩] ⟨0, 12, 23, 17⟩ [] (htb.trans rfl) (fun z hz => by (rcases List.mem_cons.mp hz with rfl | hz; exact Or.inr ⟨by decide, "java/lang/IndexOutOfBoundsException", hts (.classLink RL 13 "java/lang/IndexOutOfBoundsException") (by decide +kernel), hG.2.2.2.1 _ (List.mem_of_getElem? (i := 1) rfl)⟩; (rcases List.mem_cons.mp hz with rfl | hz; exact Or.inr ⟨by decide, "java/lang/IllegalArgumentException", hts (.classLink RL 15 "java/lang/IllegalArgumentException") (by decide +kernel), hG.2.2.2.1 _ (List.mem_of_getElem? (i := 2) rfl)⟩; cases hz))) rfl (by decide) (name := "java/lang/IllegalStateException") (hts (.classLink RL 17 "java/lang/IllegalStateException") (by decide +kernel)) (va_Nw.use rfl (hG.2.1 _ (List.mem_of_getElem? (i := 30) rfl))) hce hcv hcl ?_
      refine lv_astore (lv' := [(5, .ref q9), (0, .ref bx), (1, .int (z2 (u))), (2, .int (z2 (v2))), (3, .int (z2 (u3))), (4, .ref (bx + 75))]) hx hb dL_license_23 hl (by decide) rfl (fun ls hl => ?_)
      refine b_iconst hx hb dL_license_25 ?_
      exact g_iret hx hb hr hlocks hS ⟨Nat.le_of_ble_eq_true rfl, Nat.le_of_ble_eq_true rfl⟩ (⟨3, 0, X, Or.inr (Or.inr (Or.inr (⟨c9, rfl, rfl⟩))), rfl, ⟨_, hP⟩, ⟨_, ho, fun q => absurd q (by decide)⟩⟩) dL_license_26
  · intro v H locs hp hz9 hk9 hS
    obtain ⟨n, k, hc9, rfl, hP9⟩ := hp
    have hP := hP9
    have ho := ho.kept (hk9 _ ho.lt (fun h => absurd h.2 (by omega)))
    refine W.eq (g2 := F0 m 10 ls [.int (z2 (X 23 (12 * n + k) + u3)), .int (z2 (0)), .ref (bx + 75)]) rfl ?_
    refine lv_i2l (v := (z2 (X 23 (12 * n + k) + u3)).toInt64) hx hb dL_license_10 rfl ?_
    refine g_last (n := 1) hx hb hG hS ho (Or.inl (Or.inr rfl)) 0 ⟨rfl, by decide, by decide⟩ dL_license_11 (fun H locs he hz9 oq hS => ?_)
    have ho := he
    have hP := hP.keep (fun q _ h2 => oq q (by omega))
    refine lv_goto (tgt := 27) hx hb dL_license_12 (by decide) ?_
    refine b_iconst hx hb dL_license_27 ?_
    exact g_iret hx hb hr hlocks hS ⟨Nat.le_of_ble_eq_true rfl, Nat.le_of_ble_eq_true rfl⟩ (⟨0, X 23 (12 * n + k) + u3, (up X 23 (12 * n + k) (X 23 (12 * n + k) + u3)), Or.inl ⟨n, k, hc9, rfl, rfl, rfl⟩, rfl, ⟨_, hP⟩, ⟨_, ho, fun _ => rfl⟩⟩) dL_license_28
set_option maxHeartbeats 4000000 in
set_option maxRecDepth 100000 in
theorem w_setQuiet (l : Launch) (D : va_G) (ks : Nat → ClassId) (bx : Nat) (ml : Nat → Nat) (X : Nat → Nat → Int) (H : Heap) (hP : PX D ks bx ml X H) (hV : VX X) (hst : l.stackTraces = false) {fo : Nat → Int64} (ho : ca D (bx + 75) (jA (ks 1) 1 fo) H) (u v2 u3 : Int) (hu : -2147483648 ≤ u ∧ u < 2147483648) (hv2 : -2147483648 ≤ v2 ∧ v2 < 2147483648) (hu3 : -2147483648 ≤ u3 ∧ u3 < 2147483648) : KM l yL_setQuiet wsL_setQuiet ({ frames := 9, cells := 2, slots := 12, locals := 156 } : Room) D ks bx [.ref bx, .int (z2 (u)), .int (z2 (v2)), .int (z2 (u3)), .ref (bx + 75)] H (RW bx) (fun v H1 => ∃ (z r : Int) (Y : Nat → Nat → Int), co_setQuiet X u v2 u3 z r Y ∧ v = some (.int (z2 z)) ∧ (∃ ml1 : Nat → Nat, PX D ks bx ml1 Y H1) ∧ ∃ f1 : Nat → Int64, ca D (bx + 75) (jA (ks 1) 1 f1) H1 ∧ (z = 0 → f1 0 = l2 r)) (fun _ _ => False) := by
  refine KM.ofH (cc := cL_setQuiet) (maxL := 6) (ret := (some .int)) (hh := [(0, 19, 22, 13), (0, 19, 26, 15)]) (by decide) rfl (Nat.le_of_ble_eq_true rfl) ?_
  intro p e s m below meth c hx hb hml hr hlocks hown hts htb hH0 hG ls hl
  subst hH0
  have hown : s.vm.findClass RL = some m.cls := hown
  have hS : va_S (AR (RW bx) s.heap.size) s.heap s.heap [] := va_S.rf
  have hl : lv_has ls 6 [(0, .ref bx), (1, .int (z2 (u))), (2, .int (z2 (v2))), (3, .int (z2 (u3))), (4, .ref (bx + 75))] := hl
  refine lv_aload hx hb dL_setQuiet_0 (lv_at hl 4 rfl) ?_
  refine b_iconst hx hb dL_setQuiet_2 ?_
  refine lv_aload_n hx hb dL_setQuiet_3 rfl (lv_at hl 0 rfl) ?_
  refine lv_iload_n hx hb dL_setQuiet_4 rfl (lv_at hl 1 rfl) ?_
  refine lv_iload_n hx hb dL_setQuiet_5 rfl (lv_at hl 2 rfl) ?_
  refine lv_iload_n hx hb dL_setQuiet_6 rfl (lv_at hl 3 rfl) ?_
  refine g_run (vx_runV (As := [.int (z2 (u)), .int (z2 (v2)), .int (z2 (u3))]) (rest := [.int (z2 (0)), .ref (bx + 75)]) ⟨hx, hb, hml, hown, hts⟩ (k_setQuiet l D ks bx ml X _ hP hV hst (u) (v2) (u3) hu hv2 hu3) (cwV 3 hts gL_setQuiet_X4_setQuiet rfl rfl rfl (by decide +kernel) ⟨Nat.le_of_ble_eq_true rfl, Nat.le_of_ble_eq_true rfl⟩) (g_preV (r := (RX4, TX4, 7)) hG hS rw_ge hP.1 rfl) rfl rfl hl.1 rfl (lv_room (Nat.le_of_ble_eq_true rfl)) dL_setQuiet_7 ⟨Nat.le_of_ble_eq_true rfl, Nat.le_of_ble_eq_true rfl⟩) hS (fun _ h => Or.inl h) ?_ ?_
  · intro E ce q9 H locs hp hz9 hk9 hS hce hcv hcl
    obtain ⟨t9, e9⟩ := hp
    have hP := hP.keep (fun q h1 _ => t9.2 q h1)
    have ho := ho.kept (t9.2 _ ho.lt)
    rcases e9 with ⟨rfl, c9⟩ | ⟨rfl, c9⟩
    · skip
      refine vx_catch hown [] ⟨0, 19, 22, 13⟩ [⟨0, 19, 26, 15⟩] (htb.trans rfl) (fun z hz => by cases hz) rfl (by decide) (name := "java/lang/IndexOutOfBoundsException") (hts (.classLink RL 13 "java/lang/IndexOutOfBoundsException") (by decide +kernel)) (va_Nw.use rfl (hG.2.1 _ (List.mem_of_getElem? (i := 28) rfl))) hce hcv hcl ?_
      refine lv_astore (lv' := [(5, .ref q9), (0, .ref bx), (1, .int (z2 (u))), (2, .int (z2 (v2))), (3, .int (z2 (u3))), (4, .ref (bx + 75))]) hx hb dL_setQuiet_22 hl (by decide) rfl (fun ls hl => ?_)
      refine b_iconst hx hb dL_setQuiet_24 ?_
      exact g_iret hx hb hr hlocks hS ⟨Nat.le_of_ble_eq_true rfl, Nat.le_of_ble_eq_true rfl⟩ (⟨1, 0, X, Or.inr (Or.inl (⟨c9, rfl, rfl⟩)), rfl, ⟨_, hP⟩, ⟨_, ho, fun q => absurd q (by decide)⟩⟩) dL_setQuiet_25
    · skip
      refine vx_catch hown [⟨0, 19, 22, 13⟩] ⟨0, 19, 26, 15⟩ [] (htb.trans rfl) (fun z hz => by (rcases List.mem_cons.mp hz with rfl | hz; exact Or.inr ⟨by decide, "java/lang/IndexOutOfBoundsException", hts (.classLink RL 13 "java/lang/IndexOutOfBoundsException") (by decide +kernel), hG.2.2.2.1 _ (List.mem_of_getElem? (i := 0) rfl)⟩; cases hz)) rfl (by decide) (name := "java/lang/IllegalArgumentException") (hts (.classLink RL 15 "java/lang/IllegalArgumentException") (by decide +kernel)) (va_Nw.use rfl (hG.2.1 _ (List.mem_of_getElem? (i := 29) rfl))) hce hcv hcl ?_
      refine lv_astore (lv' := [(5, .ref q9), (0, .ref bx), (1, .int (z2 (u))), (2, .int (z2 (v2))), (3, .int (z2 (u3))), (4, .ref (bx + 75))]) hx hb dL_setQuiet_26 hl (by decide) rfl (fun ls hl => ?_)
      refine b_iconst hx hb dL_setQuiet_28 ?_
      exact g_iret hx hb hr hlocks hS ⟨Nat.le_of_ble_eq_true rfl, Nat.le_of_ble_eq_true rfl⟩ (⟨2, 0, X, Or.inr (Or.inr (⟨c9, rfl, rfl⟩)), rfl, ⟨_, hP⟩, ⟨_, ho, fun q => absurd q (by decide)⟩⟩) dL_setQuiet_29
  · intro v H locs hp hz9 hk9 hS
    obtain ⟨n, hc9, rfl, hP9⟩ := hp
    have hP := hP9
    have ho := ho.kept (hk9 _ ho.lt (fun h => absurd h.2 (by omega)))
    obtain ⟨w9, ew9, r01⟩ : ∃ w9 : Int, w9 = (if 0 < qS (up (up X 15 n v2) 16 n u3) n ((up (up X 15 n v2) 16 n u3) 6 0) ((up (up X 15 n v2) 16 n u3) 6 0 + 1) then 1 else 0) ∧ (w9 = 0 ∨ w9 = 1) := ⟨_, rfl, by split <;> simp⟩
    rw [← ew9]
    refine W.eq (g2 := F0 m 10 ls [.int (z2 (w9)), .int (z2 (0)), .ref (bx + 75)]) rfl ?_
    refine b_if_eq (tgt := 17) hx hb dL_setQuiet_10 (by decide) ⟨by omega, by omega⟩ (fun c_b => ?_) (fun c_b => ?_)
    · skip
      refine lv_lconst (v := l2 0) hx hb dL_setQuiet_17 (by decide +kernel) ?_
      refine g_last (n := 1) hx hb hG hS ho (Or.inl (Or.inr rfl)) 0 ⟨rfl, by decide, by decide⟩ dL_setQuiet_18 (fun H locs he hz9 oq hS => ?_)
      have ho := he
      have hP := hP.keep (fun q _ h2 => oq q (by omega))
      refine lv_goto (tgt := 30) hx hb dL_setQuiet_19 (by decide) ?_
      refine b_iconst hx hb dL_setQuiet_30 ?_
      exact g_iret hx hb hr hlocks hS ⟨Nat.le_of_ble_eq_true rfl, Nat.le_of_ble_eq_true rfl⟩ (⟨0, if 0 < qS (up (up X 15 n v2) 16 n u3) n ((up (up X 15 n v2) 16 n u3) 6 0) ((up (up X 15 n v2) 16 n u3) 6 0 + 1) then 1 else 0, (up (up X 15 n v2) 16 n u3), Or.inl ⟨n, hc9, rfl, rfl, rfl⟩, rfl, ⟨_, hP⟩, ⟨_, ho, fun _ => congrArg l2 (show (0 : Int) = if 0 < qS (up (up X 15 n v2) 16 n u3) n ((up (up X 15 n v2) 16 n u3) 6 0) ((up (up X 15 n v2) 16 n u3) 6 0 + 1) then 1 else 0 by omega)⟩⟩) dL_setQuiet_31
    · skip
      refine lv_lconst (v := l2 1) hx hb dL_setQuiet_13 (by decide +kernel) ?_
      refine lv_goto (tgt := 18) hx hb dL_setQuiet_14 (by decide) ?_
      refine g_last (n := 1) hx hb hG hS ho (Or.inl (Or.inr rfl)) 0 ⟨rfl, by decide, by decide⟩ dL_setQuiet_18 (fun H locs he hz9 oq hS => ?_)
      have ho := he
      have hP := hP.keep (fun q _ h2 => oq q (by omega))
      refine lv_goto (tgt := 30) hx hb dL_setQuiet_19 (by decide) ?_
      refine b_iconst hx hb dL_setQuiet_30 ?_
      exact g_iret hx hb hr hlocks hS ⟨Nat.le_of_ble_eq_true rfl, Nat.le_of_ble_eq_true rfl⟩ (⟨0, if 0 < qS (up (up X 15 n v2) 16 n u3) n ((up (up X 15 n v2) 16 n u3) 6 0) ((up (up X 15 n v2) 16 n u3) 6 0 + 1) then 1 else 0, (up (up X 15 n v2) 16 n u3), Or.inl ⟨n, hc9, rfl, rfl, rfl⟩, rfl, ⟨_, hP⟩, ⟨_, ho, fun _ => congrArg l2 (show (1 : Int) = if 0 < qS (up (up X 15 n v2) 16 n u3) n ((up (up X 15 n v2) 16 n u3) 6 0) ((up (up X 15 n v2) 16 n u3) 6 0 + 1) then 1 else 0 by omega)⟩⟩) dL_setQuiet_31
set_option maxHeartbeats 4000000 in
set_option maxRecDepth 100000 in
theorem w_lay (l : Launch) (D : va_G) (ks : Nat → ClassId) (bx : Nat) (ml : Nat → Nat) (X : Nat → Nat → Int) (H : Heap) (hP : PX D ks bx ml X H) (hV : VX X) (hst : l.stackTraces = false) {fo : Nat → Int64} (ho : ca D (bx + 75) (jA (ks 1) 1 fo) H) (u v2 u3 u4 : Int) (hu : -2147483648 ≤ u ∧ u < 2147483648) (hv2 : -2147483648 ≤ v2 ∧ v2 < 2147483648) (hu3 : -2147483648 ≤ u3 ∧ u3 < 2147483648) (hu4 : -2147483648 ≤ u4 ∧ u4 < 2147483648) : KM l yL_lay wsL_lay ({ frames := 10, cells := 4, slots := 24, locals := 182 } : Room) D ks bx [.ref bx, .int (z2 (u)), .int (z2 (v2)), .int (z2 (u3)), .int (z2 (u4)), .ref (bx + 75)] H (RW bx) (fun v H1 => ∃ (z r : Int) (Y : Nat → Nat → Int), co_lay X u v2 u3 u4 z r Y ∧ v = some (.int (z2 z)) ∧ (∃ ml1 : Nat → Nat, PX D ks bx ml1 Y H1) ∧ ∃ f1 : Nat → Int64, ca D (bx + 75) (jA (ks 1) 1 f1) H1 ∧ (z = 0 → f1 0 = (z2 r).toInt64)) (fun _ _ => False) := by
  refine KM.ofH (cc := cL_lay) (maxL := 7) (ret := (some .int)) (hh := [(0, 14, 17, 13), (0, 14, 21, 15)]) (by decide) rfl (Nat.le_of_ble_eq_true rfl) ?_
  intro p e s m below meth c hx hb hml hr hlocks hown hts htb hH0 hG ls hl
  subst hH0
  have hown : s.vm.findClass RL = some m.cls := hown
  have hS : va_S (AR (RW bx) s.heap.size) s.heap s.heap [] := va_S.rf
  have hl : lv_has ls 7 [(0, .ref bx), (1, .int (z2 (u))), (2, .int (z2 (v2))), (3, .int (z2 (u3))), (4, .int (z2 (u4))), (5, .ref (bx + 75))] := hl
  refine lv_aload hx hb dL_lay_0 (lv_at hl 5 rfl) ?_
  refine b_iconst hx hb dL_lay_2 ?_
  refine lv_aload_n hx hb dL_lay_3 rfl (lv_at hl 0 rfl) ?_
  refine lv_iload_n hx hb dL_lay_4 rfl (lv_at hl 1 rfl) ?_
  refine lv_iload_n hx hb dL_lay_5 rfl (lv_at hl 2 rfl) ?_
  refine lv_iload_n hx hb dL_lay_6 rfl (lv_at hl 3 rfl) ?_
  refine lv_iload hx hb dL_lay_7 (lv_at hl 4 rfl) ?_
  refine g_run (vx_runV (As := [.int (z2 (u)), .int (z2 (v2)), .int (z2 (u3)), .int (z2 (u4))]) (rest := [.int (z2 (0)), .ref (bx + 75)]) ⟨hx, hb, hml, hown, hts⟩ (k_lay l D ks bx ml X _ hP hV hst (u) (v2) (u3) (u4) hu hv2 hu3 hu4) (cwV 4 hts gL_lay_X4_lay rfl rfl rfl (by decide +kernel) ⟨Nat.le_of_ble_eq_true rfl, Nat.le_of_ble_eq_true rfl⟩) (g_preV (r := (RX4, TX4, 7)) hG hS rw_ge hP.1 rfl) rfl rfl hl.1 rfl (lv_room (Nat.le_of_ble_eq_true rfl)) dL_lay_9 ⟨Nat.le_of_ble_eq_true rfl, Nat.le_of_ble_eq_true rfl⟩) hS (fun _ h => Or.inl h) ?_ ?_
  · intro E ce q9 H locs hp hz9 hk9 hS hce hcv hcl
    obtain ⟨t9, e9⟩ := hp
    have hP := hP.keep (fun q h1 _ => t9.2 q h1)
    have ho := ho.kept (t9.2 _ ho.lt)
    rcases e9 with ⟨rfl, c9⟩ | ⟨rfl, c9⟩
    · skip
      refine vx_catch hown [] ⟨0, 14, 17, 13⟩ [⟨0, 14, 21, 15⟩] (htb.trans rfl) (fun z hz => by cases hz) rfl (by decide) (name := "java/lang/IndexOutOfBoundsException") (hts (.classLink RL 13 "java/lang/IndexOutOfBoundsException") (by decide +kernel)) (va_Nw.use rfl (hG.2.1 _ (List.mem_of_getElem? (i := 28) rfl))) hce hcv hcl ?_
      refine lv_astore (lv' := [(6, .ref q9), (0, .ref bx), (1, .int (z2 (u))), (2, .int (z2 (v2))), (3, .int (z2 (u3))), (4, .int (z2 (u4))), (5, .ref (bx + 75))]) hx hb dL_lay_17 hl (by decide) rfl (fun ls hl => ?_)
      refine b_iconst hx hb dL_lay_19 ?_
      exact g_iret hx hb hr hlocks hS ⟨Nat.le_of_ble_eq_true rfl, Nat.le_of_ble_eq_true rfl⟩ (⟨1, 0, X, Or.inr (Or.inl (⟨c9, rfl, rfl⟩)), rfl, ⟨_, hP⟩, ⟨_, ho, fun q => absurd q (by decide)⟩⟩) dL_lay_20
    · skip
      refine vx_catch hown [⟨0, 14, 17, 13⟩] ⟨0, 14, 21, 15⟩ [] (htb.trans rfl) (fun z hz => by (rcases List.mem_cons.mp hz with rfl | hz; exact Or.inr ⟨by decide, "java/lang/IndexOutOfBoundsException", hts (.classLink RL 13 "java/lang/IndexOutOfBoundsException") (by decide +kernel), hG.2.2.2.1 _ (List.mem_of_getElem? (i := 0) rfl)⟩; cases hz)) rfl (by decide) (name := "java/lang/IllegalArgumentException") (hts (.classLink RL 15 "java/lang/IllegalArgumentException") (by decide +kernel)) (va_Nw.use rfl (hG.2.1 _ (List.mem_of_getElem? (i := 29) rfl))) hce hcv hcl ?_
      refine lv_astore (lv' := [(6, .ref q9), (0, .ref bx), (1, .int (z2 (u))), (2, .int (z2 (v2))), (3, .int (z2 (u3))), (4, .int (z2 (u4))), (5, .ref (bx + 75))]) hx hb dL_lay_21 hl (by decide) rfl (fun ls hl => ?_)
      refine b_iconst hx hb dL_lay_23 ?_
      exact g_iret hx hb hr hlocks hS ⟨Nat.le_of_ble_eq_true rfl, Nat.le_of_ble_eq_true rfl⟩ (⟨2, 0, X, Or.inr (Or.inr (⟨c9, rfl, rfl⟩)), rfl, ⟨_, hP⟩, ⟨_, ho, fun q => absurd q (by decide)⟩⟩) dL_lay_24
  · intro v H locs hp hz9 hk9 hS
    obtain ⟨n, b, hc9, rfl, hP9⟩ := hp
    have hP := hP9
    have ho := ho.kept (hk9 _ ho.lt (fun h => absurd h.2 (by omega)))
    refine W.eq (g2 := F0 m 12 ls [.int (z2 (X 30 (3 * n + b))), .int (z2 (0)), .ref (bx + 75)]) rfl ?_
    refine lv_i2l (v := (z2 (X 30 (3 * n + b))).toInt64) hx hb dL_lay_12 rfl ?_
    refine g_last (n := 1) hx hb hG hS ho (Or.inl (Or.inr rfl)) 0 ⟨rfl, by decide, by decide⟩ dL_lay_13 (fun H locs he hz9 oq hS => ?_)
    have ho := he
    have hP := hP.keep (fun q _ h2 => oq q (by omega))
    refine lv_goto (tgt := 25) hx hb dL_lay_14 (by decide) ?_
    refine b_iconst hx hb dL_lay_25 ?_
    exact g_iret hx hb hr hlocks hS ⟨Nat.le_of_ble_eq_true rfl, Nat.le_of_ble_eq_true rfl⟩ (⟨0, X 30 (3 * n + b), (up (up (up X 30 (3 * n + b) u3) 31 (3 * n + b) u4) 32 (3 * n + b) 0), Or.inl ⟨n, b, hc9, rfl, rfl, rfl⟩, rfl, ⟨_, hP⟩, ⟨_, ho, fun _ => rfl⟩⟩) dL_lay_26
set_option maxHeartbeats 4000000 in
set_option maxRecDepth 100000 in
theorem w_press (l : Launch) (D : va_G) (ks : Nat → ClassId) (bx : Nat) (ml : Nat → Nat) (X : Nat → Nat → Int) (H : Heap) (hP : PX D ks bx ml X H) (hV : VX X) (hst : l.stackTraces = false) {fo : Nat → Int64} (ho : ca D (bx + 75) (jA (ks 1) 1 fo) H) (u v2 : Int) (hu : -2147483648 ≤ u ∧ u < 2147483648) (hv2 : -2147483648 ≤ v2 ∧ v2 < 2147483648) : KM l yL_press wsL_press ({ frames := 10, cells := 4, slots := 24, locals := 180 } : Room) D ks bx [.ref bx, .int (z2 (u)), .int (z2 (v2)), .ref (bx + 75)] H (RW bx) (fun v H1 => ∃ (z r : Int) (Y : Nat → Nat → Int), co_press X u v2 z r Y ∧ v = some (.int (z2 z)) ∧ (∃ ml1 : Nat → Nat, PX D ks bx ml1 Y H1) ∧ ∃ f1 : Nat → Int64, ca D (bx + 75) (jA (ks 1) 1 f1) H1 ∧ (z = 0 → f1 0 = (z2 r).toInt64)) (fun _ _ => False) := by
  refine KM.ofH (cc := cL_press) (maxL := 5) (ret := (some .int)) (hh := [(0, 10, 13, 13), (0, 10, 17, 17)]) (by decide) rfl (Nat.le_of_ble_eq_true rfl) ?_
  intro p e s m below meth c hx hb hml hr hlocks hown hts htb hH0 hG ls hl
  subst hH0
  have hown : s.vm.findClass RL = some m.cls := hown
  have hS : va_S (AR (RW bx) s.heap.size) s.heap s.heap [] := va_S.rf
  have hl : lv_has ls 5 [(0, .ref bx), (1, .int (z2 (u))), (2, .int (z2 (v2))), (3, .ref (bx + 75))] := hl
  refine lv_aload_n hx hb dL_press_0 rfl (lv_at hl 3 rfl) ?_
  refine b_iconst hx hb dL_press_1 ?_
  refine lv_aload_n hx hb dL_press_2 rfl (lv_at hl 0 rfl) ?_
  refine lv_iload_n hx hb dL_press_3 rfl (lv_at hl 1 rfl) ?_
  refine lv_iload_n hx hb dL_press_4 rfl (lv_at hl 2 rfl) ?_
  refine g_run (vx_runV (As := [.int (z2 (u)), .int (z2 (v2))]) (rest := [.int (z2 (0)), .ref (bx + 75)]) ⟨hx, hb, hml, hown, hts⟩ (k_press l D ks bx ml X _ hP hV hst (u) (v2) hu hv2) (cwV 2 hts gL_press_X4_press rfl rfl rfl (by decide +kernel) ⟨Nat.le_of_ble_eq_true rfl, Nat.le_of_ble_eq_true rfl⟩) (g_preV (r := (RX4, TX4, 7)) hG hS rw_ge hP.1 rfl) rfl rfl hl.1 rfl (lv_room (Nat.le_of_ble_eq_true rfl)) dL_press_5 ⟨Nat.le_of_ble_eq_true rfl, Nat.le_of_ble_eq_true rfl⟩) hS (fun _ h => Or.inl h) ?_ ?_
  · intro E ce q9 H locs hp hz9 hk9 hS hce hcv hcl
    obtain ⟨t9, e9⟩ := hp
    have hP := hP.keep (fun q h1 _ => t9.2 q h1)
    have ho := ho.kept (t9.2 _ ho.lt)
    rcases e9 with ⟨rfl, c9⟩ | ⟨rfl, c9⟩
    · skip
      refine vx_catch hown [] ⟨0, 10, 13, 13⟩ [⟨0, 10, 17, 17⟩] (htb.trans rfl) (fun z hz => by cases hz) rfl (by decide) (name := "java/lang/IndexOutOfBoundsException") (hts (.classLink RL 13 "java/lang/IndexOutOfBoundsException") (by decide +kernel)) (va_Nw.use rfl (hG.2.1 _ (List.mem_of_getElem? (i := 28) rfl))) hce hcv hcl ?_
      refine lv_astore (lv' := [(4, .ref q9), (0, .ref bx), (1, .int (z2 (u))), (2, .int (z2 (v2))), (3, .ref (bx + 75))]) hx hb dL_press_13 hl (by decide) rfl (fun ls hl => ?_)
      refine b_iconst hx hb dL_press_15 ?_
      exact g_iret hx hb hr hlocks hS ⟨Nat.le_of_ble_eq_true rfl, Nat.le_of_ble_eq_true rfl⟩ (⟨1, 0, X, Or.inr (Or.inl (⟨c9, rfl, rfl⟩)), rfl, ⟨_, hP⟩, ⟨_, ho, fun q => absurd q (by decide)⟩⟩) dL_press_16
    · skip
      refine vx_catch hown [⟨0, 10, 13, 13⟩] ⟨0, 10, 17, 17⟩ [] (htb.trans rfl) (fun z hz => by (rcases List.mem_cons.mp hz with rfl | hz; exact Or.inr ⟨by decide, "java/lang/IndexOutOfBoundsException", hts (.classLink RL 13 "java/lang/IndexOutOfBoundsException") (by decide +kernel), hG.2.2.2.1 _ (List.mem_of_getElem? (i := 1) rfl)⟩; cases hz)) rfl (by decide) (name := "java/lang/IllegalStateException") (hts (.classLink RL 17 "java/lang/IllegalStateException") (by decide +kernel)) (va_Nw.use rfl (hG.2.1 _ (List.mem_of_getElem? (i := 30) rfl))) hce hcv hcl ?_
      refine lv_astore (lv' := [(4, .ref q9), (0, .ref bx), (1, .int (z2 (u))), (2, .int (z2 (v2))), (3, .ref (bx + 75))]) hx hb dL_press_17 hl (by decide) rfl (fun ls hl => ?_)
      refine b_iconst hx hb dL_press_19 ?_
      exact g_iret hx hb hr hlocks hS ⟨Nat.le_of_ble_eq_true rfl, Nat.le_of_ble_eq_true rfl⟩ (⟨2, 0, X, Or.inr (Or.inr (⟨c9, rfl, rfl⟩)), rfl, ⟨_, hP⟩, ⟨_, ho, fun q => absurd q (by decide)⟩⟩) dL_press_20
  · intro v H locs hp hz9 hk9 hS
    obtain ⟨n, b, k, hc9, rfl, hP9⟩ := hp
    have hP := hP9
    have ho := ho.kept (hk9 _ ho.lt (fun h => absurd h.2 (by omega)))
    refine W.eq (g2 := F0 m 8 ls [.int (z2 (prV X n b k)), .int (z2 (0)), .ref (bx + 75)]) rfl ?_
    refine lv_i2l (v := (z2 (prV X n b k)).toInt64) hx hb dL_press_8 rfl ?_
    refine g_last (n := 1) hx hb hG hS ho (Or.inl (Or.inr rfl)) 0 ⟨rfl, by decide, by decide⟩ dL_press_9 (fun H locs he hz9 oq hS => ?_)
    have ho := he
    have hP := hP.keep (fun q _ h2 => oq q (by omega))
    refine lv_goto (tgt := 21) hx hb dL_press_10 (by decide) ?_
    refine b_iconst hx hb dL_press_21 ?_
    exact g_iret hx hb hr hlocks hS ⟨Nat.le_of_ble_eq_true rfl, Nat.le_of_ble_eq_true rfl⟩ (⟨0, prV X n b k, (prX X n b k), Or.inl ⟨n, b, k, hc9, rfl, rfl, rfl⟩, rfl, ⟨_, hP⟩, ⟨_, ho, fun _ => rfl⟩⟩) dL_press_22
set_option maxHeartbeats 4000000 in
set_option maxRecDepth 100000 in
theorem w_fault (l : Launch) (D : va_G) (ks : Nat → ClassId) (bx : Nat) (ml : Nat → Nat) (X : Nat → Nat → Int) (H : Heap) (hP : PX D ks bx ml X H) (hV : VX X) (hst : l.stackTraces = false) {fo : Nat → Int64} (ho : ca D (bx + 75) (jA (ks 1) 1 fo) H) (u : Int) (hu : -2147483648 ≤ u ∧ u < 2147483648) : KM l yL_fault wsL_fault ({ frames := 9, cells := 3, slots := 18, locals := 159 } : Room) D ks bx [.ref bx, .int (z2 (u)), .ref (bx + 75)] H (RW bx) (fun v H1 => ∃ (z r : Int) (Y : Nat → Nat → Int), co_fault X u z r Y ∧ v = some (.int (z2 z)) ∧ (∃ ml1 : Nat → Nat, PX D ks bx ml1 Y H1) ∧ ∃ f1 : Nat → Int64, ca D (bx + 75) (jA (ks 1) 1 f1) H1 ∧ (z = 0 → f1 0 = (z2 r).toInt64)) (fun _ _ => False) := by
  refine KM.ofH (cc := cL_fault) (maxL := 4) (ret := (some .int)) (hh := [(0, 9, 12, 13), (0, 9, 15, 17)]) (by decide) rfl (Nat.le_of_ble_eq_true rfl) ?_
  intro p e s m below meth c hx hb hml hr hlocks hown hts htb hH0 hG ls hl
  subst hH0
  have hown : s.vm.findClass RL = some m.cls := hown
  have hS : va_S (AR (RW bx) s.heap.size) s.heap s.heap [] := va_S.rf
  have hl : lv_has ls 4 [(0, .ref bx), (1, .int (z2 (u))), (2, .ref (bx + 75))] := hl
  refine lv_aload_n hx hb dL_fault_0 rfl (lv_at hl 2 rfl) ?_
  refine b_iconst hx hb dL_fault_1 ?_
  refine lv_aload_n hx hb dL_fault_2 rfl (lv_at hl 0 rfl) ?_
  refine lv_iload_n hx hb dL_fault_3 rfl (lv_at hl 1 rfl) ?_
  refine g_run (vx_runV (As := [.int (z2 (u))]) (rest := [.int (z2 (0)), .ref (bx + 75)]) ⟨hx, hb, hml, hown, hts⟩ (k_fault l D ks bx ml X _ hP hV hst (u) hu) (cwV 1 hts gL_fault_X4_fault rfl rfl rfl (by decide +kernel) ⟨Nat.le_of_ble_eq_true rfl, Nat.le_of_ble_eq_true rfl⟩) (g_preV (r := (RX4, TX4, 7)) hG hS rw_ge hP.1 rfl) rfl rfl hl.1 rfl (lv_room (Nat.le_of_ble_eq_true rfl)) dL_fault_4 ⟨Nat.le_of_ble_eq_true rfl, Nat.le_of_ble_eq_true rfl⟩) hS (fun _ h => Or.inl h) ?_ ?_
  · intro E ce q9 H locs hp hz9 hk9 hS hce hcv hcl
    obtain ⟨t9, e9⟩ := hp
    have hP := hP.keep (fun q h1 _ => t9.2 q h1)
    have ho := ho.kept (t9.2 _ ho.lt)
    rcases e9 with ⟨rfl, c9⟩ | ⟨rfl, c9⟩
    · skip
      refine vx_catch hown [] ⟨0, 9, 12, 13⟩ [⟨0, 9, 15, 17⟩] (htb.trans rfl) (fun z hz => by cases hz) rfl (by decide) (name := "java/lang/IndexOutOfBoundsException") (hts (.classLink RL 13 "java/lang/IndexOutOfBoundsException") (by decide +kernel)) (va_Nw.use rfl (hG.2.1 _ (List.mem_of_getElem? (i := 28) rfl))) hce hcv hcl ?_
      refine lv_astore_n (lv' := [(3, .ref q9), (0, .ref bx), (1, .int (z2 (u))), (2, .ref (bx + 75))]) hx hb dL_fault_12 rfl hl (by decide) rfl (fun ls hl => ?_)
      refine b_iconst hx hb dL_fault_13 ?_
      exact g_iret hx hb hr hlocks hS ⟨Nat.le_of_ble_eq_true rfl, Nat.le_of_ble_eq_true rfl⟩ (⟨1, 0, X, Or.inr (Or.inl (⟨c9, rfl, rfl⟩)), rfl, ⟨_, hP⟩, ⟨_, ho, fun q => absurd q (by decide)⟩⟩) dL_fault_14
    · skip
      refine vx_catch hown [⟨0, 9, 12, 13⟩] ⟨0, 9, 15, 17⟩ [] (htb.trans rfl) (fun z hz => by (rcases List.mem_cons.mp hz with rfl | hz; exact Or.inr ⟨by decide, "java/lang/IndexOutOfBoundsException", hts (.classLink RL 13 "java/lang/IndexOutOfBoundsException") (by decide +kernel), hG.2.2.2.1 _ (List.mem_of_getElem? (i := 1) rfl)⟩; cases hz)) rfl (by decide) (name := "java/lang/IllegalStateException") (hts (.classLink RL 17 "java/lang/IllegalStateException") (by decide +kernel)) (va_Nw.use rfl (hG.2.1 _ (List.mem_of_getElem? (i := 30) rfl))) hce hcv hcl ?_
      refine lv_astore_n (lv' := [(3, .ref q9), (0, .ref bx), (1, .int (z2 (u))), (2, .ref (bx + 75))]) hx hb dL_fault_15 rfl hl (by decide) rfl (fun ls hl => ?_)
      refine b_iconst hx hb dL_fault_16 ?_
      exact g_iret hx hb hr hlocks hS ⟨Nat.le_of_ble_eq_true rfl, Nat.le_of_ble_eq_true rfl⟩ (⟨2, 0, X, Or.inr (Or.inr (⟨c9, rfl, rfl⟩)), rfl, ⟨_, hP⟩, ⟨_, ho, fun q => absurd q (by decide)⟩⟩) dL_fault_17
  · intro v H locs hp hz9 hk9 hS
    obtain ⟨n, hc9, rfl, hP9⟩ := hp
    have hP := hP9
    have ho := ho.kept (hk9 _ ho.lt (fun h => absurd h.2 (by omega)))
    refine W.eq (g2 := F0 m 7 ls [.int (z2 (faN X n 8)), .int (z2 (0)), .ref (bx + 75)]) rfl ?_
    refine lv_i2l (v := (z2 (faN X n 8)).toInt64) hx hb dL_fault_7 rfl ?_
    refine g_last (n := 1) hx hb hG hS ho (Or.inl (Or.inr rfl)) 0 ⟨rfl, by decide, by decide⟩ dL_fault_8 (fun H locs he hz9 oq hS => ?_)
    have ho := he
    have hP := hP.keep (fun q _ h2 => oq q (by omega))
    refine lv_goto (tgt := 18) hx hb dL_fault_9 (by decide) ?_
    refine b_iconst hx hb dL_fault_18 ?_
    exact g_iret hx hb hr hlocks hS ⟨Nat.le_of_ble_eq_true rfl, Nat.le_of_ble_eq_true rfl⟩ (⟨0, faN X n 8, (faR X n u), Or.inl ⟨n, hc9, rfl, rfl, rfl⟩, rfl, ⟨_, hP⟩, ⟨_, ho, fun _ => rfl⟩⟩) dL_fault_19
set_option maxHeartbeats 4000000 in
set_option maxRecDepth 100000 in
theorem w_repair (l : Launch) (D : va_G) (ks : Nat → ClassId) (bx : Nat) (ml : Nat → Nat) (X : Nat → Nat → Int) (H : Heap) (hP : PX D ks bx ml X H) (hV : VX X) (hst : l.stackTraces = false) {fo : Nat → Int64} (ho : ca D (bx + 75) (jA (ks 1) 1 fo) H) (u : Int) (hu : -2147483648 ≤ u ∧ u < 2147483648) : KM l yL_repair wsL_repair ({ frames := 9, cells := 3, slots := 18, locals := 155 } : Room) D ks bx [.ref bx, .int (z2 (u)), .ref (bx + 75)] H (RW bx) (fun v H1 => ∃ (z r : Int) (Y : Nat → Nat → Int), co_repair X u z r Y ∧ v = some (.int (z2 z)) ∧ (∃ ml1 : Nat → Nat, PX D ks bx ml1 Y H1) ∧ ∃ f1 : Nat → Int64, ca D (bx + 75) (jA (ks 1) 1 f1) H1 ∧ (z = 0 → f1 0 = (z2 r).toInt64)) (fun _ _ => False) := by
  refine KM.ofH (cc := cL_repair) (maxL := 4) (ret := (some .int)) (hh := [(0, 9, 12, 13), (0, 9, 15, 17)]) (by decide) rfl (Nat.le_of_ble_eq_true rfl) ?_
  intro p e s m below meth c hx hb hml hr hlocks hown hts htb hH0 hG ls hl
  subst hH0
  have hown : s.vm.findClass RL = some m.cls := hown
  have hS : va_S (AR (RW bx) s.heap.size) s.heap s.heap [] := va_S.rf
  have hl : lv_has ls 4 [(0, .ref bx), (1, .int (z2 (u))), (2, .ref (bx + 75))] := hl
  refine lv_aload_n hx hb dL_repair_0 rfl (lv_at hl 2 rfl) ?_
  refine b_iconst hx hb dL_repair_1 ?_
  refine lv_aload_n hx hb dL_repair_2 rfl (lv_at hl 0 rfl) ?_
  refine lv_iload_n hx hb dL_repair_3 rfl (lv_at hl 1 rfl) ?_
  refine g_run (vx_runV (As := [.int (z2 (u))]) (rest := [.int (z2 (0)), .ref (bx + 75)]) ⟨hx, hb, hml, hown, hts⟩ (k_repair l D ks bx ml X _ hP hV hst (u) hu) (cwV 1 hts gL_repair_X4_repair rfl rfl rfl (by decide +kernel) ⟨Nat.le_of_ble_eq_true rfl, Nat.le_of_ble_eq_true rfl⟩) (g_preV (r := (RX4, TX4, 7)) hG hS rw_ge hP.1 rfl) rfl rfl hl.1 rfl (lv_room (Nat.le_of_ble_eq_true rfl)) dL_repair_4 ⟨Nat.le_of_ble_eq_true rfl, Nat.le_of_ble_eq_true rfl⟩) hS (fun _ h => Or.inl h) ?_ ?_
  · intro E ce q9 H locs hp hz9 hk9 hS hce hcv hcl
    obtain ⟨t9, e9⟩ := hp
    have hP := hP.keep (fun q h1 _ => t9.2 q h1)
    have ho := ho.kept (t9.2 _ ho.lt)
    rcases e9 with ⟨rfl, c9⟩ | ⟨rfl, c9⟩
    · skip
      refine vx_catch hown [] ⟨0, 9, 12, 13⟩ [⟨0, 9, 15, 17⟩] (htb.trans rfl) (fun z hz => by cases hz) rfl (by decide) (name := "java/lang/IndexOutOfBoundsException") (hts (.classLink RL 13 "java/lang/IndexOutOfBoundsException") (by decide +kernel)) (va_Nw.use rfl (hG.2.1 _ (List.mem_of_getElem? (i := 28) rfl))) hce hcv hcl ?_
      refine lv_astore_n (lv' := [(3, .ref q9), (0, .ref bx), (1, .int (z2 (u))), (2, .ref (bx + 75))]) hx hb dL_repair_12 rfl hl (by decide) rfl (fun ls hl => ?_)
      refine b_iconst hx hb dL_repair_13 ?_
      exact g_iret hx hb hr hlocks hS ⟨Nat.le_of_ble_eq_true rfl, Nat.le_of_ble_eq_true rfl⟩ (⟨1, 0, X, Or.inr (Or.inl (⟨c9, rfl, rfl⟩)), rfl, ⟨_, hP⟩, ⟨_, ho, fun q => absurd q (by decide)⟩⟩) dL_repair_14
    · skip
      refine vx_catch hown [⟨0, 9, 12, 13⟩] ⟨0, 9, 15, 17⟩ [] (htb.trans rfl) (fun z hz => by (rcases List.mem_cons.mp hz with rfl | hz; exact Or.inr ⟨by decide, "java/lang/IndexOutOfBoundsException", hts (.classLink RL 13 "java/lang/IndexOutOfBoundsException") (by decide +kernel), hG.2.2.2.1 _ (List.mem_of_getElem? (i := 1) rfl)⟩; cases hz)) rfl (by decide) (name := "java/lang/IllegalStateException") (hts (.classLink RL 17 "java/lang/IllegalStateException") (by decide +kernel)) (va_Nw.use rfl (hG.2.1 _ (List.mem_of_getElem? (i := 30) rfl))) hce hcv hcl ?_
      refine lv_astore_n (lv' := [(3, .ref q9), (0, .ref bx), (1, .int (z2 (u))), (2, .ref (bx + 75))]) hx hb dL_repair_15 rfl hl (by decide) rfl (fun ls hl => ?_)
      refine b_iconst hx hb dL_repair_16 ?_
      exact g_iret hx hb hr hlocks hS ⟨Nat.le_of_ble_eq_true rfl, Nat.le_of_ble_eq_true rfl⟩ (⟨2, 0, X, Or.inr (Or.inr (⟨c9, rfl, rfl⟩)), rfl, ⟨_, hP⟩, ⟨_, ho, fun q => absurd q (by decide)⟩⟩) dL_repair_17
  · intro v H locs hp hz9 hk9 hS
    obtain ⟨n, hc9, rfl, hP9⟩ := hp
    have hP := hP9
    have ho := ho.kept (hk9 _ ho.lt (fun h => absurd h.2 (by omega)))
    refine W.eq (g2 := F0 m 7 ls [.int (z2 (X 6 0 + 50)), .int (z2 (0)), .ref (bx + 75)]) rfl ?_
    refine lv_i2l (v := (z2 (X 6 0 + 50)).toInt64) hx hb dL_repair_7 rfl ?_
    refine g_last (n := 1) hx hb hG hS ho (Or.inl (Or.inr rfl)) 0 ⟨rfl, by decide, by decide⟩ dL_repair_8 (fun H locs he hz9 oq hS => ?_)
    have ho := he
    have hP := hP.keep (fun q _ h2 => oq q (by omega))
    refine lv_goto (tgt := 18) hx hb dL_repair_9 (by decide) ?_
    refine b_iconst hx hb dL_repair_18 ?_
    exact g_iret hx hb hr hlocks hS ⟨Nat.le_of_ble_eq_true rfl, Nat.le_of_ble_eq_true rfl⟩ (⟨0, X 6 0 + 50, (up (up X 34 (n / 4) n) 35 (n / 4) (X 6 0 + 50)), Or.inl ⟨n, hc9, rfl, rfl, rfl⟩, rfl, ⟨_, hP⟩, ⟨_, ho, fun _ => rfl⟩⟩) dL_repair_19
set_option maxHeartbeats 4000000 in
set_option maxRecDepth 100000 in
theorem w_pass (l : Launch) (D : va_G) (ks : Nat → ClassId) (bx : Nat) (ml : Nat → Nat) (X : Nat → Nat → Int) (H : Heap) (hP : PX D ks bx ml X H) (hV : VX X) (hst : l.stackTraces = false) {fo : Nat → Int64} (ho : ca D (bx + 75) (jA (ks 1) 1 fo) H) (u : Int) (hu : -2147483648 ≤ u ∧ u < 2147483648) : KM l yL_pass wsL_pass ({ frames := 7, cells := 2, slots := 12, locals := 142 } : Room) D ks bx [.ref bx, .int (z2 (u)), .ref (bx + 75)] H (RW bx) (fun v H1 => ∃ (z r : Int) (Y : Nat → Nat → Int), co_pass X u z r Y ∧ v = some (.int (z2 z)) ∧ (∃ ml1 : Nat → Nat, PX D ks bx ml1 Y H1) ∧ ∃ f1 : Nat → Int64, ca D (bx + 75) (jA (ks 1) 1 f1) H1 ∧ (z = 0 → f1 0 = (z2 r).toInt64)) (fun _ _ => False) := by
  refine KM.ofH (cc := cL_pass) (maxL := 4) (ret := (some .int)) (hh := [(0, 9, 12, 15), (0, 9, 15, 17)]) (by decide) rfl (Nat.le_of_ble_eq_true rfl) ?_
  intro p e s m below meth c hx hb hml hr hlocks hown hts htb hH0 hG ls hl
  subst hH0
  have hown : s.vm.findClass RL = some m.cls := hown
  have hS : va_S (AR (RW bx) s.heap.size) s.heap s.heap [] := va_S.rf
  have hl : lv_has ls 4 [(0, .ref bx), (1, .int (z2 (u))), (2, .ref (bx + 75))] := hl
  refine lv_aload_n hx hb dL_pass_0 rfl (lv_at hl 2 rfl) ?_
  refine b_iconst hx hb dL_pass_1 ?_
  refine lv_aload_n hx hb dL_pass_2 rfl (lv_at hl 0 rfl) ?_
  refine lv_iload_n hx hb dL_pass_3 rfl (lv_at hl 1 rfl) ?_
  refine g_run (vx_runV (As := [.int (z2 (u))]) (rest := [.int (z2 (0)), .ref (bx + 75)]) ⟨hx, hb, hml, hown, hts⟩ (k_pass l D ks bx ml X _ hP hV hst (u) hu) (cwV 1 hts gL_pass_X4_pass rfl rfl rfl (by decide +kernel) ⟨Nat.le_of_ble_eq_true rfl, Nat.le_of_ble_eq_true rfl⟩) (g_preV (r := (RX4, TX4, 7)) hG hS rw_ge hP.1 rfl) rfl rfl hl.1 rfl (lv_room (Nat.le_of_ble_eq_true rfl)) dL_pass_4 ⟨Nat.le_of_ble_eq_true rfl, Nat.le_of_ble_eq_true rfl⟩) hS (fun _ h => Or.inl h) ?_ ?_
  · intro E ce q9 H locs hp hz9 hk9 hS hce hcv hcl
    obtain ⟨t9, e9⟩ := hp
    have hP := hP.keep (fun q h1 _ => t9.2 q h1)
    have ho := ho.kept (t9.2 _ ho.lt)
    rcases e9 with ⟨rfl, c9⟩ | ⟨rfl, c9⟩
    · skip
      refine vx_catch hown [] ⟨0, 9, 12, 15⟩ [⟨0, 9, 15, 17⟩] (htb.trans rfl) (fun z hz => by cases hz) rfl (by decide) (name := "java/lang/IllegalArgumentException") (hts (.classLink RL 15 "java/lang/IllegalArgumentException") (by decide +kernel)) (va_Nw.use rfl (hG.2.1 _ (List.mem_of_getElem? (i := 29) rfl))) hce hcv hcl ?_
      refine lv_astore_n (lv' := [(3, .ref q9), (0, .ref bx), (1, .int (z2 (u))), (2, .ref (bx + 75))]) hx hb dL_pass_12 rfl hl (by decide) rfl (fun ls hl => ?_)
      refine b_iconst hx hb dL_pass_13 ?_
      exact g_iret hx hb hr hlocks hS ⟨Nat.le_of_ble_eq_true rfl, Nat.le_of_ble_eq_true rfl⟩ (⟨1, 0, X, Or.inr (Or.inl (⟨c9, rfl, rfl⟩)), rfl, ⟨_, hP⟩, ⟨_, ho, fun q => absurd q (by decide)⟩⟩) dL_pass_14
    · skip
      refine vx_catch hown [⟨0, 9, 12, 15⟩] ⟨0, 9, 15, 17⟩ [] (htb.trans rfl) (fun z hz => by (rcases List.mem_cons.mp hz with rfl | hz; exact Or.inr ⟨by decide, "java/lang/IllegalArgumentException", hts (.classLink RL 15 "java/lang/IllegalArgumentException") (by decide +kernel), hG.2.2.2.1 _ (List.mem_of_getElem? (i := 2) rfl)⟩; cases hz)) rfl (by decide) (name := "java/lang/IllegalStateException") (hts (.classLink RL 17 "java/lang/IllegalStateException") (by decide +kernel)) (va_Nw.use rfl (hG.2.1 _ (List.mem_of_getElem? (i := 30) rfl))) hce hcv hcl ?_
      refine lv_astore_n (lv' := [(3, .ref q9), (0, .ref bx), (1, .int (z2 (u))), (2, .ref (bx + 75))]) hx hb dL_pass_15 rfl hl (by decide) rfl (fun ls hl => ?_)
      refine b_iconst hx hb dL_pass_16 ?_
      exact g_iret hx hb hr hlocks hS ⟨Nat.le_of_ble_eq_true rfl, Nat.le_of_ble_eq_true rfl⟩ (⟨2, 0, X, Or.inr (Or.inr (⟨c9, rfl, rfl⟩)), rfl, ⟨_, hP⟩, ⟨_, ho, fun q => absurd q (by decide)⟩⟩) dL_pass_17
  · intro v H locs hp hz9 hk9 hS
    obtain ⟨j, hc9, rfl, hP9⟩ := hp
    have hP := hP9
    have ho := ho.kept (hk9 _ ho.lt (fun h => absurd h.2 (by omega)))
    refine W.eq (g2 := F0 m 7 ls [.int (z2 (paX X (X 6 0 + u) j 6 0)), .int (z2 (0)), .ref (bx + 75)]) rfl ?_
    refine lv_i2l (v := (z2 (paX X (X 6 0 + u) j 6 0)).toInt64) hx hb dL_pass_7 rfl ?_
    refine g_last (n := 1) hx hb hG hS ho (Or.inl (Or.inr rfl)) 0 ⟨rfl, by decide, by decide⟩ dL_pass_8 (fun H locs he hz9 oq hS => ?_)
    have ho := he
    have hP := hP.keep (fun q _ h2 => oq q (by omega))
    refine lv_goto (tgt := 18) hx hb dL_pass_9 (by decide) ?_
    refine b_iconst hx hb dL_pass_18 ?_
    exact g_iret hx hb hr hlocks hS ⟨Nat.le_of_ble_eq_true rfl, Nat.le_of_ble_eq_true rfl⟩ (⟨0, paX X (X 6 0 + u) j 6 0, (paX X (X 6 0 + u) j), Or.inl ⟨j, hc9, rfl, rfl, rfl⟩, rfl, ⟨_, hP⟩, ⟨_, ho, fun _ => rfl⟩⟩) dL_pass_19
set_option maxHeartbeats 4000000 in
set_option maxRecDepth 100000 in
theorem w_ringing (l : Launch) (D : va_G) (ks : Nat → ClassId) (bx : Nat) (ml : Nat → Nat) (X : Nat → Nat → Int) (H : Heap) (hP : PX D ks bx ml X H) (hV : VX X) (hst : l.stackTraces = false) {fo : Nat → Int64} (ho : ca D (bx + 75) (jA (ks 1) 1 fo) H) (u : Int) (hu : -2147483648 ≤ u ∧ u < 2147483648) : KM l yL_ringing wsL_ringing ({ frames := 9, cells := 1, slots := 6, locals := 153 } : Room) D ks bx [.ref bx, .int (z2 (u)), .ref (bx + 75)] H (RW bx) (fun v H1 => ∃ (z r : Int) (Y : Nat → Nat → Int), co_ringing X u z r Y ∧ v = some (.int (z2 z)) ∧ (∃ ml1 : Nat → Nat, PX D ks bx ml1 Y H1) ∧ ∃ f1 : Nat → Int64, ca D (bx + 75) (jA (ks 1) 1 f1) H1 ∧ (z = 0 → f1 0 = (z2 r).toInt64)) (fun _ _ => False) := by
  refine KM.ofH (cc := cL_ringing) (maxL := 4) (ret := (some .int)) (hh := [(0, 9, 12, 13)]) (by decide) rfl (Nat.le_of_ble_eq_true rfl) ?_
  intro p e s m below meth c hx hb hml hr hlocks hown hts htb hH0 hG ls hl
  subst hH0
  have hown : s.vm.findClass RL = some m.cls := hown
  have hS : va_S (AR (RW bx) s.heap.size) s.heap s.heap [] := va_S.rf
  have hl : lv_has ls 4 [(0, .ref bx), (1, .int (z2 (u))), (2, .ref (bx + 75))] := hl
  refine lv_aload_n hx hb dL_ringing_0 rfl (lv_at hl 2 rfl) ?_
  refine b_iconst hx hb dL_ringing_1 ?_
  refine lv_aload_n hx hb dL_ringing_2 rfl (lv_at hl 0 rfl) ?_
  refine lv_iload_n hx hb dL_ringing_3 rfl (lv_at hl 1 rfl) ?_
  refine g_run (vx_runV (As := [.int (z2 (u))]) (rest := [.int (z2 (0)), .ref (bx + 75)]) ⟨hx, hb, hml, hown, hts⟩ (k_ringing l D ks bx ml X _ hP hV hst (u) hu) (cwV 1 hts gL_ringing_X4_ringing rfl rfl rfl (by decide +kernel) ⟨Nat.le_of_ble_eq_true rfl, Nat.le_of_ble_eq_true rfl⟩) (g_preV (r := (RX4, TX4, 7)) hG hS rw_ge hP.1 rfl) rfl rfl hl.1 rfl (lv_room (Nat.le_of_ble_eq_true rfl)) dL_ringing_4 ⟨Nat.le_of_ble_eq_true rfl, Nat.le_of_ble_eq_true rfl⟩) hS (fun _ h => Or.inl h) ?_ ?_
  · intro E ce q9 H locs hp hz9 hk9 hS hce hcv hcl
    obtain ⟨t9, e9⟩ := hp
    have hP := hP.keep (fun q h1 _ => t9.2 q h1)
    have ho := ho.kept (t9.2 _ ho.lt)
    rcases e9 with ⟨rfl, c9⟩
    · skip
      refine vx_catch hown [] ⟨0, 9, 12, 13⟩ [] (htb.trans rfl) (fun z hz => by cases hz) rfl (by decide) (name := "java/lang/IndexOutOfBoundsException") (hts (.classLink RL 13 "java/lang/IndexOutOfBoundsException") (by decide +kernel)) (va_Nw.use rfl (hG.2.1 _ (List.mem_of_getElem? (i := 28) rfl))) hce hcv hcl ?_
      refine lv_astore_n (lv' := [(3, .ref q9), (0, .ref bx), (1, .int (z2 (u))), (2, .ref (bx + 75))]) hx hb dL_ringing_12 rfl hl (by decide) rfl (fun ls hl => ?_)
      refine b_iconst hx hb dL_ringing_13 ?_
      exact g_iret hx hb hr hlocks hS ⟨Nat.le_of_ble_eq_true rfl, Nat.le_of_ble_eq_true rfl⟩ (⟨1, 0, X, Or.inr (⟨c9, rfl, rfl⟩), rfl, ⟨_, hP⟩, ⟨_, ho, fun q => absurd q (by decide)⟩⟩) dL_ringing_14
  · intro v H locs hp hz9 hk9 hS
    obtain ⟨n, hc9, rfl, hP9⟩ := hp
    obtain rfl := hP9.symm
    have ho := ho.kept (hk9 _ ho.lt (fun h => absurd h.2 (by omega)))
    refine W.eq (g2 := F0 m 7 ls [.int (z2 (rsS X n)), .int (z2 (0)), .ref (bx + 75)]) rfl ?_
    refine lv_i2l (v := (z2 (rsS X n)).toInt64) hx hb dL_ringing_7 rfl ?_
    refine g_last (n := 1) hx hb hG hS ho (Or.inl (Or.inr rfl)) 0 ⟨rfl, by decide, by decide⟩ dL_ringing_8 (fun H locs he hz9 oq hS => ?_)
    have ho := he
    have hP := hP.keep (fun q _ h2 => oq q (by omega))
    refine lv_goto (tgt := 15) hx hb dL_ringing_9 (by decide) ?_
    refine b_iconst hx hb dL_ringing_15 ?_
    exact g_iret hx hb hr hlocks hS ⟨Nat.le_of_ble_eq_true rfl, Nat.le_of_ble_eq_true rfl⟩ (⟨0, rsS X n, X, Or.inl ⟨n, hc9, rfl, rfl, rfl⟩, rfl, ⟨_, hP⟩, ⟨_, ho, fun _ => rfl⟩⟩) dL_ringing_16
set_option maxHeartbeats 4000000 in
set_option maxRecDepth 100000 in
theorem w_isSound (l : Launch) (D : va_G) (ks : Nat → ClassId) (bx : Nat) (ml : Nat → Nat) (X : Nat → Nat → Int) (H : Heap) (hP : PX D ks bx ml X H) (hV : VX X) (hst : l.stackTraces = false) {fo : Nat → Int64} (ho : ca D (bx + 75) (jA (ks 1) 1 fo) H) (u : Int) (hu : -2147483648 ≤ u ∧ u < 2147483648) : KM l yL_isSound wsL_isSound ({ frames := 9, cells := 1, slots := 6, locals := 153 } : Room) D ks bx [.ref bx, .int (z2 (u)), .ref (bx + 75)] H (RW bx) (fun v H1 => ∃ (z r : Int) (Y : Nat → Nat → Int), co_isSound X u z r Y ∧ v = some (.int (z2 z)) ∧ (∃ ml1 : Nat → Nat, PX D ks bx ml1 Y H1) ∧ ∃ f1 : Nat → Int64, ca D (bx + 75) (jA (ks 1) 1 f1) H1 ∧ (z = 0 → f1 0 = l2 r)) (fun _ _ => False) := by
  refine KM.ofH (cc := cL_isSound) (maxL := 4) (ret := (some .int)) (hh := [(0, 16, 19, 13)]) (by decide) rfl (Nat.le_of_ble_eq_true rfl) ?_
  intro p e s m below meth c hx hb hml hr hlocks hown hts htb hH0 hG ls hl
  subst hH0
  have hown : s.vm.findClass RL = some m.cls := hown
  have hS : va_S (AR (RW bx) s.heap.size) s.heap s.heap [] := va_S.rf
  have hl : lv_has ls 4 [(0, .ref bx), (1, .int (z2 (u))), (2, .ref (bx + 75))] := hl
  refine lv_aload_n hx hb dL_isSound_0 rfl (lv_at hl 2 rfl) ?_
  refine b_iconst hx hb dL_isSound_1 ?_
  refine lv_aload_n hx hb dL_isSound_2 rfl (lv_at hl 0 rfl) ?_
  refine lv_iload_n hx hb dL_isSound_3 rfl (lv_at hl 1 rfl) ?_
  refine g_run (vx_runV (As := [.int (z2 (u))]) (rest := [.int (z2 (0)), .ref (bx + 75)]) ⟨hx, hb, hml, hown, hts⟩ (k_isSound l D ks bx ml X _ hP hV hst (u) hu) (cwV 1 hts gL_isSound_X4_isSound rfl rfl rfl (by decide +kernel) ⟨Nat.le_of_ble_eq_true rfl, Nat.le_of_ble_eq_true rfl⟩) (g_preV (r := (RX4, TX4, 7)) hG hS rw_ge hP.1 rfl) rfl rfl hl.1 rfl (lv_room (Nat.le_of_ble_eq_true rfl)) dL_isSound_4 ⟨Nat.le_of_ble_eq_true rfl, Nat.le_of_ble_eq_true rfl⟩) hS (fun _ h => Or.inl h) ?_ ?_
  · intro E ce q9 H locs hp hz9 hk9 hS hce hcv hcl
    obtain ⟨t9, e9⟩ := hp
    have hP := hP.keep (fun q h1 _ => t9.2 q h1)
    have ho := ho.kept (t9.2 _ ho.lt)
    rcases e9 with ⟨rfl, c9⟩
    · skip
      refine vx_catch hown [] ⟨0, 16, 19, 13⟩ [] (htb.trans rfl) (fun z hz => by cases hz) rfl (by decide) (name := "java/lang/IndexOutOfBoundsException") (hts (.classLink RL 13 "java/lang/IndexOutOfBoundsException") (by decide +kernel)) (va_Nw.use rfl (hG.2.1 _ (List.mem_of_getElem? (i := 28) rfl))) hce hcv hcl ?_
      refine lv_astore_n (lv' := [(3, .ref q9), (0, .ref bx), (1, .int (z2 (u))), (2, .ref (bx + 75))]) hx hb dL_isSound_19 rfl hl (by decide) rfl (fun ls hl => ?_)
      refine b_iconst hx hb dL_isSound_20 ?_
      exact g_iret hx hb hr hlocks hS ⟨Nat.le_of_ble_eq_true rfl, Nat.le_of_ble_eq_true rfl⟩ (⟨1, 0, X, Or.inr (⟨c9, rfl, rfl⟩), rfl, ⟨_, hP⟩, ⟨_, ho, fun q => absurd q (by decide)⟩⟩) dL_isSound_21
  · intro v H locs hp hz9 hk9 hS
    obtain ⟨n, hc9, rfl, hP9⟩ := hp
    obtain rfl := hP9.symm
    have ho := ho.kept (hk9 _ ho.lt (fun h => absurd h.2 (by omega)))
    obtain ⟨w9, ew9, r01⟩ : ∃ w9 : Int, w9 = (X 14 n) ∧ (w9 = 0 ∨ w9 = 1) := ⟨_, rfl, by have b := (show 0 ≤ X 14 n ∧ X 14 n ≤ 1 from hV.1 14 n rfl); omega⟩
    rw [← ew9]
    refine W.eq (g2 := F0 m 7 ls [.int (z2 (w9)), .int (z2 (0)), .ref (bx + 75)]) rfl ?_
    refine b_if_eq (tgt := 14) hx hb dL_isSound_7 (by decide) ⟨by omega, by omega⟩ (fun c_b => ?_) (fun c_b => ?_)
    · skip
      refine lv_lconst (v := l2 0) hx hb dL_isSound_14 (by decide +kernel) ?_
      refine g_last (n := 1) hx hb hG hS ho (Or.inl (Or.inr rfl)) 0 ⟨rfl, by decide, by decide⟩ dL_isSound_15 (fun H locs he hz9 oq hS => ?_)
      have ho := he
      have hP := hP.keep (fun q _ h2 => oq q (by omega))
      refine lv_goto (tgt := 22) hx hb dL_isSound_16 (by decide) ?_
      refine b_iconst hx hb dL_isSound_22 ?_
      exact g_iret hx hb hr hlocks hS ⟨Nat.le_of_ble_eq_true rfl, Nat.le_of_ble_eq_true rfl⟩ (⟨0, X 14 n, X, Or.inl ⟨n, hc9, rfl, rfl, rfl⟩, rfl, ⟨_, hP⟩, ⟨_, ho, fun _ => congrArg l2 (show (0 : Int) = X 14 n by omega)⟩⟩) dL_isSound_23
    · skip
      refine lv_lconst (v := l2 1) hx hb dL_isSound_10 (by decide +kernel) ?_
      refine lv_goto (tgt := 15) hx hb dL_isSound_11 (by decide) ?_
      refine g_last (n := 1) hx hb hG hS ho (Or.inl (Or.inr rfl)) 0 ⟨rfl, by decide, by decide⟩ dL_isSound_15 (fun H locs he hz9 oq hS => ?_)
      have ho := he
      have hP := hP.keep (fun q _ h2 => oq q (by omega))
      refine lv_goto (tgt := 22) hx hb dL_isSound_16 (by decide) ?_
      refine b_iconst hx hb dL_isSound_22 ?_
      exact g_iret hx hb hr hlocks hS ⟨Nat.le_of_ble_eq_true rfl, Nat.le_of_ble_eq_true rfl⟩ (⟨0, X 14 n, X, Or.inl ⟨n, hc9, rfl, rfl, rfl⟩, rfl, ⟨_, hP⟩, ⟨_, ho, fun _ => congrArg l2 (show (1 : Int) = X 14 n by omega)⟩⟩) dL_isSound_23
set_option maxHeartbeats 4000000 in
set_option maxRecDepth 100000 in
theorem w_ringsLeft (l : Launch) (D : va_G) (ks : Nat → ClassId) (bx : Nat) (ml : Nat → Nat) (X : Nat → Nat → Int) (H : Heap) (hP : PX D ks bx ml X H) (hV : VX X) (hst : l.stackTraces = false) {fo : Nat → Int64} (ho : ca D (bx + 75) (jA (ks 1) 1 fo) H) (u v2 : Int) (hu : -2147483648 ≤ u ∧ u < 2147483648) (hv2 : -2147483648 ≤ v2 ∧ v2 < 2147483648) : KM l yL_ringsLeft wsL_ringsLeft ({ frames := 9, cells := 2, slots := 12, locals := 155 } : Room) D ks bx [.ref bx, .int (z2 (u)), .int (z2 (v2)), .ref (bx + 75)] H (RW bx) (fun v H1 => ∃ (z r : Int) (Y : Nat → Nat → Int), co_ringsLeft X u v2 z r Y ∧ v = some (.int (z2 z)) ∧ (∃ ml1 : Nat → Nat, PX D ks bx ml1 Y H1) ∧ ∃ f1 : Nat → Int64, ca D (bx + 75) (jA (ks 1) 1 f1) H1 ∧ (z = 0 → f1 0 = (z2 r).toInt64)) (fun _ _ => False) := by
  refine KM.ofH (cc := cL_ringsLeft) (maxL := 5) (ret := (some .int)) (hh := [(0, 10, 13, 13)]) (by decide) rfl (Nat.le_of_ble_eq_true rfl) ?_
  intro p e s m below meth c hx hb hml hr hlocks hown hts htb hH0 hG ls hl
  subst hH0
  have hown : s.vm.findClass RL = some m.cls := hown
  have hS : va_S (AR (RW bx) s.heap.size) s.heap s.heap [] := va_S.rf
  have hl : lv_has ls 5 [(0, .ref bx), (1, .int (z2 (u))), (2, .int (z2 (v2))), (3, .ref (bx + 75))] := hl
  refine lv_aload_n hx hb dL_ringsLeft_0 rfl (lv_at hl 3 rfl) ?_
  refine b_iconst hx hb dL_ringsLeft_1 ?_
  refine lv_aload_n hx hb dL_ringsLeft_2 rfl (lv_at hl 0 rfl) ?_
  refine lv_iload_n hx hb dL_ringsLeft_3 rfl (lv_at hl 1 rfl) ?_
  refine lv_iload_n hx hb dL_ringsLeft_4 rfl (lv_at hl 2 rfl) ?_
  refine g_run (vx_runV (As := [.int (z2 (u)), .int (z2 (v2))]) (rest := [.int (z2 (0)), .ref (bx + 75)]) ⟨hx, hb, hml, hown, hts⟩ (k_ringsLeft l D ks bx ml X _ hP hV hst (u) (v2) hu hv2) (cwV 2 hts gL_ringsLeft_X4_ringsLeft rfl rfl rfl (by decide +kernel) ⟨Nat.le_of_ble_eq_true rfl, Nat.le_of_ble_eq_true rfl⟩) (g_preV (r := (RX4, TX4, 7)) hG hS rw_ge hP.1 rfl) rfl rfl hl.1 rfl (lv_room (Nat.le_of_ble_eq_true rfl)) dL_ringsLeft_5 ⟨Nat.le_of_ble_eq_true rfl, Nat.le_of_ble_eq_true rfl⟩) hS (fun _ h => Or.inl h) ?_ ?_
  · intro E ce q9 H locs hp hz9 hk9 hS hce hcv hcl
    obtain ⟨t9, e9⟩ := hp
    have hP := hP.keep (fun q h1 _ => t9.2 q h1)
    have ho := ho.kept (t9.2 _ ho.lt)
    rcases e9 with ⟨rfl, c9⟩
    · skip
      refine vx_catch hown [] ⟨0, 10, 13, 13⟩ [] (htb.trans rfl) (fun z hz => by cases hz) rfl (by decide) (name := "java/lang/IndexOutOfBoundsException") (hts (.classLink RL 13 "java/lang/IndexOutOfBoundsException") (by decide +kernel)) (va_Nw.use rfl (hG.2.1 _ (List.mem_of_getElem? (i := 28) rfl))) hce hcv hcl ?_
      refine lv_astore (lv' := [(4, .ref q9), (0, .ref bx), (1, .int (z2 (u))), (2, .int (z2 (v2))), (3, .ref (bx + 75))]) hx hb dL_ringsLeft_13 hl (by decide) rfl (fun ls hl => ?_)
      refine b_iconst hx hb dL_ringsLeft_15 ?_
      exact g_iret hx hb hr hlocks hS ⟨Nat.le_of_ble_eq_true rfl, Nat.le_of_ble_eq_true rfl⟩ (⟨1, 0, X, Or.inr (⟨c9, rfl, rfl⟩), rfl, ⟨_, hP⟩, ⟨_, ho, fun q => absurd q (by decide)⟩⟩) dL_ringsLeft_16
  · intro v H locs hp hz9 hk9 hS
    obtain ⟨n, k, hc9, rfl, hP9⟩ := hp
    obtain rfl := hP9.symm
    have ho := ho.kept (hk9 _ ho.lt (fun h => absurd h.2 (by omega)))
    refine W.eq (g2 := F0 m 8 ls [.int (z2 (if X 36 k = n then -1 else X 23 (12 * n + k))), .int (z2 (0)), .ref (bx + 75)]) rfl ?_
    refine lv_i2l (v := (z2 (if X 36 k = n then -1 else X 23 (12 * n + k))).toInt64) hx hb dL_ringsLeft_8 rfl ?_
    refine g_last (n := 1) hx hb hG hS ho (Or.inl (Or.inr rfl)) 0 ⟨rfl, by decide, by decide⟩ dL_ringsLeft_9 (fun H locs he hz9 oq hS => ?_)
    have ho := he
    have hP := hP.keep (fun q _ h2 => oq q (by omega))
    refine lv_goto (tgt := 17) hx hb dL_ringsLeft_10 (by decide) ?_
    refine b_iconst hx hb dL_ringsLeft_17 ?_
    exact g_iret hx hb hr hlocks hS ⟨Nat.le_of_ble_eq_true rfl, Nat.le_of_ble_eq_true rfl⟩ (⟨0, if X 36 k = n then -1 else X 23 (12 * n + k), X, Or.inl ⟨n, k, hc9, rfl, rfl, rfl⟩, rfl, ⟨_, hP⟩, ⟨_, ho, fun _ => rfl⟩⟩) dL_ringsLeft_18
set_option maxHeartbeats 4000000 in
set_option maxRecDepth 100000 in
theorem w_points (l : Launch) (D : va_G) (ks : Nat → ClassId) (bx : Nat) (ml : Nat → Nat) (X : Nat → Nat → Int) (H : Heap) (hP : PX D ks bx ml X H) (hV : VX X) (hst : l.stackTraces = false) {fo : Nat → Int64} (ho : ca D (bx + 75) (jA (ks 1) 1 fo) H) (u : Int) (hu : -2147483648 ≤ u ∧ u < 2147483648) : KM l yL_points wsL_points ({ frames := 9, cells := 1, slots := 6, locals := 153 } : Room) D ks bx [.ref bx, .int (z2 (u)), .ref (bx + 75)] H (RW bx) (fun v H1 => ∃ (z r : Int) (Y : Nat → Nat → Int), co_points X u z r Y ∧ v = some (.int (z2 z)) ∧ (∃ ml1 : Nat → Nat, PX D ks bx ml1 Y H1) ∧ ∃ f1 : Nat → Int64, ca D (bx + 75) (jA (ks 1) 1 f1) H1 ∧ (z = 0 → f1 0 = (z2 r).toInt64)) (fun _ _ => False) := by
  refine KM.ofH (cc := cL_points) (maxL := 4) (ret := (some .int)) (hh := [(0, 9, 12, 13)]) (by decide) rfl (Nat.le_of_ble_eq_true rfl) ?_
  intro p e s m below meth c hx hb hml hr hlocks hown hts htb hH0 hG ls hl
  subst hH0
  have hown : s.vm.findClass RL = some m.cls := hown
  have hS : va_S (AR (RW bx) s.heap.size) s.heap s.heap [] := va_S.rf
  have hl : lv_has ls 4 [(0, .ref bx), (1, .int (z2 (u))), (2, .ref (bx + 75))] := hl
  refine lv_aload_n hx hb dL_points_0 rfl (lv_at hl 2 rfl) ?_
  refine b_iconst hx hb dL_points_1 ?_
  refine lv_aload_n hx hb dL_points_2 rfl (lv_at hl 0 rfl) ?_
  refine lv_iload_n hx hb dL_points_3 rfl (lv_at hl 1 rfl) ?_
  refine g_run (vx_runV (As := [.int (z2 (u))]) (rest := [.int (z2 (0)), .ref (bx + 75)]) ⟨hx, hb, hml, hown, hts⟩ (k_points l D ks bx ml X _ hP hV hst (u) hu) (cwV 1 hts gL_points_X4_points rfl rfl rfl (by decide +kernel) ⟨Nat.le_of_ble_eq_true rfl, Nat.le_of_ble_eq_true rfl⟩) (g_preV (r := (RX4, TX4, 7)) hG hS rw_ge hP.1 rfl) rfl rfl hl.1 rfl (lv_room (Nat.le_of_ble_eq_true rfl)) dL_points_4 ⟨Nat.le_of_ble_eq_true rfl, Nat.le_of_ble_eq_true rfl⟩) hS (fun _ h => Or.inl h) ?_ ?_
  · intro E ce q9 H locs hp hz9 hk9 hS hce hcv hcl
    obtain ⟨t9, e9⟩ := hp
    have hP := hP.keep (fun q h1 _ => t9.2 q h1)
    have ho := ho.kept (t9.2 _ ho.lt)
    rcases e9 with ⟨rfl, c9⟩
    · skip
      refine vx_catch hown [] ⟨0, 9, 12, 13⟩ [] (htb.trans rfl) (fun z hz => by cases hz) rfl (by decide) (name := "java/lang/IndexOutOfBoundsException") (hts (.classLink RL 13 "java/lang/IndexOutOfBoundsException") (by decide +kernel)) (va_Nw.use rfl (hG.2.1 _ (List.mem_of_getElem? (i := 28) rfl))) hce hcv hcl ?_
      refine lv_astore_n (lv' := [(3, .ref q9), (0, .ref bx), (1, .int (z2 (u))), (2, .ref (bx + 75))]) hx hb dL_points_12 rfl hl (by decide) rfl (fun ls hl => ?_)
      refine b_iconst hx hb dL_points_13 ?_
      exact g_iret hx hb hr hlocks hS ⟨Nat.le_of_ble_eq_true rfl, Nat.le_of_ble_eq_true rfl⟩ (⟨1, 0, X, Or.inr (⟨c9, rfl, rfl⟩), rfl, ⟨_, hP⟩, ⟨_, ho, fun q => absurd q (by decide)⟩⟩) dL_points_14
  · intro v H locs hp hz9 hk9 hS
    obtain ⟨n, hc9, rfl, hP9⟩ := hp
    obtain rfl := hP9.symm
    have ho := ho.kept (hk9 _ ho.lt (fun h => absurd h.2 (by omega)))
    refine W.eq (g2 := F0 m 7 ls [.int (z2 (X 17 n)), .int (z2 (0)), .ref (bx + 75)]) rfl ?_
    refine lv_i2l (v := (z2 (X 17 n)).toInt64) hx hb dL_points_7 rfl ?_
    refine g_last (n := 1) hx hb hG hS ho (Or.inl (Or.inr rfl)) 0 ⟨rfl, by decide, by decide⟩ dL_points_8 (fun H locs he hz9 oq hS => ?_)
    have ho := he
    have hP := hP.keep (fun q _ h2 => oq q (by omega))
    refine lv_goto (tgt := 15) hx hb dL_points_9 (by decide) ?_
    refine b_iconst hx hb dL_points_15 ?_
    exact g_iret hx hb hr hlocks hS ⟨Nat.le_of_ble_eq_true rfl, Nat.le_of_ble_eq_true rfl⟩ (⟨0, X 17 n, X, Or.inl ⟨n, hc9, rfl, rfl, rfl⟩, rfl, ⟨_, hP⟩, ⟨_, ho, fun _ => rfl⟩⟩) dL_points_16
set_option maxHeartbeats 4000000 in
set_option maxRecDepth 100000 in
theorem w_secondsRung (l : Launch) (D : va_G) (ks : Nat → ClassId) (bx : Nat) (ml : Nat → Nat) (X : Nat → Nat → Int) (H : Heap) (hP : PX D ks bx ml X H) (hV : VX X) (hst : l.stackTraces = false) {fo : Nat → Int64} (ho : ca D (bx + 75) (jA (ks 1) 1 fo) H) (u : Int) (hu : -2147483648 ≤ u ∧ u < 2147483648) : KM l yL_secondsRung wsL_secondsRung ({ frames := 9, cells := 1, slots := 6, locals := 153 } : Room) D ks bx [.ref bx, .int (z2 (u)), .ref (bx + 75)] H (RW bx) (fun v H1 => ∃ (z r : Int) (Y : Nat → Nat → Int), co_secondsRung X u z r Y ∧ v = some (.int (z2 z)) ∧ (∃ ml1 : Nat → Nat, PX D ks bx ml1 Y H1) ∧ ∃ f1 : Nat → Int64, ca D (bx + 75) (jA (ks 1) 1 f1) H1 ∧ (z = 0 → f1 0 = (z2 r).toInt64)) (fun _ _ => False) := by
  refine KM.ofH (cc := cL_secondsRung) (maxL := 4) (ret := (some .int)) (hh := [(0, 9, 12, 13)]) (by decide) rfl (Nat.le_of_ble_eq_true rfl) ?_
  intro p e s m below meth c hx hb hml hr hlocks hown hts htb hH0 hG ls hl
  subst hH0
  have hown : s.vm.findClass RL = some m.cls := hown
  have hS : va_S (AR (RW bx) s.heap.size) s.heap s.heap [] := va_S.rf
  have hl : lv_has ls 4 [(0, .ref bx), (1, .int (z2 (u))), (2, .ref (bx + 75))] := hl
  refine lv_aload_n hx hb dL_secondsRung_0 rfl (lv_at hl 2 rfl) ?_
  refine b_iconst hx hb dL_secondsRung_1 ?_
  refine lv_aload_n hx hb dL_secondsRung_2 rfl (lv_at hl 0 rfl) ?_
  refine lv_iload_n hx hb dL_secondsRung_3 rfl (lv_at hl 1 rfl) ?_
  refine g_run (vx_runV (As := [.int (z2 (u))]) (rest := [.int (z2 (0)), .ref (bx + 75)]) ⟨hx, hb, hml, hown, hts⟩ (k_secondsRung l D ks bx ml X _ hP hV hst (u) hu) (cwV 1 hts gL_secondsRung_X4_secondsRung rfl rfl rfl (by decide +kernel) ⟨Nat.le_of_ble_eq_true rfl, Nat.le_of_ble_eq_true rfl⟩) (g_preV (r := (RX4, TX4, 7)) hG hS rw_ge hP.1 rfl) rfl rfl hl.1 rfl (lv_room (Nat.le_of_ble_eq_true rfl)) dL_secondsRung_4 ⟨Nat.le_of_ble_eq_true rfl, Nat.le_of_ble_eq_true rfl⟩) hS (fun _ h => Or.inl h) ?_ ?_
  · intro E ce q9 H locs hp hz9 hk9 hS hce hcv hcl
    obtain ⟨t9, e9⟩ := hp
    have hP := hP.keep (fun q h1 _ => t9.2 q h1)
    have ho := ho.kept (t9.2 _ ho.lt)
    rcases e9 with ⟨rfl, c9⟩
    · skip
      refine vx_catch hown [] ⟨0, 9, 12, 13⟩ [] (htb.trans rfl) (fun z hz => by cases hz) rfl (by decide) (name := "java/lang/IndexOutOfBoundsException") (hts (.classLink RL 13 "java/lang/IndexOutOfBoundsException") (by decide +kernel)) (va_Nw.use rfl (hG.2.1 _ (List.mem_of_getElem? (i := 28) rfl))) hce hcv hcl ?_
      refine lv_astore_n (lv' := [(3, .ref q9), (0, .ref bx), (1, .int (z2 (u))), (2, .ref (bx + 75))]) hx hb dL_secondsRung_12 rfl hl (by decide) rfl (fun ls hl => ?_)
      refine b_iconst hx hb dL_secondsRung_13 ?_
      exact g_iret hx hb hr hlocks hS ⟨Nat.le_of_ble_eq_true rfl, Nat.le_of_ble_eq_true rfl⟩ (⟨1, 0, X, Or.inr (⟨c9, rfl, rfl⟩), rfl, ⟨_, hP⟩, ⟨_, ho, fun q => absurd q (by decide)⟩⟩) dL_secondsRung_14
  · intro v H locs hp hz9 hk9 hS
    obtain ⟨n, hc9, rfl, hP9⟩ := hp
    obtain rfl := hP9.symm
    have ho := ho.kept (hk9 _ ho.lt (fun h => absurd h.2 (by omega)))
    refine W.eq (g2 := F0 m 7 ls [.int (z2 (X 18 n)), .int (z2 (0)), .ref (bx + 75)]) rfl ?_
    refine lv_i2l (v := (z2 (X 18 n)).toInt64) hx hb dL_secondsRung_7 rfl ?_
    refine g_last (n := 1) hx hb hG hS ho (Or.inl (Or.inr rfl)) 0 ⟨rfl, by decide, by decide⟩ dL_secondsRung_8 (fun H locs he hz9 oq hS => ?_)
    have ho := he
    have hP := hP.keep (fun q _ h2 => oq q (by omega))
    refine lv_goto (tgt := 15) hx hb dL_secondsRung_9 (by decide) ?_
    refine b_iconst hx hb dL_secondsRung_15 ?_
    exact g_iret hx hb hr hlocks hS ⟨Nat.le_of_ble_eq_true rfl, Nat.le_of_ble_eq_true rfl⟩ (⟨0, X 18 n, X, Or.inl ⟨n, hc9, rfl, rfl, rfl⟩, rfl, ⟨_, hP⟩, ⟨_, ho, fun _ => rfl⟩⟩) dL_secondsRung_16
set_option maxHeartbeats 4000000 in
set_option maxRecDepth 100000 in
theorem w_quietBroken (l : Launch) (D : va_G) (ks : Nat → ClassId) (bx : Nat) (ml : Nat → Nat) (X : Nat → Nat → Int) (H : Heap) (hP : PX D ks bx ml X H) (hV : VX X) (hst : l.stackTraces = false) {fo : Nat → Int64} (ho : ca D (bx + 75) (jA (ks 1) 1 fo) H) (u : Int) (hu : -2147483648 ≤ u ∧ u < 2147483648) : KM l yL_quietBroken wsL_quietBroken ({ frames := 9, cells := 1, slots := 6, locals := 153 } : Room) D ks bx [.ref bx, .int (z2 (u)), .ref (bx + 75)] H (RW bx) (fun v H1 => ∃ (z r : Int) (Y : Nat → Nat → Int), co_quietBroken X u z r Y ∧ v = some (.int (z2 z)) ∧ (∃ ml1 : Nat → Nat, PX D ks bx ml1 Y H1) ∧ ∃ f1 : Nat → Int64, ca D (bx + 75) (jA (ks 1) 1 f1) H1 ∧ (z = 0 → f1 0 = (z2 r).toInt64)) (fun _ _ => False) := by
  refine KM.ofH (cc := cL_quietBroken) (maxL := 4) (ret := (some .int)) (hh := [(0, 9, 12, 13)]) (by decide) rfl (Nat.le_of_ble_eq_true rfl) ?_
  intro p e s m below meth c hx hb hml hr hlocks hown hts htb hH0 hG ls hl
  subst hH0
  have hown : s.vm.findClass RL = some m.cls := hown
  have hS : va_S (AR (RW bx) s.heap.size) s.heap s.heap [] := va_S.rf
  have hl : lv_has ls 4 [(0, .ref bx), (1, .int (z2 (u))), (2, .ref (bx + 75))] := hl
  refine lv_aload_n hx hb dL_quietBroken_0 rfl (lv_at hl 2 rfl) ?_
  refine b_iconst hx hb dL_quietBroken_1 ?_
  refine lv_aload_n hx hb dL_quietBroken_2 rfl (lv_at hl 0 rfl) ?_
  refine lv_iload_n hx hb dL_quietBroken_3 rfl (lv_at hl 1 rfl) ?_
  refine g_run (vx_runV (As := [.int (z2 (u))]) (rest := [.int (z2 (0)), .ref (bx + 75)]) ⟨hx, hb, hml, hown, hts⟩ (k_quietBroken l D ks bx ml X _ hP hV hst (u) hu) (cwV 1 hts gL_quietBroken_X4_quietBroken rfl rfl rfl (by decide +kernel) ⟨Nat.le_of_ble_eq_true rfl, Nat.le_of_ble_eq_true rfl⟩) (g_preV (r := (RX4, TX4, 7)) hG hS rw_ge hP.1 rfl) rfl rfl hl.1 rfl (lv_room (Nat.le_of_ble_eq_true rfl)) dL_quietBroken_4 ⟨Nat.le_of_ble_eq_true rfl, Nat.le_of_ble_eq_true rfl⟩) hS (fun _ h => Or.inl h) ?_ ?_
  · intro E ce q9 H locs hp hz9 hk9 hS hce hcv hcl
    obtain ⟨t9, e9⟩ := hp
    have hP := hP.keep (fun q h1 _ => t9.2 q h1)
    have ho := ho.kept (t9.2 _ ho.lt)
    rcases e9 with ⟨rfl, c9⟩
    · skip
      refine vx_catch hown [] ⟨0, 9, 12, 13⟩ [] (htb.trans rfl) (fun z hz => by cases hz) rfl (by decide) (name := "java/lang/IndexOutOfBoundsException") (hts (.classLink RL 13 "java/lang/IndexOutOfBoundsException") (by decide +kernel)) (va_Nw.use rfl (hG.2.1 _ (List.mem_of_getElem? (i := 28) rfl))) hce hcv hcl ?_
      refine lv_astore_n (lv' := [(3, .ref q9), (0, .ref bx), (1, .int (z2 (u))), (2, .ref (bx + 75))]) hx hb dL_quietBroken_12 rfl hl (by decide) rfl (fun ls hl => ?_)
      refine b_iconst hx hb dL_quietBroken_13 ?_
      exact g_iret hx hb hr hlocks hS ⟨Nat.le_of_ble_eq_true rfl, Nat.le_of_ble_eq_true rfl⟩ (⟨1, 0, X, Or.inr (⟨c9, rfl, rfl⟩), rfl, ⟨_, hP⟩, ⟨_, ho, fun q => absurd q (by decide)⟩⟩) dL_quietBroken_14
  · intro v H locs hp hz9 hk9 hS
    obtain ⟨n, hc9, rfl, hP9⟩ := hp
    obtain rfl := hP9.symm
    have ho := ho.kept (hk9 _ ho.lt (fun h => absurd h.2 (by omega)))
    refine W.eq (g2 := F0 m 7 ls [.int (z2 (X 19 n)), .int (z2 (0)), .ref (bx + 75)]) rfl ?_
    refine lv_i2l (v := (z2 (X 19 n)).toInt64) hx hb dL_quietBroken_7 rfl ?_
    refine g_last (n := 1) hx hb hG hS ho (Or.inl (Or.inr rfl)) 0 ⟨rfl, by decide, by decide⟩ dL_quietBroken_8 (fun H locs he hz9 oq hS => ?_)
    have ho := he
    have hP := hP.keep (fun q _ h2 => oq q (by omega))
    refine lv_goto (tgt := 15) hx hb dL_quietBroken_9 (by decide) ?_
    refine b_iconst hx hb dL_quietBroken_15 ?_
    exact g_iret hx hb hr hlocks hS ⟨Nat.le_of_ble_eq_true rfl, Nat.le_of_ble_eq_true rfl⟩ (⟨0, X 19 n, X, Or.inl ⟨n, hc9, rfl, rfl, rfl⟩, rfl, ⟨_, hP⟩, ⟨_, ho, fun _ => rfl⟩⟩) dL_quietBroken_16
set_option maxHeartbeats 4000000 in
set_option maxRecDepth 100000 in
theorem w_hushed (l : Launch) (D : va_G) (ks : Nat → ClassId) (bx : Nat) (ml : Nat → Nat) (X : Nat → Nat → Int) (H : Heap) (hP : PX D ks bx ml X H) (hV : VX X) (hst : l.stackTraces = false) {fo : Nat → Int64} (ho : ca D (bx + 75) (jA (ks 1) 1 fo) H) (u : Int) (hu : -2147483648 ≤ u ∧ u < 2147483648) : KM l yL_hushed wsL_hushed ({ frames := 9, cells := 1, slots := 6, locals := 153 } : Room) D ks bx [.ref bx, .int (z2 (u)), .ref (bx + 75)] H (RW bx) (fun v H1 => ∃ (z r : Int) (Y : Nat → Nat → Int), co_hushed X u z r Y ∧ v = some (.int (z2 z)) ∧ (∃ ml1 : Nat → Nat, PX D ks bx ml1 Y H1) ∧ ∃ f1 : Nat → Int64, ca D (bx + 75) (jA (ks 1) 1 f1) H1 ∧ (z = 0 → f1 0 = (z2 r).toInt64)) (fun _ _ => False) := by
  refine KM.ofH (cc := cL_hushed) (maxL := 4) (ret := (some .int)) (hh := [(0, 9, 12, 13)]) (by decide) rfl (Nat.le_of_ble_eq_true rfl) ?_
  intro p e s m below meth c hx hb hml hr hlocks hown hts htb hH0 hG ls hl
  subst hH0
  have hown : s.vm.findClass RL = some m.cls := hown
  have hS : va_S (AR (RW bx) s.heap.size) s.heap s.heap [] := va_S.rf
  have hl : lv_has ls 4 [(0, .ref bx), (1, .int (z2 (u))), (2, .ref (bx + 75))] := hl
  refine lv_aload_n hx hb dL_hushed_0 rfl (lv_at hl 2 rfl) ?_
  refine b_iconst hx hb dL_hushed_1 ?_
  refine lv_aload_n hx hb dL_hushed_2 rfl (lv_at hl 0 rfl) ?_
  refine lv_iload_n hx hb dL_hushed_3 rfl (lv_at hl 1 rfl) ?_
  refine g_run (vx_runV (As := [.int (z2 (u))]) (rest := [.int (z2 (0)), .ref (bx + 75)]) ⟨hx, hb, hml, hown, hts⟩ (k_hushed l D ks bx ml X _ hP hV hst (u) hu) (cwV 1 hts gL_hushed_X4_hushed rfl rfl rfl (by decide +kernel) ⟨Nat.le_of_ble_eq_true rfl, Nat.le_of_ble_eq_true rfl⟩) (g_preV (r := (RX4, TX4, 7)) hG hS rw_ge hP.1 rfl) rfl rfl hl.1 rfl (lv_room (Nat.le_of_ble_eq_true rfl)) dL_hushed_4 ⟨Nat.le_of_ble_eq_true rfl, Nat.le_of_ble_eq_true rfl⟩) hS (fun _ h => Or.inl h) ?_ ?_
  · intro E ce q9 H locs hp hz9 hk9 hS hce hcv hcl
    obtain ⟨t9, e9⟩ := hp
    have hP := hP.keep (fun q h1 _ => t9.2 q h1)
    have ho := ho.kept (t9.2 _ ho.lt)
    rcases e9 with ⟨rfl, c9⟩
    · skip
      refine vx_catch hown [] ⟨0, 9, 12, 13⟩ [] (htb.trans rfl) (fun z hz => by cases hz) rfl (by decide) (name := "java/lang/IndexOutOfBoundsException") (hts (.classLink RL 13 "java/lang/IndexOutOfBoundsException") (by decide +kernel)) (va_Nw.use rfl (hG.2.1 _ (List.mem_of_getElem? (i := 28) rfl))) hce hcv hcl ?_
      refine lv_astore_n (lv' := [(3, .ref q9), (0, .ref bx), (1, .int (z2 (u))), (2, .ref (bx + 75))]) hx hb dL_hushed_12 rfl hl (by decide) rfl (fun ls hl => ?_)
      refine b_iconst hx hb dL_hushed_13 ?_
      exact g_iret hx hb hr hlocks hS ⟨Nat.le_of_ble_eq_true rfl, Nat.le_of_ble_eq_true rfl⟩ (⟨1, 0, X, Or.inr (⟨c9, rfl, rfl⟩), rfl, ⟨_, hP⟩, ⟨_, ho, fun q => absurd q (by decide)⟩⟩) dL_hushed_14
  · intro v H locs hp hz9 hk9 hS
    obtain ⟨n, hc9, rfl, hP9⟩ := hp
    obtain rfl := hP9.symm
    have ho := ho.kept (hk9 _ ho.lt (fun h => absurd h.2 (by omega)))
    refine W.eq (g2 := F0 m 7 ls [.int (z2 (X 20 n)), .int (z2 (0)), .ref (bx + 75)]) rfl ?_
    refine lv_i2l (v := (z2 (X 20 n)).toInt64) hx hb dL_hushed_7 rfl ?_
    refine g_last (n := 1) hx hb hG hS ho (Or.inl (Or.inr rfl)) 0 ⟨rfl, by decide, by decide⟩ dL_hushed_8 (fun H locs he hz9 oq hS => ?_)
    have ho := he
    have hP := hP.keep (fun q _ h2 => oq q (by omega))
    refine lv_goto (tgt := 15) hx hb dL_hushed_9 (by decide) ?_
    refine b_iconst hx hb dL_hushed_15 ?_
    exact g_iret hx hb hr hlocks hS ⟨Nat.le_of_ble_eq_true rfl, Nat.le_of_ble_eq_true rfl⟩ (⟨0, X 20 n, X, Or.inl ⟨n, hc9, rfl, rfl, rfl⟩, rfl, ⟨_, hP⟩, ⟨_, ho, fun _ => rfl⟩⟩) dL_hushed_16
set_option maxHeartbeats 4000000 in
set_option maxRecDepth 100000 in
theorem w_faultAt (l : Launch) (D : va_G) (ks : Nat → ClassId) (bx : Nat) (ml : Nat → Nat) (X : Nat → Nat → Int) (H : Heap) (hP : PX D ks bx ml X H) (hV : VX X) (hst : l.stackTraces = false) {fo : Nat → Int64} (ho : ca D (bx + 75) (jA (ks 1) 1 fo) H) (u : Int) (hu : -2147483648 ≤ u ∧ u < 2147483648) : KM l yL_faultAt wsL_faultAt ({ frames := 7, cells := 1, slots := 6, locals := 111 } : Room) D ks bx [.ref bx, .int (z2 (u)), .ref (bx + 75)] H (RW bx) (fun v H1 => ∃ (z r : Int) (Y : Nat → Nat → Int), co_faultAt X u z r Y ∧ v = some (.int (z2 z)) ∧ (∃ ml1 : Nat → Nat, PX D ks bx ml1 Y H1) ∧ ∃ f1 : Nat → Int64, ca D (bx + 75) (jA (ks 1) 1 f1) H1 ∧ (z = 0 → f1 0 = (z2 r).toInt64)) (fun _ _ => False) := by
  refine KM.ofH (cc := cL_faultAt) (maxL := 4) (ret := (some .int)) (hh := [(0, 9, 12, 13)]) (by decide) rfl (Nat.le_of_ble_eq_true rfl) ?_
  intro p e s m below meth c hx hb hml hr hlocks hown hts htb hH0 hG ls hl
  subst hH0
  have hown : s.vm.findClass RL = some m.cls := hown
  have hS : va_S (AR (RW bx) s.heap.size) s.heap s.heap [] := va_S.rf
  have hl : lv_has ls 4 [(0, .ref bx), (1, .int (z2 (u))), (2, .ref (bx + 75))] := hl
  refine lv_aload_n hx hb dL_faultAt_0 rfl (lv_at hl 2 rfl) ?_
  refine b_iconst hx hb dL_faultAt_1 ?_
  refine lv_aload_n hx hb dL_faultAt_2 rfl (lv_at hl 0 rfl) ?_
  refine lv_iload_n hx hb dL_faultAt_3 rfl (lv_at hl 1 rfl) ?_
  refine g_run (vx_runV (As := [.int (z2 (u))]) (rest := [.int (z2 (0)), .ref (bx + 75)]) ⟨hx, hb, hml, hown, hts⟩ (k_faultAt l D ks bx ml X _ hP hV hst (u) hu) (cwV 1 hts gL_faultAt_X4_faultAt rfl rfl rfl (by decide +kernel) ⟨Nat.le_of_ble_eq_true rfl, Nat.le_of_ble_eq_true rfl⟩) (g_preV (r := (RX4, TX4, 7)) hG hS rw_ge hP.1 rfl) rfl rfl hl.1 rfl (lv_room (Nat.le_of_ble_eq_true rfl)) dL_faultAt_4 ⟨Nat.le_of_ble_eq_true rfl, Nat.le_of_ble_eq_true rfl⟩) hS (fun _ h => Or.inl h) ?_ ?_
  · intro E ce q9 H locs hp hz9 hk9 hS hce hcv hcl
    obtain ⟨t9, e9⟩ := hp
    have hP := hP.keep (fun q h1 _ => t9.2 q h1)
    have ho := ho.kept (t9.2 _ ho.lt)
    rcases e9 with ⟨rfl, c9⟩
    · skip
      refine vx_catch hown [] ⟨0, 9, 12, 13⟩ [] (htb.trans rfl) (fun z hz => by cases hz) rfl (by decide) (name := "java/lang/IndexOutOfBoundsException") (hts (.classLink RL 13 "java/lang/IndexOutOfBoundsException") (by decide +kernel)) (va_Nw.use rfl (hG.2.1 _ (List.mem_of_getElem? (i := 28) rfl))) hce hcv hcl ?_
      refine lv_astore_n (lv' := [(3, .ref q9), (0, .ref bx), (1, .int (z2 (u))), (2, .ref (bx + 75))]) hx hb dL_faultAt_12 rfl hl (by decide) rfl (fun ls hl => ?_)
      refine b_iconst hx hb dL_faultAt_13 ?_
      exact g_iret hx hb hr hlocks hS ⟨Nat.le_of_ble_eq_true rfl, Nat.le_of_ble_eq_true rfl⟩ (⟨1, 0, X, Or.inr (⟨c9, rfl, rfl⟩), rfl, ⟨_, hP⟩, ⟨_, ho, fun q => absurd q (by decide)⟩⟩) dL_faultAt_14
  · intro v H locs hp hz9 hk9 hS
    obtain ⟨hc9, rfl, hP9⟩ := hp
    obtain rfl := hP9.symm
    have ho := ho.kept (hk9 _ ho.lt (fun h => absurd h.2 (by omega)))
    refine W.eq (g2 := F0 m 7 ls [.int (z2 (X 7 (u).toNat)), .int (z2 (0)), .ref (bx + 75)]) rfl ?_
    refine lv_i2l (v := (z2 (X 7 (u).toNat)).toInt64) hx hb dL_faultAt_7 rfl ?_
    refine g_last (n := 1) hx hb hG hS ho (Or.inl (Or.inr rfl)) 0 ⟨rfl, by decide, by decide⟩ dL_faultAt_8 (fun H locs he hz9 oq hS => ?_)
    have ho := he
    have hP := hP.keep (fun q _ h2 => oq q (by omega))
    refine lv_goto (tgt := 15) hx hb dL_faultAt_9 (by decide) ?_
    refine b_iconst hx hb dL_faultAt_15 ?_
    exact g_iret hx hb hr hlocks hS ⟨Nat.le_of_ble_eq_true rfl, Nat.le_of_ble_eq_true rfl⟩ (⟨0, X 7 (u).toNat, X, Or.inl ⟨hc9, rfl, rfl, rfl⟩, rfl, ⟨_, hP⟩, ⟨_, ho, fun _ => rfl⟩⟩) dL_faultAt_16
