/-! THE LAW: what a round does, sort by sort. -/
theorem b_tn {p : Program} {l : Launch} {e : Env} {R : Room} {s : State} {m : MethodId} {args : Array Value} {below : List Frame} {meth : Method} {c : Code} {H : Heap} {locs : List Loc} {cells slots : Nat} {Q : State → Prop} {pc : Nat} {ls : Array Slot} {rest : List Value} {x : Int64} {P : Int → Prop} (h : ∃ t : Int, P t ∧ x = l2 t) (k : ∀ t : Int, P t → W p l e R s m args below meth c H locs cells slots Q (F0 m pc ls (.long (l2 t) :: rest))) : W p l e R s m args below meth c H locs cells slots Q (F0 m pc ls (.long x :: rest)) := by
  obtain ⟨t, h1, rfl⟩ := h
  exact k t h1
set_option maxHeartbeats 4000000 in
set_option maxRecDepth 100000 in
theorem c_melody {p : Program} {e : Env} {s : State} {m : MethodId} {below : List Frame} {meth : Method} {c : Code} (l : Launch) (hst : l.stackTraces = false) {D : va_G} {ks : Nat → ClassId} {sb bx nL q tn : Nat} {v : Int} {n b k : Nat} {xs : Nat → Int32} {Q : State → Prop} (hx : p.tables.exec = Jvm.exec) (hb : c.code = cL_law) (hml : c.maxLocals = 15) (hown : s.vm.findClass RL = some m.cls) (hts : ∀ w ∈ wsL_law, w.before #[Value.ref sb] s = true) (hX : va_X sb nL xs s s.heap) (hbl : sb < s.heap.size) (hG : GE D ks bx s) (hbb : sb < bx) (hnL : nL ≤ 260) (hq : q < 56) {H : Heap} {locs : List Loc} {ls : Array Slot} {cells slots : Nat} (hcs : cells + 1000 ≤ room_1.cells ∧ slots + 6000 ≤ room_1.slots) {ml : Nat → Nat} {X : Nat → Nat → Int} (hL : LV q X) (hP : PX D ks bx ml X H) (hS : va_S (AR (RC bx) s.heap.size) s.heap H locs) (hl : lv_has ls 15 [(0, .ref sb), (1, .ref bx), (2, .int (z2 (X 4 0))), (3, .int (z2 (1))), (4, .int (z2 (((tn : Nat) : Int)))), (5, .int (z2 (((q : Nat) : Int)))), (6, .int (z2 (v))), (7, .int (z2 (((n : Nat) : Int)))), (8, .int (z2 (((b : Nat) : Int)))), (9, .int (z2 (((k : Nat) : Int))))])
    (hv : -2147483648 ≤ v ∧ v < 2147483648) (hn : n < 8) (hb3 : b < 3) (kk : ∀ (ml1 : Nat → Nat) (X1 : Nat → Nat → Int) (H1 : Heap) (locs1 : List Loc) (ls1 : Array Slot), LV (q + 1) X1 → PX D ks bx ml1 X1 H1 → va_S (AR (RC bx) s.heap.size) s.heap H1 locs1 → lv_has ls1 15 [(0, .ref sb), (1, .ref bx), (2, .int (z2 (X1 4 0))), (3, .int (z2 (1))), (4, .int (z2 (((tn : Nat) : Int)))), (5, .int (z2 (((q : Nat) : Int))))] → W p l e room_1 s m #[Value.ref sb] below meth c H1 locs1 (cells + 200) (slots + 1200) Q (F0 m 721 ls1 [])) :
    W p l e room_1 s m #[Value.ref sb] below meth c H locs cells slots Q (F0 m 148 ls []) := by
  obtain ⟨hV, hT, hY⟩ := id hL
  have b4 : 0 ≤ X 4 0 ∧ X 4 0 ≤ 12 := hV.1 4 0 rfl
  have b6 : 0 ≤ X 6 0 ∧ X 6 0 ≤ 1000000 := hV.1 6 0 rfl
  obtain ⟨w2, hw2, ew2⟩ := z2_ex ((z2 v) >>> ((z2 2) &&& 31))
  obtain ⟨w5, hw5, ew5⟩ := z2_ex ((z2 v) >>> ((z2 5) &&& 31))
  refine b_iconst hx hb dL_law_148 ?_
  refine lv_iload hx hb dL_law_149 (lv_at hl 6 rfl) ?_
  refine b_bipush hx hb dL_law_151 (by decide +kernel) ?_
  refine g_run (vx_runS (As := [.int (z2 (v)), .int (z2 (12))]) (rest := [.int (z2 (1))]) ⟨hx, hb, hml, hown, hts⟩ (w_low l D ks bx _ (v) (12) ⟨by omega, by omega⟩ ⟨by omega, by omega⟩) (cwS 2 hts gL_law_L_low rfl rfl rfl (by decide +kernel) ⟨Nat.le_of_ble_eq_true rfl, Nat.le_of_ble_eq_true rfl⟩) (g_preS hG hS (fun _ h => h)) rfl rfl hl.1 rfl (lv_room (Nat.le_of_ble_eq_true rfl)) dL_law_153 ⟨by show cells + 0 ≤ room_1.cells; omega, by show slots + 0 ≤ room_1.slots; omega⟩) hS (fun q h => rx_ge q h) (fun _ _ _ _ _ h => h.elim) (fun v H locs hp hz9 hk9 hS => ?_)
  obtain ⟨rfl, hH9⟩ := hp
  obtain rfl := hH9.symm
  obtain ⟨x153, hx153, ex153⟩ : ∃ z : Int, (0 ≤ z ∧ z < (12)) ∧ z = (v) % 2147483648 % (12) := ⟨_, ⟨Int.emod_nonneg _ (by omega), Int.emod_lt_of_pos _ (by omega)⟩, rfl⟩
  rw [← ex153]
  refine W.eq (g2 := F0 m 156 ls [.int (z2 (x153)), .int (z2 (1))]) rfl ?_
  refine b_iadd hx hb dL_law_156 ?_
  obtain ⟨cn, hcn⟩ : ∃ cn : Nat, 1 + x153 = ((cn : Nat) : Int) := ⟨(1 + x153).toNat, by omega⟩
  refine b_top (v := ((cn : Nat) : Int)) (congrArg z2 hcn) ?_
  refine lv_istore (lv' := [(11, .int (z2 (((cn : Nat) : Int)))), (0, .ref sb), (1, .ref bx), (2, .int (z2 (X 4 0))), (3, .int (z2 (1))), (4, .int (z2 (((tn : Nat) : Int)))), (5, .int (z2 (((q : Nat) : Int)))), (6, .int (z2 (v))), (7, .int (z2 (((n : Nat) : Int)))), (8, .int (z2 (((b : Nat) : Int)))), (9, .int (z2 (((k : Nat) : Int))))]) hx hb dL_law_157 hl (by decide) rfl (fun ls hl => ?_)
  refine lv_iload hx hb dL_law_159 (lv_at hl 7 rfl) ?_
  refine b_iconst hx hb dL_law_161 ?_
  refine lv_ishr hx hb dL_law_162 ?_
  refine b_top (v := w2) ew2 ?_
  refine lv_ldc (v := z2 (16777216)) hx hb hown (hts _ (by decide +kernel)) dL_law_163 ?_
  refine g_run (vx_runS (As := [.int (z2 (w2)), .int (z2 (16777216))]) (rest := []) ⟨hx, hb, hml, hown, hts⟩ (w_low l D ks bx _ (w2) (16777216) ⟨by omega, by omega⟩ ⟨by omega, by omega⟩) (cwS 2 hts gL_law_L_low rfl rfl rfl (by decide +kernel) ⟨Nat.le_of_ble_eq_true rfl, Nat.le_of_ble_eq_true rfl⟩) (g_preS hG hS (fun _ h => h)) rfl rfl hl.1 rfl (lv_room (Nat.le_of_ble_eq_true rfl)) dL_law_165 ⟨by show cells + 0 + 0 ≤ room_1.cells; omega, by show slots + 0 + 0 ≤ room_1.slots; omega⟩) hS (fun q h => rx_ge q h) (fun _ _ _ _ _ h => h.elim) (fun v H locs hp hz9 hk9 hS => ?_)
  obtain ⟨rfl, hH9⟩ := hp
  obtain rfl := hH9.symm
  obtain ⟨x165, hx165, ex165⟩ : ∃ z : Int, (0 ≤ z ∧ z < (16777216)) ∧ z = (w2) % 2147483648 % (16777216) := ⟨_, ⟨Int.emod_nonneg _ (by omega), Int.emod_lt_of_pos _ (by omega)⟩, rfl⟩
  rw [← ex165]
  refine W.eq (g2 := F0 m 168 ls [.int (z2 (x165))]) rfl ?_
  refine lv_i2l (v := l2 (x165)) hx hb dL_law_168 (z2_l2 ⟨by omega, by omega⟩) ?_
  refine b_bipush hx hb dL_law_169 (by decide +kernel) ?_
  refine lv_lshl hx hb dL_law_171 rfl ?_
  refine lv_iload hx hb dL_law_172 (lv_at hl 7 rfl) ?_
  refine b_iconst hx hb dL_law_174 ?_
  refine lv_ishr hx hb dL_law_175 ?_
  refine b_top (v := w5) ew5 ?_
  refine lv_ldc (v := z2 (16777216)) hx hb hown (hts _ (by decide +kernel)) dL_law_176 ?_
  refine g_run (vx_runS (As := [.int (z2 (w5)), .int (z2 (16777216))]) (rest := [.long ((l2 (x165)) <<< ((z2 (24)).toInt64 &&& 63))]) ⟨hx, hb, hml, hown, hts⟩ (w_low l D ks bx _ (w5) (16777216) ⟨by omega, by omega⟩ ⟨by omega, by omega⟩) (cwS 2 hts gL_law_L_low rfl rfl rfl (by decide +kernel) ⟨Nat.le_of_ble_eq_true rfl, Nat.le_of_ble_eq_true rfl⟩) (g_preS hG hS (fun _ h => h)) rfl rfl hl.1 rfl (lv_room (Nat.le_of_ble_eq_true rfl)) dL_law_178 ⟨by show cells + 0 + 0 + 0 ≤ room_1.cells; omega, by show slots + 0 + 0 + 0 ≤ room_1.slots; omega⟩) hS (fun q h => rx_ge q h) (fun _ _ _ _ _ h => h.elim) (fun v H locs hp hz9 hk9 hS => ?_)
  obtain ⟨rfl, hH9⟩ := hp
  obtain rfl := hH9.symm
  obtain ⟨x178, hx178, ex178⟩ : ∃ z : Int, (0 ≤ z ∧ z < (16777216)) ∧ z = (w5) % 2147483648 % (16777216) := ⟨_, ⟨Int.emod_nonneg _ (by omega), Int.emod_lt_of_pos _ (by omega)⟩, rfl⟩
  rw [← ex178]
  refine W.eq (g2 := F0 m 181 ls [.int (z2 (x178)), .long ((l2 (x165)) <<< ((z2 (24)).toInt64 &&& 63))]) rfl ?_
  refine lv_i2l (v := l2 (x178)) hx hb dL_law_181 (z2_l2 ⟨by omega, by omega⟩) ?_
  refine lv_lor hx hb dL_law_182 ?_
  refine lv_lconst (v := l2 1) hx hb dL_law_183 (by decide +kernel) ?_
  refine b_iconst hx hb dL_law_184 ?_
  refine lv_iload hx hb dL_law_185 (lv_at hl 0 rfl) ?_
  refine b_imul hx hb dL_law_187 ?_
  refine lv_lshl hx hb dL_law_188 rfl ?_
  refine lv_lconst (v := l2 1) hx hb dL_law_189 (by decide +kernel) ?_
  refine lv_lsub hx hb dL_law_190 ?_
  refine lv_land hx hb dL_law_191 ?_
  refine b_tn (tn_mask _ (c := cn) ⟨by omega, by omega⟩) (fun t ht => ?_)
  refine lv_lstore (lv' := [(12, .long (l2 t)), (11, .int (z2 (((cn : Nat) : Int)))), (0, .ref sb), (1, .ref bx), (2, .int (z2 (X 4 0))), (3, .int (z2 (1))), (4, .int (z2 (((tn : Nat) : Int)))), (5, .int (z2 (((q : Nat) : Int)))), (6, .int (z2 (v))), (7, .int (z2 (((n : Nat) : Int)))), (8, .int (z2 (((b : Nat) : Int)))), (9, .int (z2 (((k : Nat) : Int))))]) hx hb dL_law_192 hl (by decide) rfl (fun ls hl => ?_)
  refine lv_aload_n hx hb dL_law_194 rfl (lv_at hl 3 rfl) ?_
  refine lv_iload hx hb dL_law_195 (lv_at hl 9 rfl) ?_
  refine lv_iload hx hb dL_law_197 (lv_at hl 1 rfl) ?_
  refine lv_lload hx hb dL_law_199 (lv_at hl 0 rfl) ?_
  refine g_run (vx_runSX (As := [.ref bx, .int (z2 (((n : Nat) : Int))), .int (z2 (((cn : Nat) : Int))), .long (l2 t)]) (rest := []) ⟨hx, hb, hml, hown, hts⟩ (w_melody l D ks bx ml X _ hP hV hst n cn t hn ⟨by omega, by omega⟩ ht) (vx_cwSW 4 hts gL_law_L_melody rfl rfl rfl (by decide +kernel) ⟨Nat.le_of_ble_eq_true rfl, Nat.le_of_ble_eq_true rfl⟩) (g_preS hG hS (fun _ h => h)) rfl rfl hl.1 rfl (lv_room (Nat.le_of_ble_eq_true rfl)) dL_law_201 ⟨by show cells + 0 + 0 + 0 + 3 ≤ room_1.cells; omega, by show slots + 0 + 0 + 0 + 18 ≤ room_1.slots; omega⟩) hS (fun q h => rx_ge q h) (fun _ _ _ _ _ h => h.elim) (fun v H locs hp hz9 hk9 hS => ?_)
  rcases hp with ⟨p1, rfl, hP9⟩ | ⟨k9, p1, p2, rfl, a9, hP9⟩
  · have hP := hP9
    refine W.eq (g2 := F0 m 204 ls [.int (z2 (-3))]) rfl ?_
    refine lv_istore (lv' := [(14, .int (z2 ((-3)))), (12, .long (l2 t)), (11, .int (z2 (((cn : Nat) : Int)))), (0, .ref sb), (1, .ref bx), (2, .int (z2 (X 4 0))), (3, .int (z2 (1))), (4, .int (z2 (((tn : Nat) : Int)))), (5, .int (z2 (((q : Nat) : Int)))), (6, .int (z2 (v))), (7, .int (z2 (((n : Nat) : Int)))), (8, .int (z2 (((b : Nat) : Int)))), (9, .int (z2 (((k : Nat) : Int))))]) hx hb dL_law_204 hl (by decide) rfl (fun ls hl => ?_)
    refine lv_iload hx hb dL_law_206 (lv_at hl 0 rfl) ?_
    refine b_bipush hx hb dL_law_208 (by decide +kernel) ?_
    refine b_icmp_ne (tgt := 227) hx hb dL_law_210 (by decide) ⟨⟨by omega, by omega⟩, ⟨by omega, by omega⟩⟩ (fun c => absurd c (by omega)) (fun _ => ?_)
    refine lv_iload_n hx hb dL_law_213 rfl (lv_at hl 5 rfl) ?_
    refine b_bipush hx hb dL_law_214 (by decide +kernel) ?_
    refine b_icmp_ne (tgt := 223) hx hb dL_law_216 (by decide) ⟨⟨by omega, by omega⟩, ⟨by omega, by omega⟩⟩ (fun c => absurd c (by omega)) (fun _ => ?_)
    refine b_iconst hx hb dL_law_219 ?_
    refine lv_goto (tgt := 258) hx hb dL_law_220 (by decide) ?_
    refine lv_istore_n (lv' := [(3, .int (z2 (1))), (14, .int (z2 ((-3)))), (12, .long (l2 t)), (11, .int (z2 (((cn : Nat) : Int)))), (0, .ref sb), (1, .ref bx), (2, .int (z2 (X 4 0))), (4, .int (z2 (((tn : Nat) : Int)))), (5, .int (z2 (((q : Nat) : Int)))), (6, .int (z2 (v))), (7, .int (z2 (((n : Nat) : Int)))), (8, .int (z2 (((b : Nat) : Int)))), (9, .int (z2 (((k : Nat) : Int))))]) hx hb dL_law_258 rfl hl (by decide) rfl (fun ls hl => ?_)
    refine lv_iload_n hx hb dL_law_259 rfl (lv_at hl 6 rfl) ?_
    refine lv_iload hx hb dL_law_260 (lv_at hl 1 rfl) ?_
    refine b_bipush hx hb dL_law_262 (by decide +kernel) ?_
    refine b_icmp_ne (tgt := 271) hx hb dL_law_264 (by decide) ⟨⟨by omega, by omega⟩, ⟨by omega, by omega⟩⟩ (fun c => absurd c (by omega)) (fun _ => ?_)
    refine b_iconst hx hb dL_law_267 ?_
    refine lv_goto (tgt := 272) hx hb dL_law_268 (by decide) ?_
    refine b_iadd hx hb dL_law_272 ?_
    refine b_top (v := X 4 0) (congrArg z2 (by omega)) ?_
    refine lv_istore_n (lv' := [(2, .int (z2 (X 4 0))), (3, .int (z2 (1))), (14, .int (z2 ((-3)))), (12, .long (l2 t)), (11, .int (z2 (((cn : Nat) : Int)))), (0, .ref sb), (1, .ref bx), (4, .int (z2 (((tn : Nat) : Int)))), (5, .int (z2 (((q : Nat) : Int)))), (6, .int (z2 (v))), (7, .int (z2 (((n : Nat) : Int)))), (8, .int (z2 (((b : Nat) : Int)))), (9, .int (z2 (((k : Nat) : Int))))]) hx hb dL_law_273 rfl hl (by decide) rfl (fun ls hl => ?_)
    refine lv_goto (tgt := 721) hx hb dL_law_274 (by decide) ?_
    refine W.widen (k := cells + 200) (n := slots + 1200) (by show cells + 0 + 0 + 0 + 3 ≤ cells + 200; omega) (by show slots + 0 + 0 + 0 + 18 ≤ slots + 1200; omega) ?_
    exact kk _ _ _ _ _ (lv_N hL (by omega)) hP hS (lv_sub hl [5, 6, 0, 1, 7, 8] rfl)
  · have hP := hP9
    obtain ⟨f1, f2, f3⟩ := nx_f X k9 ((n : Nat) : Int) ((cn : Nat) : Int) t
    have hL1 := lv_add hL ⟨p1, p2⟩ (o := ((n : Nat) : Int)) (c := ((cn : Nat) : Int)) (t := t) ⟨by omega, by omega⟩ ⟨by omega, by omega⟩ (by rw [Int.toNat_natCast]; exact ht)
    obtain ⟨Y, hYe⟩ : ∃ Y, Y = nX X k9 ((n : Nat) : Int) ((cn : Nat) : Int) t := ⟨_, rfl⟩
    rw [← hYe] at hP f1 f2 f3 hL1
    clear hYe hP9
    refine W.eq (g2 := F0 m 204 ls [.int (z2 (((k9 : Nat) : Int)))]) rfl ?_
    refine lv_istore (lv' := [(14, .int (z2 (((k9 : Nat) : Int)))), (12, .long (l2 t)), (11, .int (z2 (((cn : Nat) : Int)))), (0, .ref sb), (1, .ref bx), (2, .int (z2 (X 4 0))), (3, .int (z2 (1))), (4, .int (z2 (((tn : Nat) : Int)))), (5, .int (z2 (((q : Nat) : Int)))), (6, .int (z2 (v))), (7, .int (z2 (((n : Nat) : Int)))), (8, .int (z2 (((b : Nat) : Int)))), (9, .int (z2 (((k : Nat) : Int))))]) hx hb dL_law_204 hl (by decide) rfl (fun ls hl => ?_)
    refine lv_iload hx hb dL_law_206 (lv_at hl 0 rfl) ?_
    refine b_bipush hx hb dL_law_208 (by decide +kernel) ?_
    refine b_icmp_ne (tgt := 227) hx hb dL_law_210 (by decide) ⟨⟨by omega, by omega⟩, ⟨by omega, by omega⟩⟩ (fun _ => ?_) (fun c => absurd c (by omega))
    refine lv_iload hx hb dL_law_227 (lv_at hl 0 rfl) ?_
    refine lv_iload_n hx hb dL_law_229 rfl (lv_at hl 5 rfl) ?_
    refine b_icmp_ne (tgt := 257) hx hb dL_law_230 (by decide) ⟨⟨by omega, by omega⟩, ⟨by omega, by omega⟩⟩ (fun c => absurd c (by omega)) (fun _ => ?_)
    refine lv_aload_n hx hb dL_law_233 rfl (lv_at hl 4 rfl) ?_
    refine lv_iload hx hb dL_law_234 (lv_at hl 0 rfl) ?_
    refine lv_iload hx hb dL_law_236 (lv_at hl 2 rfl) ?_
    refine lv_lload hx hb dL_law_238 (lv_at hl 1 rfl) ?_
    refine lv_iload hx hb dL_law_240 (lv_at hl 9 rfl) ?_
    refine b_bipush hx hb dL_law_242 (by decide +kernel) ?_
    refine g_run (vx_runS (As := [.int (z2 (v)), .int (z2 (16))]) (rest := [.long (l2 t), .int (z2 (((cn : Nat) : Int))), .int (z2 (((k9 : Nat) : Int))), .ref bx]) ⟨hx, hb, hml, hown, hts⟩ (w_low l D ks bx _ (v) (16) ⟨by omega, by omega⟩ ⟨by omega, by omega⟩) (cwS 2 hts gL_law_L_low rfl rfl rfl (by decide +kernel) ⟨Nat.le_of_ble_eq_true rfl, Nat.le_of_ble_eq_true rfl⟩) (g_preS hG hS (fun _ h => h)) rfl rfl hl.1 rfl (lv_room (Nat.le_of_ble_eq_true rfl)) dL_law_244 ⟨by show cells + 0 + 0 + 0 + 3 + 0 ≤ room_1.cells; omega, by show slots + 0 + 0 + 0 + 18 + 0 ≤ room_1.slots; omega⟩) hS (fun q h => rx_ge q h) (fun _ _ _ _ _ h => h.elim) (fun v H locs hp hz9 hk9 hS => ?_)
    obtain ⟨rfl, hH9⟩ := hp
    obtain rfl := hH9.symm
    obtain ⟨x244, hx244, ex244⟩ : ∃ z : Int, (0 ≤ z ∧ z < (16)) ∧ z = (v) % 2147483648 % (16) := ⟨_, ⟨Int.emod_nonneg _ (by omega), Int.emod_lt_of_pos _ (by omega)⟩, rfl⟩
    rw [← ex244]
    refine W.eq (g2 := F0 m 247 ls [.int (z2 (x244)), .long (l2 t), .int (z2 (((cn : Nat) : Int))), .int (z2 (((k9 : Nat) : Int))), .ref bx]) rfl ?_
    refine g_run (vx_runS (As := [.ref bx, .int (z2 (((k9 : Nat) : Int))), .int (z2 (((cn : Nat) : Int))), .long (l2 t), .int (z2 (x244))]) (rest := []) ⟨hx, hb, hml, hown, hts⟩ (w_melodies2 l D ks bx _ Y _ hP hL1.1 hst k9 cn (x244) t (by omega) f2 ⟨by omega, by omega⟩ f3) (cwS 5 hts gL_law_L_melodies rfl rfl rfl (by decide +kernel) ⟨Nat.le_of_ble_eq_true rfl, Nat.le_of_ble_eq_true rfl⟩) (g_preS hG hS (fun _ h => h)) rfl rfl hl.1 rfl (lv_room (Nat.le_of_ble_eq_true rfl)) dL_law_247 ⟨by show cells + 0 + 0 + 0 + 3 + 0 + 110 ≤ room_1.cells; omega, by show slots + 0 + 0 + 0 + 18 + 0 + 660 ≤ room_1.slots; omega⟩) hS (fun q h => rx_ge q h) (fun _ _ _ _ _ h => h.elim) (fun v H locs hp hz9 hk9 hS => ?_)
    obtain ⟨rfl, hP9⟩ := hp
    have hP := hP9
    refine W.eq (g2 := F0 m 250 ls [.int (z2 (1))]) rfl ?_
    refine b_if_eq (tgt := 257) hx hb dL_law_250 (by decide) ⟨by omega, by omega⟩ (fun c => absurd c (by omega)) (fun _ => ?_)
    refine b_iconst hx hb dL_law_253 ?_
    refine lv_goto (tgt := 258) hx hb dL_law_254 (by decide) ?_
    refine lv_istore_n (lv' := [(3, .int (z2 (1))), (14, .int (z2 (((k9 : Nat) : Int)))), (12, .long (l2 t)), (11, .int (z2 (((cn : Nat) : Int)))), (0, .ref sb), (1, .ref bx), (2, .int (z2 (X 4 0))), (4, .int (z2 (((tn : Nat) : Int)))), (5, .int (z2 (((q : Nat) : Int)))), (6, .int (z2 (v))), (7, .int (z2 (((n : Nat) : Int)))), (8, .int (z2 (((b : Nat) : Int)))), (9, .int (z2 (((k : Nat) : Int))))]) hx hb dL_law_258 rfl hl (by decide) rfl (fun ls hl => ?_)
    refine lv_iload_n hx hb dL_law_259 rfl (lv_at hl 6 rfl) ?_
    refine lv_iload hx hb dL_law_260 (lv_at hl 1 rfl) ?_
    refine b_bipush hx hb dL_law_262 (by decide +kernel) ?_
    refine b_icmp_ne (tgt := 271) hx hb dL_law_264 (by decide) ⟨⟨by omega, by omega⟩, ⟨by omega, by omega⟩⟩ (fun _ => ?_) (fun c => absurd c (by omega))
    refine b_iconst hx hb dL_law_271 ?_
    refine b_iadd hx hb dL_law_272 ?_
    refine b_top (v := Y 4 0) (congrArg z2 (by omega)) ?_
    refine lv_istore_n (lv' := [(2, .int (z2 (Y 4 0))), (3, .int (z2 (1))), (14, .int (z2 (((k9 : Nat) : Int)))), (12, .long (l2 t)), (11, .int (z2 (((cn : Nat) : Int)))), (0, .ref sb), (1, .ref bx), (4, .int (z2 (((tn : Nat) : Int)))), (5, .int (z2 (((q : Nat) : Int)))), (6, .int (z2 (v))), (7, .int (z2 (((n : Nat) : Int)))), (8, .int (z2 (((b : Nat) : Int)))), (9, .int (z2 (((k : Nat) : Int))))]) hx hb dL_law_273 rfl hl (by decide) rfl (fun ls hl => ?_)
    refine lv_goto (tgt := 721) hx hb dL_law_274 (by decide) ?_
    refine W.widen (k := cells + 200) (n := slots + 1200) (by show cells + 0 + 0 + 0 + 3 + 0 + 110 ≤ cells + 200; omega) (by show slots + 0 + 0 + 0 + 18 + 0 + 660 ≤ slots + 1200; omega) ?_
    exact kk _ _ _ _ _ (lv_N hL1 (by omega)) hP hS (lv_sub hl [5, 6, 0, 1, 7, 8] rfl)
set_option maxHeartbeats 4000000 in
set_option maxRecDepth 100000 in
theorem c_license {p : Program} {e : Env} {s : State} {m : MethodId} {below : List Frame} {meth : Method} {c : Code} (l : Launch) (hst : l.stackTraces = false) {D : va_G} {ks : Nat → ClassId} {sb bx nL q tn : Nat} {v : Int} {n b k : Nat} {xs : Nat → Int32} {Q : State → Prop} (hx : p.tables.exec = Jvm.exec) (hb : c.code = cL_law) (hml : c.maxLocals = 15) (hown : s.vm.findClass RL = some m.cls) (hts : ∀ w ∈ wsL_law, w.before #[Value.ref sb] s = true) (hX : va_X sb nL xs s s.heap) (hbl : sb < s.heap.size) (hG : GE D ks bx s) (hbb : sb < bx) (hnL : nL ≤ 260) (hq : q < 56) {H : Heap} {locs : List Loc} {ls : Array Slot} {cells slots : Nat} (hcs : cells + 1000 ≤ room_1.cells ∧ slots + 6000 ≤ room_1.slots) {ml : Nat → Nat} {X : Nat → Nat → Int} (hL : LV q X) (hP : PX D ks bx ml X H) (hS : va_S (AR (RC bx) s.heap.size) s.heap H locs) (hl : lv_has ls 15 [(0, .ref sb), (1, .ref bx), (2, .int (z2 (X 4 0))), (3, .int (z2 (1))), (4, .int (z2 (((tn : Nat) : Int)))), (5, .int (z2 (((q : Nat) : Int)))), (6, .int (z2 (v))), (7, .int (z2 (((n : Nat) : Int)))), (8, .int (z2 (((b : Nat) : Int)))), (9, .int (z2 (((k : Nat) : Int))))])
    (hv : -2147483648 ≤ v ∧ v < 2147483648) (hn : n < 8) (hb3 : b < 3) (hk : (k : Int) < X 4 0) (kk : ∀ (ml1 : Nat → Nat) (X1 : Nat → Nat → Int) (H1 : Heap) (locs1 : List Loc) (ls1 : Array Slot), LV (q + 1) X1 → PX D ks bx ml1 X1 H1 → va_S (AR (RC bx) s.heap.size) s.heap H1 locs1 → lv_has ls1 15 [(0, .ref sb), (1, .ref bx), (2, .int (z2 (X1 4 0))), (3, .int (z2 (1))), (4, .int (z2 (((tn : Nat) : Int)))), (5, .int (z2 (((q : Nat) : Int))))] → W p l e room_1 s m #[Value.ref sb] below meth c H1 locs1 (cells + 200) (slots + 1200) Q (F0 m 721 ls1 [])) :
    W p l e room_1 s m #[Value.ref sb] below meth c H locs cells slots Q (F0 m 283 ls []) := by
  obtain ⟨hV, hT, hY⟩ := id hL
  have b4 : 0 ≤ X 4 0 ∧ X 4 0 ≤ 12 := hV.1 4 0 rfl
  have b6 : 0 ≤ X 6 0 ∧ X 6 0 ≤ 1000000 := hV.1 6 0 rfl
  obtain ⟨w11, hw11, ew11⟩ := z2_ex ((z2 v) >>> ((z2 11) &&& 31))
  have b23 : 0 ≤ X 23 (12 * n + k) ∧ X 23 (12 * n + k) ≤ 1000 := hV.1 23 _ rfl
  refine lv_aload_n hx hb dL_law_283 rfl (lv_at hl 1 rfl) ?_
  refine lv_iload hx hb dL_law_284 (lv_at hl 7 rfl) ?_
  refine lv_iload hx hb dL_law_286 (lv_at hl 9 rfl) ?_
  refine g_run (vx_runV (As := [.int (z2 (((n : Nat) : Int))), .int (z2 (((k : Nat) : Int)))]) (rest := []) ⟨hx, hb, hml, hown, hts⟩ (k_ringsLeft l D ks bx _ X _ hP hV hst ((n : Nat) : Int) ((k : Nat) : Int) ⟨by omega, by omega⟩ ⟨by omega, by omega⟩) (cwV 2 hts gL_law_X4_ringsLeft rfl rfl rfl (by decide +kernel) ⟨Nat.le_of_ble_eq_true rfl, Nat.le_of_ble_eq_true rfl⟩) (g_preV (r := (RX4, TX4, 7)) hG hS (fun _ h => h) hP.1 rfl) rfl rfl hl.1 rfl (lv_room (Nat.le_of_ble_eq_true rfl)) dL_law_288 ⟨by show cells + 2 ≤ room_1.cells; omega, by show slots + 12 ≤ room_1.slots; omega⟩) hS (fun q h => rx_ge q h) (fun E ce q9 H1 locs1 hp hz9 hk9 hS hce hcv hcl => by obtain ⟨-, e9⟩ := hp; exfalso; have h9 := e9.2; omega) (fun v H locs hp hz9 hk9 hS => ?_)
  obtain ⟨n9, k9, ⟨⟨a1, a2⟩, a3, a4⟩, rfl, hH9⟩ := hp
  obtain rfl := hH9.symm
  obtain rfl : n = n9 := by omega
  obtain rfl : k = k9 := by omega
  obtain ⟨y288, ey288, dy288⟩ : ∃ z : Int, z = (if X 36 k = n then -1 else X 23 (12 * n + k)) ∧ ((X 36 k = n ∧ z = -1) ∨ (X 36 k ≠ n ∧ z = X 23 (12 * n + k))) := ⟨_, rfl, by split <;> omega⟩
  rw [← ey288]
  refine W.eq (g2 := F0 m 291 ls [.int (z2 (y288))]) rfl ?_
  refine lv_istore (lv' := [(11, .int (z2 (y288))), (0, .ref sb), (1, .ref bx), (2, .int (z2 (X 4 0))), (3, .int (z2 (1))), (4, .int (z2 (((tn : Nat) : Int)))), (5, .int (z2 (((q : Nat) : Int)))), (6, .int (z2 (v))), (7, .int (z2 (((n : Nat) : Int)))), (8, .int (z2 (((b : Nat) : Int)))), (9, .int (z2 (((k : Nat) : Int))))]) hx hb dL_law_291 hl (by decide) rfl (fun ls hl => ?_)
  refine b_iconst hx hb dL_law_293 ?_
  refine lv_iload hx hb dL_law_294 (lv_at hl 7 rfl) ?_
  refine lv_iload hx hb dL_law_296 (lv_at hl 7 rfl) ?_
  refine b_bipush hx hb dL_law_298 (by decide +kernel) ?_
  refine lv_ishr hx hb dL_law_300 ?_
  refine b_top (v := w11) ew11 ?_
  refine b_iconst hx hb dL_law_301 ?_
  refine g_run (vx_runS (As := [.int (z2 (w11)), .int (z2 (2))]) (rest := [.int (z2 (v)), .int (z2 (1))]) ⟨hx, hb, hml, hown, hts⟩ (w_low l D ks bx _ (w11) (2) ⟨by omega, by omega⟩ ⟨by omega, by omega⟩) (cwS 2 hts gL_law_L_low rfl rfl rfl (by decide +kernel) ⟨Nat.le_of_ble_eq_true rfl, Nat.le_of_ble_eq_true rfl⟩) (g_preS hG hS (fun _ h => h)) rfl rfl hl.1 rfl (lv_room (Nat.le_of_ble_eq_true rfl)) dL_law_302 ⟨by show cells + 2 + 0 ≤ room_1.cells; omega, by show slots + 12 + 0 ≤ room_1.slots; omega⟩) hS (fun q h => rx_ge q h) (fun _ _ _ _ _ h => h.elim) (fun v H locs hp hz9 hk9 hS => ?_)
  obtain ⟨rfl, hH9⟩ := hp
  obtain rfl := hH9.symm
  obtain ⟨x302, hx302, ex302⟩ : ∃ z : Int, (0 ≤ z ∧ z < (2)) ∧ z = (w11) % 2147483648 % (2) := ⟨_, ⟨Int.emod_nonneg _ (by omega), Int.emod_lt_of_pos _ (by omega)⟩, rfl⟩
  rw [← ex302]
  refine W.eq (g2 := F0 m 305 ls [.int (z2 (x302)), .int (z2 (v)), .int (z2 (1))]) rfl ?_
  refine b_if_ne (tgt := 314) hx hb dL_law_305 (by decide) ⟨by omega, by omega⟩ (fun c_305 => ?_) (fun c_305 => ?_)
  · skip
    refine b_iconst hx hb dL_law_314 ?_
    refine g_run (vx_runS (As := [.int (z2 (v)), .int (z2 (3))]) (rest := [.int (z2 (1))]) ⟨hx, hb, hml, hown, hts⟩ (w_low l D ks bx _ (v) (3) ⟨by omega, by omega⟩ ⟨by omega, by omega⟩) (cwS 2 hts gL_law_L_low rfl rfl rfl (by decide +kernel) ⟨Nat.le_of_ble_eq_true rfl, Nat.le_of_ble_eq_true rfl⟩) (g_preS hG hS (fun _ h => h)) rfl rfl hl.1 rfl (lv_room (Nat.le_of_ble_eq_true rfl)) dL_law_315 ⟨by show cells + 2 + 0 + 0 ≤ room_1.cells; omega, by show slots + 12 + 0 + 0 ≤ room_1.slots; omega⟩) hS (fun q h => rx_ge q h) (fun _ _ _ _ _ h => h.elim) (fun v H locs hp hz9 hk9 hS => ?_)
    obtain ⟨rfl, hH9⟩ := hp
    obtain rfl := hH9.symm
    obtain ⟨x315, hx315, ex315⟩ : ∃ z : Int, (0 ≤ z ∧ z < (3)) ∧ z = (v) % 2147483648 % (3) := ⟨_, ⟨Int.emod_nonneg _ (by omega), Int.emod_lt_of_pos _ (by omega)⟩, rfl⟩
    rw [← ex315]
    refine W.eq (g2 := F0 m 318 ls [.int (z2 (x315)), .int (z2 (1))]) rfl ?_
    refine b_iadd hx hb dL_law_318 ?_
    obtain ⟨r9, hr9⟩ : ∃ r9 : Int, 1 + x315 = r9 := ⟨_, rfl⟩
    refine b_top (v := r9) (congrArg z2 hr9) ?_
    refine lv_istore (lv' := [(12, .int (z2 (r9))), (11, .int (z2 (y288))), (0, .ref sb), (1, .ref bx), (2, .int (z2 (X 4 0))), (3, .int (z2 (1))), (4, .int (z2 (((tn : Nat) : Int)))), (5, .int (z2 (((q : Nat) : Int)))), (6, .int (z2 (v))), (7, .int (z2 (((n : Nat) : Int)))), (8, .int (z2 (((b : Nat) : Int)))), (9, .int (z2 (((k : Nat) : Int))))]) hx hb dL_law_319 hl (by decide) rfl (fun ls hl => ?_)
    refine lv_aload_n hx hb dL_law_321 rfl (lv_at hl 3 rfl) ?_
    refine lv_iload hx hb dL_law_322 (lv_at hl 9 rfl) ?_
    refine lv_iload hx hb dL_law_324 (lv_at hl 11 rfl) ?_
    refine lv_iload hx hb dL_law_326 (lv_at hl 0 rfl) ?_
    refine g_run (vx_runSX (As := [.ref bx, .int (z2 (((n : Nat) : Int))), .int (z2 (((k : Nat) : Int))), .int (z2 (r9))]) (rest := []) ⟨hx, hb, hml, hown, hts⟩ (w_license l D ks bx ml X _ hP hV hst n k r9 hn hk ⟨by omega, by omega⟩) (vx_cwSW 4 hts gL_law_L_license rfl rfl rfl (by decide +kernel) ⟨Nat.le_of_ble_eq_true rfl, Nat.le_of_ble_eq_true rfl⟩) (g_preS hG hS (fun _ h => h)) rfl rfl hl.1 rfl (lv_room (Nat.le_of_ble_eq_true rfl)) dL_law_328 ⟨by show cells + 2 + 0 + 0 + 3 ≤ room_1.cells; omega, by show slots + 12 + 0 + 0 + 18 ≤ room_1.slots; omega⟩) hS (fun q h => rx_ge q h) (fun _ _ _ _ _ h => h.elim) (fun v H locs hp hz9 hk9 hS => ?_)
    rcases hp with ⟨p1, rfl, hP9⟩ | ⟨p1, p2, rfl, hP9⟩
    · have hP := hP9
      refine W.eq (g2 := F0 m 331 ls [.int (z2 (-3))]) rfl ?_
      refine lv_istore (lv' := [(13, .int (z2 ((-3)))), (12, .int (z2 (r9))), (11, .int (z2 (y288))), (0, .ref sb), (1, .ref bx), (2, .int (z2 (X 4 0))), (3, .int (z2 (1))), (4, .int (z2 (((tn : Nat) : Int)))), (5, .int (z2 (((q : Nat) : Int)))), (6, .int (z2 (v))), (7, .int (z2 (((n : Nat) : Int)))), (8, .int (z2 (((b : Nat) : Int)))), (9, .int (z2 (((k : Nat) : Int))))]) hx hb dL_law_331 hl (by decide) rfl (fun ls hl => ?_)
      refine lv_iload hx hb dL_law_333 (lv_at hl 0 rfl) ?_
      refine b_bipush hx hb dL_law_335 (by decide +kernel) ?_
      refine b_icmp_ne (tgt := 365) hx hb dL_law_337 (by decide) ⟨⟨by omega, by omega⟩, ⟨by omega, by omega⟩⟩ (fun c => absurd c (by omega)) (fun _ => ?_)
      refine lv_iload hx hb dL_law_340 (lv_at hl 2 rfl) ?_
      refine b_iconst hx hb dL_law_342 ?_
      refine b_icmp_eq (tgt := 357) hx hb dL_law_343 (by decide) ⟨⟨by omega, by omega⟩, ⟨by omega, by omega⟩⟩ (fun c_343 => ?_) (fun c_343 => ?_)
      · skip
        refine b_iconst hx hb dL_law_357 ?_
        refine lv_goto (tgt := 393) hx hb dL_law_358 (by decide) ?_
        refine lv_istore_n (lv' := [(3, .int (z2 (1))), (13, .int (z2 ((-3)))), (12, .int (z2 (r9))), (11, .int (z2 (y288))), (0, .ref sb), (1, .ref bx), (2, .int (z2 (X 4 0))), (4, .int (z2 (((tn : Nat) : Int)))), (5, .int (z2 (((q : Nat) : Int)))), (6, .int (z2 (v))), (7, .int (z2 (((n : Nat) : Int)))), (8, .int (z2 (((b : Nat) : Int)))), (9, .int (z2 (((k : Nat) : Int))))]) hx hb dL_law_393 rfl hl (by decide) rfl (fun ls hl => ?_)
        refine lv_goto (tgt := 721) hx hb dL_law_394 (by decide) ?_
        refine W.widen (k := cells + 200) (n := slots + 1200) (by show cells + 2 + 0 + 0 + 3 ≤ cells + 200; omega) (by show slots + 12 + 0 + 0 + 18 ≤ slots + 1200; omega) ?_
        exact kk _ _ _ _ _ (lv_N hL (by omega)) hP hS (lv_sub hl [4, 5, 6, 0, 7, 8] rfl)
      · skip
        refine lv_iload hx hb dL_law_346 (lv_at hl 2 rfl) ?_
        refine lv_iload hx hb dL_law_348 (lv_at hl 1 rfl) ?_
        refine b_iadd hx hb dL_law_350 ?_
        refine b_sipush hx hb dL_law_351 (by decide +kernel) ?_
        refine b_icmp_le (tgt := 361) hx hb dL_law_354 (by decide) ⟨⟨by omega, by omega⟩, ⟨by omega, by omega⟩⟩ (fun c => absurd c (by omega)) (fun _ => ?_)
        refine b_iconst hx hb dL_law_357 ?_
        refine lv_goto (tgt := 393) hx hb dL_law_358 (by decide) ?_
        refine lv_istore_n (lv' := [(3, .int (z2 (1))), (13, .int (z2 ((-3)))), (12, .int (z2 (r9))), (11, .int (z2 (y288))), (0, .ref sb), (1, .ref bx), (2, .int (z2 (X 4 0))), (4, .int (z2 (((tn : Nat) : Int)))), (5, .int (z2 (((q : Nat) : Int)))), (6, .int (z2 (v))), (7, .int (z2 (((n : Nat) : Int)))), (8, .int (z2 (((b : Nat) : Int)))), (9, .int (z2 (((k : Nat) : Int))))]) hx hb dL_law_393 rfl hl (by decide) rfl (fun ls hl => ?_)
        refine lv_goto (tgt := 721) hx hb dL_law_394 (by decide) ?_
        refine W.widen (k := cells + 200) (n := slots + 1200) (by show cells + 2 + 0 + 0 + 3 ≤ cells + 200; omega) (by show slots + 12 + 0 + 0 + 18 ≤ slots + 1200; omega) ?_
        exact kk _ _ _ _ _ (lv_N hL (by omega)) hP hS (lv_sub hl [4, 5, 6, 0, 7, 8] rfl)
    · have hP := hP9
      have hL1 := lv_lic hL (i := 12 * n + k) (v := X 23 (12 * n + k) + r9) ⟨by omega, by omega⟩
      have f4 : up X 23 (12 * n + k) (X 23 (12 * n + k) + r9) 4 0 = X 4 0 := up_f _ _ _ _ (by decide)
      have f36 : up X 23 (12 * n + k) (X 23 (12 * n + k) + r9) 36 k = X 36 k := up_f _ _ _ _ (by decide)
      have f23 : up X 23 (12 * n + k) (X 23 (12 * n + k) + r9) 23 (12 * n + k) = X 23 (12 * n + k) + r9 := up_s _ _ _ _
      obtain ⟨Y, hYe⟩ : ∃ Y, Y = up X 23 (12 * n + k) (X 23 (12 * n + k) + r9) := ⟨_, rfl⟩
      rw [← hYe] at hP f4 f36 f23 hL1
      clear hYe hP9
      refine W.eq (g2 := F0 m 331 ls [.int (z2 (X 23 (12 * n + k) + r9))]) rfl ?_
      refine lv_istore (lv' := [(13, .int (z2 (X 23 (12 * n + k) + r9))), (12, .int (z2 (r9))), (11, .int (z2 (y288))), (0, .ref sb), (1, .ref bx), (2, .int (z2 (X 4 0))), (3, .int (z2 (1))), (4, .int (z2 (((tn : Nat) : Int)))), (5, .int (z2 (((q : Nat) : Int)))), (6, .int (z2 (v))), (7, .int (z2 (((n : Nat) : Int)))), (8, .int (z2 (((b : Nat) : Int)))), (9, .int (z2 (((k : Nat) : Int))))]) hx hb dL_law_331 hl (by decide) rfl (fun ls hl => ?_)
      refine lv_iload hx hb dL_law_333 (lv_at hl 0 rfl) ?_
      refine b_bipush hx hb dL_law_335 (by decide +kernel) ?_
      refine b_icmp_ne (tgt := 365) hx hb dL_law_337 (by decide) ⟨⟨by omega, by omega⟩, ⟨by omega, by omega⟩⟩ (fun _ => ?_) (fun c => absurd c (by omega))
      refine lv_iload hx hb dL_law_365 (lv_at hl 0 rfl) ?_
      refine lv_iload hx hb dL_law_367 (lv_at hl 2 rfl) ?_
      refine lv_iload hx hb dL_law_369 (lv_at hl 1 rfl) ?_
      refine b_iadd hx hb dL_law_371 ?_
      refine b_icmp_ne (tgt := 392) hx hb dL_law_372 (by decide) ⟨⟨by omega, by omega⟩, ⟨by omega, by omega⟩⟩ (fun c => absurd c (by omega)) (fun _ => ?_)
      refine lv_aload_n hx hb dL_law_375 rfl (lv_at hl 4 rfl) ?_
      refine lv_iload hx hb dL_law_376 (lv_at hl 10 rfl) ?_
      refine lv_iload hx hb dL_law_378 (lv_at hl 12 rfl) ?_
      refine g_run (vx_runV (As := [.int (z2 (((n : Nat) : Int))), .int (z2 (((k : Nat) : Int)))]) (rest := []) ⟨hx, hb, hml, hown, hts⟩ (k_ringsLeft l D ks bx _ Y _ hP hL1.1 hst ((n : Nat) : Int) ((k : Nat) : Int) ⟨by omega, by omega⟩ ⟨by omega, by omega⟩) (cwV 2 hts gL_law_X4_ringsLeft rfl rfl rfl (by decide +kernel) ⟨Nat.le_of_ble_eq_true rfl, Nat.le_of_ble_eq_true rfl⟩) (g_preV (r := (RX4, TX4, 7)) hG hS (fun _ h => h) hP.1 rfl) rfl rfl hl.1 rfl (lv_room (Nat.le_of_ble_eq_true rfl)) dL_law_380 ⟨by show cells + 2 + 0 + 0 + 3 + 2 ≤ room_1.cells; omega, by show slots + 12 + 0 + 0 + 18 + 12 ≤ room_1.slots; omega⟩) hS (fun q h => rx_ge q h) (fun E ce q9 H1 locs1 hp hz9 hk9 hS hce hcv hcl => by obtain ⟨-, e9⟩ := hp; exfalso; have h9 := e9.2; omega) (fun v H locs hp hz9 hk9 hS => ?_)
      obtain ⟨n9, k9, ⟨⟨a1, a2⟩, a3, a4⟩, rfl, hH9⟩ := hp
      obtain rfl := hH9.symm
      obtain rfl : n = n9 := by omega
      obtain rfl : k = k9 := by omega
      obtain ⟨y380, ey380, dy380⟩ : ∃ z : Int, z = (if Y 36 k = n then -1 else Y 23 (12 * n + k)) ∧ ((Y 36 k = n ∧ z = -1) ∨ (Y 36 k ≠ n ∧ z = Y 23 (12 * n + k))) := ⟨_, rfl, by split <;> omega⟩
      rw [← ey380]
      refine W.eq (g2 := F0 m 383 ls [.int (z2 (y380))]) rfl ?_
      refine lv_iload hx hb dL_law_383 (lv_at hl 0 rfl) ?_
      refine b_icmp_ne (tgt := 392) hx hb dL_law_385 (by decide) ⟨⟨by omega, by omega⟩, ⟨by omega, by omega⟩⟩ (fun c => absurd c (by omega)) (fun _ => ?_)
      refine b_iconst hx hb dL_law_388 ?_
      refine lv_goto (tgt := 393) hx hb dL_law_389 (by decide) ?_
      refine lv_istore_n (lv' := [(3, .int (z2 (1))), (13, .int (z2 (X 23 (12 * n + k) + r9))), (12, .int (z2 (r9))), (11, .int (z2 (y288))), (0, .ref sb), (1, .ref bx), (2, .int (z2 (X 4 0))), (4, .int (z2 (((tn : Nat) : Int)))), (5, .int (z2 (((q : Nat) : Int)))), (6, .int (z2 (v))), (7, .int (z2 (((n : Nat) : Int)))), (8, .int (z2 (((b : Nat) : Int)))), (9, .int (z2 (((k : Nat) : Int))))]) hx hb dL_law_393 rfl hl (by decide) rfl (fun ls hl => ?_)
      refine lv_goto (tgt := 721) hx hb dL_law_394 (by decide) ?_
      refine W.widen (k := cells + 200) (n := slots + 1200) (by show cells + 2 + 0 + 0 + 3 + 2 ≤ cells + 200; omega) (by show slots + 12 + 0 + 0 + 18 + 12 ≤ slots + 1200; omega) ?_
      exact kk _ _ _ _ _ (lv_N hL1 (by omega)) hP hS ((by rw [f4]; exact lv_sub hl [4, 5, 6, 0, 7, 8] rfl))
  · skip
    refine b_sipush hx hb dL_law_308 (by decide +kernel) ?_
    refine lv_goto (tgt := 315) hx hb dL_law_311 (by decide) ?_
    refine g_run (vx_runS (As := [.int (z2 (v)), .int (z2 (1000))]) (rest := [.int (z2 (1))]) ⟨hx, hb, hml, hown, hts⟩ (w_low l D ks bx _ (v) (1000) ⟨by omega, by omega⟩ ⟨by omega, by omega⟩) (cwS 2 hts gL_law_L_low rfl rfl rfl (by decide +kernel) ⟨Nat.le_of_ble_eq_true rfl, Nat.le_of_ble_eq_true rfl⟩) (g_preS hG hS (fun _ h => h)) rfl rfl hl.1 rfl (lv_room (Nat.le_of_ble_eq_true rfl)) dL_law_315 ⟨by show cells + 2 + 0 + 0 ≤ room_1.cells; omega, by show slots + 12 + 0 + 0 ≤ room_1.slots; omega⟩) hS (fun q h => rx_ge q h) (fun _ _ _ _ _ h => h.elim) (fun v H locs hp hz9 hk9 hS => ?_)
    obtain ⟨rfl, hH9⟩ := hp
    obtain rfl := hH9.symm
    obtain ⟨x315, hx315, ex315⟩ : ∃ z : Int, (0 ≤ z ∧ z < (1000)) ∧ z = (v) % 2147483648 % (1000) := ⟨_, ⟨Int.emod_nonneg _ (by omega), Int.emod_lt_of_pos _ (by omega)⟩, rfl⟩
    rw [← ex315]
    refine W.eq (g2 := F0 m 318 ls [.int (z2 (x315)), .int (z2 (1))]) rfl ?_
    refine b_iadd hx hb dL_law_318 ?_
    obtain ⟨r9, hr9⟩ : ∃ r9 : Int, 1 + x315 = r9 := ⟨_, rfl⟩
    refine b_top (v := r9) (congrArg z2 hr9) ?_
    refine lv_istore (lv' := [(12, .int (z2 (r9))), (11, .int (z2 (y288))), (0, .ref sb), (1, .ref bx), (2, .int (z2 (X 4 0))), (3, .int (z2 (1))), (4, .int (z2 (((tn : Nat) : Int)))), (5, .int (z2 (((q : Nat) : Int)))), (6, .int (z2 (v))), (7, .int (z2 (((n : Nat) : Int)))), (8, .int (z2 (((b : Nat) : Int)))), (9, .int (z2 (((k : Nat) : Int))))]) hx hb dL_law_319 hl (by decide) rfl (fun ls hl => ?_)
    refine lv_aload_n hx hb dL_law_321 rfl (lv_at hl 3 rfl) ?_
    refine lv_iload hx hb dL_law_322 (lv_at hl 9 rfl) ?_
    refine lv_iload hx hb dL_law_324 (lv_at hl 11 rfl) ?_
    refine lv_iload hx hb dL_law_326 (lv_at hl 0 rfl) ?_
    refine g_run (vx_runSX (As := [.ref bx, .int (z2 (((n : Nat) : Int))), .int (z2 (((k : Nat) : Int))), .int (z2 (r9))]) (rest := []) ⟨hx, hb, hml, hown, hts⟩ (w_license l D ks bx ml X _ hP hV hst n k r9 hn hk ⟨by omega, by omega⟩) (vx_cwSW 4 hts gL_law_L_license rfl rfl rfl (by decide +kernel) ⟨Nat.le_of_ble_eq_true rfl, Nat.le_of_ble_eq_true rfl⟩) (g_preS hG hS (fun _ h => h)) rfl rfl hl.1 rfl (lv_room (Nat.le_of_ble_eq_true rfl)) dL_law_328 ⟨by show cells + 2 + 0 + 0 + 3 ≤ room_1.cells; omega, by show slots + 12 + 0 + 0 + 18 ≤ room_1.slots; omega⟩) hS (fun q h => rx_ge q h) (fun _ _ _ _ _ h => h.elim) (fun v H locs hp hz9 hk9 hS => ?_)
    rcases hp with ⟨p1, rfl, hP9⟩ | ⟨p1, p2, rfl, hP9⟩
    · have hP := hP9
      refine W.eq (g2 := F0 m 331 ls [.int (z2 (-3))]) rfl ?_
      refine lv_istore (lv' := [(13, .int (z2 ((-3)))), (12, .int (z2 (r9))), (11, .int (z2 (y288))), (0, .ref sb), (1, .ref bx), (2, .int (z2 (X 4 0))), (3, .int (z2 (1))), (4, .int (z2 (((tn : Nat) : Int)))), (5, .int (z2 (((q : Nat) : Int)))), (6, .int (z2 (v))), (7, .int (z2 (((n : Nat) : Int)))), (8, .int (z2 (((b : Nat) : Int)))), (9, .int (z2 (((k : Nat) : Int))))]) hx hb dL_law_331 hl (by decide) rfl (fun ls hl => ?_)
      refine lv_iload hx hb dL_law_333 (lv_at hl 0 rfl) ?_
      refine b_bipush hx hb dL_law_335 (by decide +kernel) ?_
      refine b_icmp_ne (tgt := 365) hx hb dL_law_337 (by decide) ⟨⟨by omega, by omega⟩, ⟨by omega, by omega⟩⟩ (fun c => absurd c (by omega)) (fun _ => ?_)
      refine lv_iload hx hb dL_law_340 (lv_at hl 2 rfl) ?_
      refine b_iconst hx hb dL_law_342 ?_
      refine b_icmp_eq (tgt := 357) hx hb dL_law_343 (by decide) ⟨⟨by omega, by omega⟩, ⟨by omega, by omega⟩⟩ (fun c_343 => ?_) (fun c_343 => ?_)
      · skip
        refine b_iconst hx hb dL_law_357 ?_
        refine lv_goto (tgt := 393) hx hb dL_law_358 (by decide) ?_
        refine lv_istore_n (lv' := [(3, .int (z2 (1))), (13, .int (z2 ((-3)))), (12, .int (z2 (r9))), (11, .int (z2 (y288))), (0, .ref sb), (1, .ref bx), (2, .int (z2 (X 4 0))), (4, .int (z2 (((tn : Nat) : Int)))), (5, .int (z2 (((q : Nat) : Int)))), (6, .int (z2 (v))), (7, .int (z2 (((n : Nat) : Int)))), (8, .int (z2 (((b : Nat) : Int)))), (9, .int (z2 (((k : Nat) : Int))))]) hx hb dL_law_393 rfl hl (by decide) rfl (fun ls hl => ?_)
        refine lv_goto (tgt := 721) hx hb dL_law_394 (by decide) ?_
        refine W.widen (k := cells + 200) (n := slots + 1200) (by show cells + 2 + 0 + 0 + 3 ≤ cells + 200; omega) (by show slots + 12 + 0 + 0 + 18 ≤ slots + 1200; omega) ?_
        exact kk _ _ _ _ _ (lv_N hL (by omega)) hP hS (lv_sub hl [4, 5, 6, 0, 7, 8] rfl)
      · skip
        refine lv_iload hx hb dL_law_346 (lv_at hl 2 rfl) ?_
        refine lv_iload hx hb dL_law_348 (lv_at hl 1 rfl) ?_
        refine b_iadd hx hb dL_law_350 ?_
        refine b_sipush hx hb dL_law_351 (by decide +kernel) ?_
        refine b_icmp_le (tgt := 361) hx hb dL_law_354 (by decide) ⟨⟨by omega, by omega⟩, ⟨by omega, by omega⟩⟩ (fun c => absurd c (by omega)) (fun _ => ?_)
        refine b_iconst hx hb dL_law_357 ?_
        refine lv_goto (tgt := 393) hx hb dL_law_358 (by decide) ?_
        refine lv_istore_n (lv' := [(3, .int (z2 (1))), (13, .int (z2 ((-3)))), (12, .int (z2 (r9))), (11, .int (z2 (y288))), (0, .ref sb), (1, .ref bx), (2, .int (z2 (X 4 0))), (4, .int (z2 (((tn : Nat) : Int)))), (5, .int (z2 (((q : Nat) : Int)))), (6, .int (z2 (v))), (7, .int (z2 (((n : Nat) : Int)))), (8, .int (z2 (((b : Nat) : Int)))), (9, .int (z2 (((k : Nat) : Int))))]) hx hb dL_law_393 rfl hl (by decide) rfl (fun ls hl => ?_)
        refine lv_goto (tgt := 721) hx hb dL_law_394 (by decide) ?_
        refine W.widen (k := cells + 200) (n := slots + 1200) (by show cells + 2 + 0 + 0 + 3 ≤ cells + 200; omega) (by show slots + 12 + 0 + 0 + 18 ≤ slots + 1200; omega) ?_
        exact kk _ _ _ _ _ (lv_N hL (by omega)) hP hS (lv_sub hl [4, 5, 6, 0, 7, 8] rfl)
    · have hP := hP9
      have hL1 := lv_lic hL (i := 12 * n + k) (v := X 23 (12 * n + k) + r9) ⟨by omega, by omega⟩
      have f4 : up X 23 (12 * n + k) (X 23 (12 * n + k) + r9) 4 0 = X 4 0 := up_f _ _ _ _ (by decide)
      have f36 : up X 23 (12 * n + k) (X 23 (12 * n + k) + r9) 36 k = X 36 k := up_f _ _ _ _ (by decide)
      have f23 : up X 23 (12 * n + k) (X 23 (12 * n + k) + r9) 23 (12 * n + k) = X 23 (12 * n + k) + r9 := up_s _ _ _ _
      obtain ⟨Y, hYe⟩ : ∃ Y, Y = up X 23 (12 * n + k) (X 23 (12 * n + k) + r9) := ⟨_, rfl⟩
      rw [← hYe] at hP f4 f36 f23 hL1
      clear hYe hP9
      refine W.eq (g2 := F0 m 331 ls [.int (z2 (X 23 (12 * n + k) + r9))]) rfl ?_
      refine lv_istore (lv' := [(13, .int (z2 (X 23 (12 * n + k) + r9))), (12, .int (z2 (r9))), (11, .int (z2 (y288))), (0, .ref sb), (1, .ref bx), (2, .int (z2 (X 4 0))), (3, .int (z2 (1))), (4, .int (z2 (((tn : Nat) : Int)))), (5, .int (z2 (((q : Nat) : Int)))), (6, .int (z2 (v))), (7, .int (z2 (((n : Nat) : Int)))), (8, .int (z2 (((b : Nat) : Int)))), (9, .int (z2 (((k : Nat) : Int))))]) hx hb dL_law_331 hl (by decide) rfl (fun ls hl => ?_)
      refine lv_iload hx hb dL_law_333 (lv_at hl 0 rfl) ?_
      refine b_bipush hx hb dL_law_335 (by decide +kernel) ?_
      refine b_icmp_ne (tgt := 365) hx hb dL_law_337 (by decide) ⟨⟨by omega, by omega⟩, ⟨by omega, by omega⟩⟩ (fun _ => ?_) (fun c => absurd c (by omega))
      refine lv_iload hx hb dL_law_365 (lv_at hl 0 rfl) ?_
      refine lv_iload hx hb dL_law_367 (lv_at hl 2 rfl) ?_
      refine lv_iload hx hb dL_law_369 (lv_at hl 1 rfl) ?_
      refine b_iadd hx hb dL_law_371 ?_
      refine b_icmp_ne (tgt := 392) hx hb dL_law_372 (by decide) ⟨⟨by omega, by omega⟩, ⟨by omega, by omega⟩⟩ (fun c => absurd c (by omega)) (fun _ => ?_)
      refine lv_aload_n hx hb dL_law_375 rfl (lv_at hl 4 rfl) ?_
      refine lv_iload hx hb dL_law_376 (lv_at hl 10 rfl) ?_
      refine lv_iload hx hb dL_law_378 (lv_at hl 12 rfl) ?_
      refine g_run (vx_runV (As := [.int (z2 (((n : Nat) : Int))), .int (z2 (((k : Nat) : Int)))]) (rest := []) ⟨hx, hb, hml, hown, hts⟩ (k_ringsLeft l D ks bx _ Y _ hP hL1.1 hst ((n : Nat) : Int) ((k : Nat) : Int) ⟨by omega, by omega⟩ ⟨by omega, by omega⟩) (cwV 2 hts gL_law_X4_ringsLeft rfl rfl rfl (by decide +kernel) ⟨Nat.le_of_ble_eq_true rfl, Nat.le_of_ble_eq_true rfl⟩) (g_preV (r := (RX4, TX4, 7)) hG hS (fun _ h => h) hP.1 rfl) rfl rfl hl.1 rfl (lv_room (Nat.le_of_ble_eq_true rfl)) dL_law_380 ⟨by show cells + 2 + 0 + 0 + 3 + 2 ≤ room_1.cells; omega, by show slots + 12 + 0 + 0 + 18 + 12 ≤ room_1.slots; omega⟩) hS (fun q h => rx_ge q h) (fun E ce q9 H1 locs1 hp hz9 hk9 hS hce hcv hcl => by obtain ⟨-, e9⟩ := hp; exfalso; have h9 := e9.2; omega) (fun v H locs hp hz9 hk9 hS => ?_)
      obtain ⟨n9, k9, ⟨⟨a1, a2⟩, a3, a4⟩, rfl, hH9⟩ := hp
      obtain rfl := hH9.symm
      obtain rfl : n = n9 := by omega
      obtain rfl : k = k9 := by omega
      obtain ⟨y380, ey380, dy380⟩ : ∃ z : Int, z = (if Y 36 k = n then -1 else Y 23 (12 * n + k)) ∧ ((Y 36 k = n ∧ z = -1) ∨ (Y 36 k ≠ n ∧ z = Y 23 (12 * n + k))) := ⟨_, rfl, by split <;> omega⟩
      rw [← ey380]
      refine W.eq (g2 := F0 m 383 ls [.int (z2 (y380))]) rfl ?_
      refine lv_iload hx hb dL_law_383 (lv_at hl 0 rfl) ?_
      refine b_icmp_ne (tgt := 392) hx hb dL_law_385 (by decide) ⟨⟨by omega, by omega⟩, ⟨by omega, by omega⟩⟩ (fun c => absurd c (by omega)) (fun _ => ?_)
      refine b_iconst hx hb dL_law_388 ?_
      refine lv_goto (tgt := 393) hx hb dL_law_389 (by decide) ?_
      refine lv_istore_n (lv' := [(3, .int (z2 (1))), (13, .int (z2 (X 23 (12 * n + k) + r9))), (12, .int (z2 (r9))), (11, .int (z2 (y288))), (0, .ref sb), (1, .ref bx), (2, .int (z2 (X 4 0))), (4, .int (z2 (((tn : Nat) : Int)))), (5, .int (z2 (((q : Nat) : Int)))), (6, .int (z2 (v))), (7, .int (z2 (((n : Nat) : Int)))), (8, .int (z2 (((b : Nat) : Int)))), (9, .int (z2 (((k : Nat) : Int))))]) hx hb dL_law_393 rfl hl (by decide) rfl (fun ls hl => ?_)
      refine lv_goto (tgt := 721) hx hb dL_law_394 (by decide) ?_
      refine W.widen (k := cells + 200) (n := slots + 1200) (by show cells + 2 + 0 + 0 + 3 + 2 ≤ cells + 200; omega) (by show slots + 12 + 0 + 0 + 18 + 12 ≤ slots + 1200; omega) ?_
      exact kk _ _ _ _ _ (lv_N hL1 (by omega)) hP hS ((by rw [f4]; exact lv_sub hl [4, 5, 6, 0, 7, 8] rfl))
set_option maxHeartbeats 4000000 in
set_option maxRecDepth 100000 in
theorem c_lay {p : Program} {e : Env} {s : State} {m : MethodId} {below : List Frame} {meth : Method} {c : Code} (l : Launch) (hst : l.stackTraces = false) {D : va_G} {ks : Nat → ClassId} {sb bx nL q tn : Nat} {v : Int} {n b k : Nat} {xs : Nat → Int32} {Q : State → Prop} (hx : p.tables.exec = Jvm.exec) (hb : c.code = cL_law) (hml : c.maxLocals = 15) (hown : s.vm.findClass RL = some m.cls) (hts : ∀ w ∈ wsL_law, w.before #[Value.ref sb] s = true) (hX : va_X sb nL xs s s.heap) (hbl : sb < s.heap.size) (hG : GE D ks bx s) (hbb : sb < bx) (hnL : nL ≤ 260) (hq : q < 56) {H : Heap} {locs : List Loc} {ls : Array Slot} {cells slots : Nat} (hcs : cells + 1000 ≤ room_1.cells ∧ slots + 6000 ≤ room_1.slots) {ml : Nat → Nat} {X : Nat → Nat → Int} (hL : LV q X) (hP : PX D ks bx ml X H) (hS : va_S (AR (RC bx) s.heap.size) s.heap H locs) (hl : lv_has ls 15 [(0, .ref sb), (1, .ref bx), (2, .int (z2 (X 4 0))), (3, .int (z2 (1))), (4, .int (z2 (((tn : Nat) : Int)))), (5, .int (z2 (((q : Nat) : Int)))), (6, .int (z2 (v))), (7, .int (z2 (((n : Nat) : Int)))), (8, .int (z2 (((b : Nat) : Int)))), (9, .int (z2 (((k : Nat) : Int))))])
    (hv : -2147483648 ≤ v ∧ v < 2147483648) (hn : n < 8) (hb3 : b < 3) (hk : (k : Int) < X 4 0) (kk : ∀ (ml1 : Nat → Nat) (X1 : Nat → Nat → Int) (H1 : Heap) (locs1 : List Loc) (ls1 : Array Slot), LV (q + 1) X1 → PX D ks bx ml1 X1 H1 → va_S (AR (RC bx) s.heap.size) s.heap H1 locs1 → lv_has ls1 15 [(0, .ref sb), (1, .ref bx), (2, .int (z2 (X1 4 0))), (3, .int (z2 (1))), (4, .int (z2 (((tn : Nat) : Int)))), (5, .int (z2 (((q : Nat) : Int))))] → W p l e room_1 s m #[Value.ref sb] below meth c H1 locs1 (cells + 200) (slots + 1200) Q (F0 m 721 ls1 [])) :
    W p l e room_1 s m #[Value.ref sb] below meth c H locs cells slots Q (F0 m 404 ls []) := by
  obtain ⟨hV, hT, hY⟩ := id hL
  have b4 : 0 ≤ X 4 0 ∧ X 4 0 ≤ 12 := hV.1 4 0 rfl
  have b6 : 0 ≤ X 6 0 ∧ X 6 0 ≤ 1000000 := hV.1 6 0 rfl
  refine lv_aload_n hx hb dL_law_404 rfl (lv_at hl 1 rfl) ?_
  refine lv_iload hx hb dL_law_405 (lv_at hl 7 rfl) ?_
  refine lv_iload hx hb dL_law_407 (lv_at hl 8 rfl) ?_
  refine lv_iload hx hb dL_law_409 (lv_at hl 9 rfl) ?_
  refine b_iconst hx hb dL_law_411 ?_
  refine lv_iload hx hb dL_law_412 (lv_at hl 6 rfl) ?_
  refine b_bipush hx hb dL_law_414 (by decide +kernel) ?_
  refine g_run (vx_runS (As := [.int (z2 (v)), .int (z2 (9))]) (rest := [.int (z2 (1)), .int (z2 (((k : Nat) : Int))), .int (z2 (((b : Nat) : Int))), .int (z2 (((n : Nat) : Int))), .ref bx]) ⟨hx, hb, hml, hown, hts⟩ (w_low l D ks bx _ (v) (9) ⟨by omega, by omega⟩ ⟨by omega, by omega⟩) (cwS 2 hts gL_law_L_low rfl rfl rfl (by decide +kernel) ⟨Nat.le_of_ble_eq_true rfl, Nat.le_of_ble_eq_true rfl⟩) (g_preS hG hS (fun _ h => h)) rfl rfl hl.1 rfl (lv_room (Nat.le_of_ble_eq_true rfl)) dL_law_416 ⟨by show cells + 0 ≤ room_1.cells; omega, by show slots + 0 ≤ room_1.slots; omega⟩) hS (fun q h => rx_ge q h) (fun _ _ _ _ _ h => h.elim) (fun v H locs hp hz9 hk9 hS => ?_)
  obtain ⟨rfl, hH9⟩ := hp
  obtain rfl := hH9.symm
  obtain ⟨x416, hx416, ex416⟩ : ∃ z : Int, (0 ≤ z ∧ z < (9)) ∧ z = (v) % 2147483648 % (9) := ⟨_, ⟨Int.emod_nonneg _ (by omega), Int.emod_lt_of_pos _ (by omega)⟩, rfl⟩
  rw [← ex416]
  refine W.eq (g2 := F0 m 419 ls [.int (z2 (x416)), .int (z2 (1)), .int (z2 (((k : Nat) : Int))), .int (z2 (((b : Nat) : Int))), .int (z2 (((n : Nat) : Int))), .ref bx]) rfl ?_
  refine b_iadd hx hb dL_law_419 ?_
  refine g_run (vx_runV (As := [.int (z2 (((n : Nat) : Int))), .int (z2 (((b : Nat) : Int))), .int (z2 (((k : Nat) : Int))), .int (z2 (1 + x416))]) (rest := []) ⟨hx, hb, hml, hown, hts⟩ (k_lay l D ks bx ml X _ hP hL.1 hst ((n : Nat) : Int) ((b : Nat) : Int) ((k : Nat) : Int) (1 + x416) ⟨by omega, by omega⟩ ⟨by omega, by omega⟩ ⟨by omega, by omega⟩ ⟨by omega, by omega⟩) (cwV 4 hts gL_law_X4_lay rfl rfl rfl (by decide +kernel) ⟨Nat.le_of_ble_eq_true rfl, Nat.le_of_ble_eq_true rfl⟩) (g_preV (r := (RX4, TX4, 7)) hG hS (fun _ h => h) hP.1 rfl) rfl rfl hl.1 rfl (lv_room (Nat.le_of_ble_eq_true rfl)) dL_law_420 ⟨by show cells + 0 + 4 ≤ room_1.cells; omega, by show slots + 0 + 24 ≤ room_1.slots; omega⟩) hS (fun q h => rx_ge q h) (fun E ce q9 H1 locs1 hp hz9 hk9 hS hce hcv hcl => by obtain ⟨-, e9⟩ := hp; exfalso; rcases e9 with ⟨-, h9⟩ | ⟨-, h9⟩ <;> omega) (fun v H locs hp hz9 hk9 hS => ?_)
  obtain ⟨n9, b9, ⟨⟨a1, a2⟩, ⟨a3, a4⟩, a5, a6, a7⟩, rfl, hP9⟩ := hp
  obtain rfl : n = n9 := by omega
  obtain rfl : b = b9 := by omega
  have hLY := lv_lay hL (i := 3 * n + b) (a := ((k : Nat) : Int)) (b := 1 + x416) a5 ⟨by omega, by omega⟩
  obtain ⟨fY1, fY2, fY4⟩ := ly_f X (3 * n + b) ((k : Nat) : Int) (1 + x416)
  obtain ⟨Y, hYe⟩ : ∃ Y9, Y9 = up (up (up X 30 (3 * n + b) ((k : Nat) : Int)) 31 (3 * n + b) (1 + x416)) 32 (3 * n + b) 0 := ⟨_, rfl⟩
  rw [← hYe] at hP9 fY1 fY2 fY4 hLY
  clear hYe
  have hP := hP9
  have brY := rs_b Y n
  refine W.eq (g2 := F0 m 423 ls [.int (z2 (X 30 (3 * n + b)))]) rfl ?_
  refine lv_pop hx hb dL_law_423 rfl ?_
  refine lv_aload_n hx hb dL_law_424 rfl (lv_at hl 1 rfl) ?_
  refine lv_iload hx hb dL_law_425 (lv_at hl 7 rfl) ?_
  refine g_run (vx_runV (As := [.int (z2 (((n : Nat) : Int)))]) (rest := []) ⟨hx, hb, hml, hown, hts⟩ (k_ringing l D ks bx ml Y _ hP hLY.1 hst (((n : Nat) : Int)) ⟨by omega, by omega⟩) (cwV 1 hts gL_law_X4_ringing rfl rfl rfl (by decide +kernel) ⟨Nat.le_of_ble_eq_true rfl, Nat.le_of_ble_eq_true rfl⟩) (g_preV (r := (RX4, TX4, 7)) hG hS (fun _ h => h) hP.1 rfl) rfl rfl hl.1 rfl (lv_room (Nat.le_of_ble_eq_true rfl)) dL_law_427 ⟨by show cells + 0 + 4 + 1 ≤ room_1.cells; omega, by show slots + 0 + 24 + 6 ≤ room_1.slots; omega⟩) hS (fun q h => rx_ge q h) (fun E ce q9 H1 locs1 hp hz9 hk9 hS hce hcv hcl => by obtain ⟨-, e9⟩ := hp; exfalso; have h9 := e9.2; omega) (fun v H locs hp hz9 hk9 hS => ?_)
  obtain ⟨n9, ⟨hn9, hn8⟩, rfl, hH9⟩ := hp
  obtain rfl := hH9.symm
  obtain rfl : n = n9 := by omega
  refine W.eq (g2 := F0 m 430 ls [.int (z2 (rsS Y n))]) rfl ?_
  refine lv_iload hx hb dL_law_430 (lv_at hl 8 rfl) ?_
  refine lv_ishr hx hb dL_law_432 ?_
  refine b_iconst hx hb dL_law_433 ?_
  refine lv_iand hx hb dL_law_434 ?_
  refine b_top (v := 0) (bit_0 hb3 fY1) ?_
  refine b_if_ne (tgt := 466) hx hb dL_law_435 (by decide) ⟨by omega, by omega⟩ (fun c => absurd c (by omega)) (fun _ => ?_)
  refine lv_aload_n hx hb dL_law_438 rfl (lv_at hl 1 rfl) ?_
  refine lv_iload hx hb dL_law_439 (lv_at hl 7 rfl) ?_
  refine lv_iload hx hb dL_law_441 (lv_at hl 8 rfl) ?_
  refine lv_iload hx hb dL_law_443 (lv_at hl 9 rfl) ?_
  refine b_iconst hx hb dL_law_445 ?_
  refine lv_iload hx hb dL_law_446 (lv_at hl 6 rfl) ?_
  refine b_bipush hx hb dL_law_448 (by decide +kernel) ?_
  refine g_run (vx_runS (As := [.int (z2 (v)), .int (z2 (9))]) (rest := [.int (z2 (1)), .int (z2 (((k : Nat) : Int))), .int (z2 (((b : Nat) : Int))), .int (z2 (((n : Nat) : Int))), .ref bx]) ⟨hx, hb, hml, hown, hts⟩ (w_low l D ks bx _ (v) (9) ⟨by omega, by omega⟩ ⟨by omega, by omega⟩) (cwS 2 hts gL_law_L_low rfl rfl rfl (by decide +kernel) ⟨Nat.le_of_ble_eq_true rfl, Nat.le_of_ble_eq_true rfl⟩) (g_preS hG hS (fun _ h => h)) rfl rfl hl.1 rfl (lv_room (Nat.le_of_ble_eq_true rfl)) dL_law_450 ⟨by show cells + 0 + 4 + 1 + 0 ≤ room_1.cells; omega, by show slots + 0 + 24 + 6 + 0 ≤ room_1.slots; omega⟩) hS (fun q h => rx_ge q h) (fun _ _ _ _ _ h => h.elim) (fun v H locs hp hz9 hk9 hS => ?_)
  obtain ⟨rfl, hH9⟩ := hp
  obtain rfl := hH9.symm
  rw [← ex416]
  refine W.eq (g2 := F0 m 453 ls [.int (z2 (x416)), .int (z2 (1)), .int (z2 (((k : Nat) : Int))), .int (z2 (((b : Nat) : Int))), .int (z2 (((n : Nat) : Int))), .ref bx]) rfl ?_
  refine b_iadd hx hb dL_law_453 ?_
  refine g_run (vx_runV (As := [.int (z2 (((n : Nat) : Int))), .int (z2 (((b : Nat) : Int))), .int (z2 (((k : Nat) : Int))), .int (z2 (1 + x416))]) (rest := []) ⟨hx, hb, hml, hown, hts⟩ (k_lay l D ks bx ml Y _ hP hLY.1 hst ((n : Nat) : Int) ((b : Nat) : Int) ((k : Nat) : Int) (1 + x416) ⟨by omega, by omega⟩ ⟨by omega, by omega⟩ ⟨by omega, by omega⟩ ⟨by omega, by omega⟩) (cwV 4 hts gL_law_X4_lay rfl rfl rfl (by decide +kernel) ⟨Nat.le_of_ble_eq_true rfl, Nat.le_of_ble_eq_true rfl⟩) (g_preV (r := (RX4, TX4, 7)) hG hS (fun _ h => h) hP.1 rfl) rfl rfl hl.1 rfl (lv_room (Nat.le_of_ble_eq_true rfl)) dL_law_454 ⟨by show cells + 0 + 4 + 1 + 0 + 4 ≤ room_1.cells; omega, by show slots + 0 + 24 + 6 + 0 + 24 ≤ room_1.slots; omega⟩) hS (fun q h => rx_ge q h) (fun E ce q9 H1 locs1 hp hz9 hk9 hS hce hcv hcl => by obtain ⟨-, e9⟩ := hp; exfalso; rcases e9 with ⟨-, h9⟩ | ⟨-, h9⟩ <;> omega) (fun v H locs hp hz9 hk9 hS => ?_)
  obtain ⟨n9, b9, ⟨⟨a1, a2⟩, ⟨a3, a4⟩, a5, a6, a7⟩, rfl, hP9⟩ := hp
  obtain rfl : n = n9 := by omega
  obtain rfl : b = b9 := by omega
  have hLZ := lv_lay hLY (i := 3 * n + b) (a := ((k : Nat) : Int)) (b := 1 + x416) a5 ⟨by omega, by omega⟩
  obtain ⟨fZ1, fZ2, fZ4⟩ := ly_f Y (3 * n + b) ((k : Nat) : Int) (1 + x416)
  obtain ⟨Z, hYe⟩ : ∃ Y9, Y9 = up (up (up Y 30 (3 * n + b) ((k : Nat) : Int)) 31 (3 * n + b) (1 + x416)) 32 (3 * n + b) 0 := ⟨_, rfl⟩
  rw [← hYe] at hP9 fZ1 fZ2 fZ4 hLZ
  clear hYe
  have hP := hP9
  refine W.eq (g2 := F0 m 457 ls [.int (z2 (Y 30 (3 * n + b)))]) rfl ?_
  refine lv_iload hx hb dL_law_457 (lv_at hl 9 rfl) ?_
  refine b_icmp_ne (tgt := 466) hx hb dL_law_459 (by decide) ⟨⟨by omega, by omega⟩, ⟨by omega, by omega⟩⟩ (fun c => absurd c (by omega)) (fun _ => ?_)
  refine b_iconst hx hb dL_law_462 ?_
  refine lv_goto (tgt := 467) hx hb dL_law_463 (by decide) ?_
  refine lv_istore_n (lv' := [(3, .int (z2 (1))), (0, .ref sb), (1, .ref bx), (2, .int (z2 (X 4 0))), (4, .int (z2 (((tn : Nat) : Int)))), (5, .int (z2 (((q : Nat) : Int)))), (6, .int (z2 (v))), (7, .int (z2 (((n : Nat) : Int)))), (8, .int (z2 (((b : Nat) : Int)))), (9, .int (z2 (((k : Nat) : Int))))]) hx hb dL_law_467 rfl hl (by decide) rfl (fun ls hl => ?_)
  refine lv_goto (tgt := 721) hx hb dL_law_468 (by decide) ?_
  refine W.widen (k := cells + 200) (n := slots + 1200) (by show cells + 0 + 4 + 1 + 0 + 4 ≤ cells + 200; omega) (by show slots + 0 + 24 + 6 + 0 + 24 ≤ slots + 1200; omega) ?_
  exact kk _ _ _ _ _ (lv_N hLZ (by omega)) hP hS ((by rw [fZ4, fY4]; exact lv_sub hl [1, 2, 3, 0, 4, 5] rfl))
set_option maxHeartbeats 4000000 in
set_option maxRecDepth 100000 in
theorem c_press {p : Program} {e : Env} {s : State} {m : MethodId} {below : List Frame} {meth : Method} {c : Code} (l : Launch) (hst : l.stackTraces = false) {D : va_G} {ks : Nat → ClassId} {sb bx nL q tn : Nat} {v : Int} {n b k : Nat} {xs : Nat → Int32} {Q : State → Prop} (hx : p.tables.exec = Jvm.exec) (hb : c.code = cL_law) (hml : c.maxLocals = 15) (hown : s.vm.findClass RL = some m.cls) (hts : ∀ w ∈ wsL_law, w.before #[Value.ref sb] s = true) (hX : va_X sb nL xs s s.heap) (hbl : sb < s.heap.size) (hG : GE D ks bx s) (hbb : sb < bx) (hnL : nL ≤ 260) (hq : q < 56) {H : Heap} {locs : List Loc} {ls : Array Slot} {cells slots : Nat} (hcs : cells + 1000 ≤ room_1.cells ∧ slots + 6000 ≤ room_1.slots) {ml : Nat → Nat} {X : Nat → Nat → Int} (hL : LV q X) (hP : PX D ks bx ml X H) (hS : va_S (AR (RC bx) s.heap.size) s.heap H locs) (hl : lv_has ls 15 [(0, .ref sb), (1, .ref bx), (2, .int (z2 (X 4 0))), (3, .int (z2 (1))), (4, .int (z2 (((tn : Nat) : Int)))), (5, .int (z2 (((q : Nat) : Int)))), (6, .int (z2 (v))), (7, .int (z2 (((n : Nat) : Int)))), (8, .int (z2 (((b : Nat) : Int)))), (9, .int (z2 (((k : Nat) : Int))))])
    (hv : -2147483648 ≤ v ∧ v < 2147483648) (hn : n < 8) (hb3 : b < 3) (kk : ∀ (ml1 : Nat → Nat) (X1 : Nat → Nat → Int) (H1 : Heap) (locs1 : List Loc) (ls1 : Array Slot), LV (q + 1) X1 → PX D ks bx ml1 X1 H1 → va_S (AR (RC bx) s.heap.size) s.heap H1 locs1 → lv_has ls1 15 [(0, .ref sb), (1, .ref bx), (2, .int (z2 (X1 4 0))), (3, .int (z2 (1))), (4, .int (z2 (((tn : Nat) : Int)))), (5, .int (z2 (((q : Nat) : Int))))] → W p l e room_1 s m #[Value.ref sb] below meth c H1 locs1 (cells + 200) (slots + 1200) Q (F0 m 721 ls1 [])) :
    W p l e room_1 s m #[Value.ref sb] below meth c H locs cells slots Q (F0 m 478 ls []) := by
  obtain ⟨hV, hT, hY⟩ := id hL
  have b4 : 0 ≤ X 4 0 ∧ X 4 0 ≤ 12 := hV.1 4 0 rfl
  have b6 : 0 ≤ X 6 0 ∧ X 6 0 ≤ 1000000 := hV.1 6 0 rfl
  refine lv_aload_n hx hb dL_law_478 rfl (lv_at hl 1 rfl) ?_
  refine lv_iload hx hb dL_law_479 (lv_at hl 7 rfl) ?_
  refine lv_iload hx hb dL_law_481 (lv_at hl 8 rfl) ?_
  refine g_run (vx_runS (As := [.ref bx, .int (z2 (((n : Nat) : Int))), .int (z2 (((b : Nat) : Int)))]) (rest := []) ⟨hx, hb, hml, hown, hts⟩ (w_presses l D ks bx ml X _ hP hst q (by omega) hL n b hn hb3) (cwS 3 hts gL_law_L_presses rfl rfl rfl (by decide +kernel) ⟨Nat.le_of_ble_eq_true rfl, Nat.le_of_ble_eq_true rfl⟩) (g_preS hG hS (fun _ h => h)) rfl rfl hl.1 rfl (lv_room (Nat.le_of_ble_eq_true rfl)) dL_law_483 ⟨by show cells + 16 ≤ room_1.cells; omega, by show slots + 96 ≤ room_1.slots; omega⟩) hS (fun q h => rx_ge q h) (fun _ _ _ _ _ h => h.elim) (fun v H locs hp hz9 hk9 hS => ?_)
  obtain ⟨rfl, Y, hL1, f4, hP9⟩ := hp
  have hP := hP9
  refine W.eq (g2 := F0 m 486 ls [.int (z2 (1))]) rfl ?_
  refine lv_istore_n (lv' := [(3, .int (z2 (1))), (0, .ref sb), (1, .ref bx), (2, .int (z2 (X 4 0))), (4, .int (z2 (((tn : Nat) : Int)))), (5, .int (z2 (((q : Nat) : Int)))), (6, .int (z2 (v))), (7, .int (z2 (((n : Nat) : Int)))), (8, .int (z2 (((b : Nat) : Int)))), (9, .int (z2 (((k : Nat) : Int))))]) hx hb dL_law_486 rfl hl (by decide) rfl (fun ls hl => ?_)
  refine lv_goto (tgt := 721) hx hb dL_law_487 (by decide) ?_
  refine W.widen (k := cells + 200) (n := slots + 1200) (by show cells + 16 ≤ cells + 200; omega) (by show slots + 96 ≤ slots + 1200; omega) ?_
  exact kk _ _ _ _ _ (hL1) hP hS ((by rw [f4]; exact lv_sub hl [1, 2, 3, 0, 4, 5] rfl))
set_option maxHeartbeats 4000000 in
set_option maxRecDepth 100000 in
theorem c_fault {p : Program} {e : Env} {s : State} {m : MethodId} {below : List Frame} {meth : Method} {c : Code} (l : Launch) (hst : l.stackTraces = false) {D : va_G} {ks : Nat → ClassId} {sb bx nL q tn : Nat} {v : Int} {n b k : Nat} {xs : Nat → Int32} {Q : State → Prop} (hx : p.tables.exec = Jvm.exec) (hb : c.code = cL_law) (hml : c.maxLocals = 15) (hown : s.vm.findClass RL = some m.cls) (hts : ∀ w ∈ wsL_law, w.before #[Value.ref sb] s = true) (hX : va_X sb nL xs s s.heap) (hbl : sb < s.heap.size) (hG : GE D ks bx s) (hbb : sb < bx) (hnL : nL ≤ 260) (hq : q < 56) {H : Heap} {locs : List Loc} {ls : Array Slot} {cells slots : Nat} (hcs : cells + 1000 ≤ room_1.cells ∧ slots + 6000 ≤ room_1.slots) {ml : Nat → Nat} {X : Nat → Nat → Int} (hL : LV q X) (hP : PX D ks bx ml X H) (hS : va_S (AR (RC bx) s.heap.size) s.heap H locs) (hl : lv_has ls 15 [(0, .ref sb), (1, .ref bx), (2, .int (z2 (X 4 0))), (3, .int (z2 (1))), (4, .int (z2 (((tn : Nat) : Int)))), (5, .int (z2 (((q : Nat) : Int)))), (6, .int (z2 (v))), (7, .int (z2 (((n : Nat) : Int)))), (8, .int (z2 (((b : Nat) : Int)))), (9, .int (z2 (((k : Nat) : Int))))])
    (hv : -2147483648 ≤ v ∧ v < 2147483648) (hn : n < 8) (hb3 : b < 3) (kk : ∀ (ml1 : Nat → Nat) (X1 : Nat → Nat → Int) (H1 : Heap) (locs1 : List Loc) (ls1 : Array Slot), LV (q + 1) X1 → PX D ks bx ml1 X1 H1 → va_S (AR (RC bx) s.heap.size) s.heap H1 locs1 → lv_has ls1 15 [(0, .ref sb), (1, .ref bx), (2, .int (z2 (X1 4 0))), (3, .int (z2 (1))), (4, .int (z2 (((tn : Nat) : Int)))), (5, .int (z2 (((q : Nat) : Int))))] → W p l e room_1 s m #[Value.ref sb] below meth c H1 locs1 (cells + 200) (slots + 1200) Q (F0 m 721 ls1 [])) :
    W p l e room_1 s m #[Value.ref sb] below meth c H locs cells slots Q (F0 m 497 ls []) := by
  obtain ⟨hV, hT, hY⟩ := id hL
  have b4 : 0 ≤ X 4 0 ∧ X 4 0 ≤ 12 := hV.1 4 0 rfl
  have b6 : 0 ≤ X 6 0 ∧ X 6 0 ≤ 1000000 := hV.1 6 0 rfl
  refine lv_aload_n hx hb dL_law_497 rfl (lv_at hl 1 rfl) ?_
  refine lv_iload hx hb dL_law_498 (lv_at hl 7 rfl) ?_
  refine g_run (vx_runS (As := [.ref bx, .int (z2 (((n : Nat) : Int)))]) (rest := []) ⟨hx, hb, hml, hown, hts⟩ (w_faulty l D ks bx ml X _ hP hst q hL n hn) (cwS 2 hts gL_law_L_faulty rfl rfl rfl (by decide +kernel) ⟨Nat.le_of_ble_eq_true rfl, Nat.le_of_ble_eq_true rfl⟩) (g_preS hG hS (fun _ h => h)) rfl rfl hl.1 rfl (lv_room (Nat.le_of_ble_eq_true rfl)) dL_law_500 ⟨by show cells + 20 ≤ room_1.cells; omega, by show slots + 120 ≤ room_1.slots; omega⟩) hS (fun q h => rx_ge q h) (fun _ _ _ _ _ h => h.elim) (fun v H locs hp hz9 hk9 hS => ?_)
  obtain ⟨rfl, Y, hL1, f4, hP9⟩ := hp
  have hP := hP9
  refine W.eq (g2 := F0 m 503 ls [.int (z2 (1))]) rfl ?_
  refine lv_istore_n (lv' := [(3, .int (z2 (1))), (0, .ref sb), (1, .ref bx), (2, .int (z2 (X 4 0))), (4, .int (z2 (((tn : Nat) : Int)))), (5, .int (z2 (((q : Nat) : Int)))), (6, .int (z2 (v))), (7, .int (z2 (((n : Nat) : Int)))), (8, .int (z2 (((b : Nat) : Int)))), (9, .int (z2 (((k : Nat) : Int))))]) hx hb dL_law_503 rfl hl (by decide) rfl (fun ls hl => ?_)
  refine lv_goto (tgt := 721) hx hb dL_law_504 (by decide) ?_
  refine W.widen (k := cells + 200) (n := slots + 1200) (by show cells + 20 ≤ cells + 200; omega) (by show slots + 120 ≤ slots + 1200; omega) ?_
  exact kk _ _ _ _ _ (lv_N hL1 (by omega)) hP hS ((by rw [f4]; exact lv_sub hl [1, 2, 3, 0, 4, 5] rfl))
set_option maxHeartbeats 4000000 in
set_option maxRecDepth 100000 in
theorem c_repair {p : Program} {e : Env} {s : State} {m : MethodId} {below : List Frame} {meth : Method} {c : Code} (l : Launch) (hst : l.stackTraces = false) {D : va_G} {ks : Nat → ClassId} {sb bx nL q tn : Nat} {v : Int} {n b k : Nat} {xs : Nat → Int32} {Q : State → Prop} (hx : p.tables.exec = Jvm.exec) (hb : c.code = cL_law) (hml : c.maxLocals = 15) (hown : s.vm.findClass RL = some m.cls) (hts : ∀ w ∈ wsL_law, w.before #[Value.ref sb] s = true) (hX : va_X sb nL xs s s.heap) (hbl : sb < s.heap.size) (hG : GE D ks bx s) (hbb : sb < bx) (hnL : nL ≤ 260) (hq : q < 56) {H : Heap} {locs : List Loc} {ls : Array Slot} {cells slots : Nat} (hcs : cells + 1000 ≤ room_1.cells ∧ slots + 6000 ≤ room_1.slots) {ml : Nat → Nat} {X : Nat → Nat → Int} (hL : LV q X) (hP : PX D ks bx ml X H) (hS : va_S (AR (RC bx) s.heap.size) s.heap H locs) (hl : lv_has ls 15 [(0, .ref sb), (1, .ref bx), (2, .int (z2 (X 4 0))), (3, .int (z2 (1))), (4, .int (z2 (((tn : Nat) : Int)))), (5, .int (z2 (((q : Nat) : Int)))), (6, .int (z2 (v))), (7, .int (z2 (((n : Nat) : Int)))), (8, .int (z2 (((b : Nat) : Int)))), (9, .int (z2 (((k : Nat) : Int))))])
    (hv : -2147483648 ≤ v ∧ v < 2147483648) (hn : n < 8) (hb3 : b < 3) (kk : ∀ (ml1 : Nat → Nat) (X1 : Nat → Nat → Int) (H1 : Heap) (locs1 : List Loc) (ls1 : Array Slot), LV (q + 1) X1 → PX D ks bx ml1 X1 H1 → va_S (AR (RC bx) s.heap.size) s.heap H1 locs1 → lv_has ls1 15 [(0, .ref sb), (1, .ref bx), (2, .int (z2 (X1 4 0))), (3, .int (z2 (1))), (4, .int (z2 (((tn : Nat) : Int)))), (5, .int (z2 (((q : Nat) : Int))))] → W p l e room_1 s m #[Value.ref sb] below meth c H1 locs1 (cells + 200) (slots + 1200) Q (F0 m 721 ls1 [])) :
    W p l e room_1 s m #[Value.ref sb] below meth c H locs cells slots Q (F0 m 514 ls []) := by
  obtain ⟨hV, hT, hY⟩ := id hL
  have b4 : 0 ≤ X 4 0 ∧ X 4 0 ≤ 12 := hV.1 4 0 rfl
  have b6 : 0 ≤ X 6 0 ∧ X 6 0 ≤ 1000000 := hV.1 6 0 rfl
  have b14 : 0 ≤ X 14 n ∧ X 14 n ≤ 1 := hV.1 14 n rfl
  refine lv_aload_n hx hb dL_law_514 rfl (lv_at hl 1 rfl) ?_
  refine lv_iload hx hb dL_law_515 (lv_at hl 7 rfl) ?_
  refine g_run (vx_runV (As := [.int (z2 (((n : Nat) : Int)))]) (rest := []) ⟨hx, hb, hml, hown, hts⟩ (k_isSound l D ks bx ml X _ hP hV hst (((n : Nat) : Int)) ⟨by omega, by omega⟩) (cwV 1 hts gL_law_X4_isSound rfl rfl rfl (by decide +kernel) ⟨Nat.le_of_ble_eq_true rfl, Nat.le_of_ble_eq_true rfl⟩) (g_preV (r := (RX4, TX4, 7)) hG hS (fun _ h => h) hP.1 rfl) rfl rfl hl.1 rfl (lv_room (Nat.le_of_ble_eq_true rfl)) dL_law_517 ⟨by show cells + 1 ≤ room_1.cells; omega, by show slots + 6 ≤ room_1.slots; omega⟩) hS (fun q h => rx_ge q h) (fun E ce q9 H1 locs1 hp hz9 hk9 hS hce hcv hcl => by obtain ⟨-, e9⟩ := hp; exfalso; have h9 := e9.2; omega) (fun v H locs hp hz9 hk9 hS => ?_)
  obtain ⟨n9, ⟨hn9, hn8⟩, rfl, hH9⟩ := hp
  obtain rfl := hH9.symm
  obtain rfl : n = n9 := by omega
  refine W.eq (g2 := F0 m 520 ls [.int (z2 (X 14 n))]) rfl ?_
  refine lv_istore (lv' := [(11, .int (z2 (X 14 n))), (0, .ref sb), (1, .ref bx), (2, .int (z2 (X 4 0))), (3, .int (z2 (1))), (4, .int (z2 (((tn : Nat) : Int)))), (5, .int (z2 (((q : Nat) : Int)))), (6, .int (z2 (v))), (7, .int (z2 (((n : Nat) : Int)))), (8, .int (z2 (((b : Nat) : Int)))), (9, .int (z2 (((k : Nat) : Int))))]) hx hb dL_law_520 hl (by decide) rfl (fun ls hl => ?_)
  refine lv_aload_n hx hb dL_law_522 rfl (lv_at hl 2 rfl) ?_
  refine lv_iload hx hb dL_law_523 (lv_at hl 8 rfl) ?_
  refine g_run (vx_runSX (As := [.ref bx, .int (z2 (((n : Nat) : Int)))]) (rest := []) ⟨hx, hb, hml, hown, hts⟩ (w_repair l D ks bx ml X _ hP hV hst n hn) (vx_cwSW 2 hts gL_law_L_repair rfl rfl rfl (by decide +kernel) ⟨Nat.le_of_ble_eq_true rfl, Nat.le_of_ble_eq_true rfl⟩) (g_preS hG hS (fun _ h => h)) rfl rfl hl.1 rfl (lv_room (Nat.le_of_ble_eq_true rfl)) dL_law_525 ⟨by show cells + 1 + 3 ≤ room_1.cells; omega, by show slots + 6 + 18 ≤ room_1.slots; omega⟩) hS (fun q h => rx_ge q h) (fun _ _ _ _ _ h => h.elim) (fun v H locs hp hz9 hk9 hS => ?_)
  rcases hp with ⟨p1, rfl, hP9⟩ | ⟨p1, p2, rfl, hP9⟩
  · have hP := hP9
    refine W.eq (g2 := F0 m 528 ls [.int (z2 (-3))]) rfl ?_
    refine lv_istore (lv' := [(12, .int (z2 ((-3)))), (11, .int (z2 (X 14 n))), (0, .ref sb), (1, .ref bx), (2, .int (z2 (X 4 0))), (3, .int (z2 (1))), (4, .int (z2 (((tn : Nat) : Int)))), (5, .int (z2 (((q : Nat) : Int)))), (6, .int (z2 (v))), (7, .int (z2 (((n : Nat) : Int)))), (8, .int (z2 (((b : Nat) : Int)))), (9, .int (z2 (((k : Nat) : Int))))]) hx hb dL_law_528 hl (by decide) rfl (fun ls hl => ?_)
    refine lv_iload hx hb dL_law_530 (lv_at hl 0 rfl) ?_
    refine b_bipush hx hb dL_law_532 (by decide +kernel) ?_
    refine b_icmp_eq (tgt := 565) hx hb dL_law_534 (by decide) ⟨⟨by omega, by omega⟩, ⟨by omega, by omega⟩⟩ (fun _ => ?_) (fun c => absurd c (by omega))
    refine b_iconst hx hb dL_law_565 ?_
    refine lv_goto (tgt := 570) hx hb dL_law_566 (by decide) ?_
    refine lv_istore_n (lv' := [(3, .int (z2 (1))), (12, .int (z2 ((-3)))), (11, .int (z2 (X 14 n))), (0, .ref sb), (1, .ref bx), (2, .int (z2 (X 4 0))), (4, .int (z2 (((tn : Nat) : Int)))), (5, .int (z2 (((q : Nat) : Int)))), (6, .int (z2 (v))), (7, .int (z2 (((n : Nat) : Int)))), (8, .int (z2 (((b : Nat) : Int)))), (9, .int (z2 (((k : Nat) : Int))))]) hx hb dL_law_570 rfl hl (by decide) rfl (fun ls hl => ?_)
    refine lv_goto (tgt := 721) hx hb dL_law_571 (by decide) ?_
    refine W.widen (k := cells + 200) (n := slots + 1200) (by show cells + 1 + 3 ≤ cells + 200; omega) (by show slots + 6 + 18 ≤ slots + 1200; omega) ?_
    exact kk _ _ _ _ _ (lv_N hL (by omega)) hP hS (lv_sub hl [3, 4, 5, 0, 6, 7] rfl)
  · have hP := hP9
    have hL1 := lv_rep hL hn
    obtain ⟨f34, f6, f4⟩ := re_f X (n / 4) ((n : Nat) : Int) (X 6 0 + 50)
    obtain ⟨Y, hYe⟩ : ∃ Y, Y = up (up X 34 (n / 4) ((n : Nat) : Int)) 35 (n / 4) (X 6 0 + 50) := ⟨_, rfl⟩
    rw [← hYe] at hP f34 f6 f4 hL1
    clear hYe hP9
    refine W.eq (g2 := F0 m 528 ls [.int (z2 (X 6 0 + 50))]) rfl ?_
    refine lv_istore (lv' := [(12, .int (z2 (X 6 0 + 50))), (11, .int (z2 (X 14 n))), (0, .ref sb), (1, .ref bx), (2, .int (z2 (X 4 0))), (3, .int (z2 (1))), (4, .int (z2 (((tn : Nat) : Int)))), (5, .int (z2 (((q : Nat) : Int)))), (6, .int (z2 (v))), (7, .int (z2 (((n : Nat) : Int)))), (8, .int (z2 (((b : Nat) : Int)))), (9, .int (z2 (((k : Nat) : Int))))]) hx hb dL_law_528 hl (by decide) rfl (fun ls hl => ?_)
    refine lv_iload hx hb dL_law_530 (lv_at hl 0 rfl) ?_
    refine b_bipush hx hb dL_law_532 (by decide +kernel) ?_
    refine b_icmp_eq (tgt := 565) hx hb dL_law_534 (by decide) ⟨⟨by omega, by omega⟩, ⟨by omega, by omega⟩⟩ (fun c => absurd c (by omega)) (fun _ => ?_)
    refine lv_iload hx hb dL_law_537 (lv_at hl 1 rfl) ?_
    refine b_if_ne (tgt := 569) hx hb dL_law_539 (by decide) ⟨by omega, by omega⟩ (fun c => absurd c (by omega)) (fun _ => ?_)
    refine lv_iload hx hb dL_law_542 (lv_at hl 0 rfl) ?_
    refine lv_aload_n hx hb dL_law_544 rfl (lv_at hl 3 rfl) ?_
    refine g_run (vx_runV (As := []) (rest := [.int (z2 (X 6 0 + 50))]) ⟨hx, hb, hml, hown, hts⟩ (k_time l D ks bx ml Y _ hP hL1.1) (cwV 0 hts gL_law_X4_time rfl rfl rfl (by decide +kernel) ⟨Nat.le_of_ble_eq_true rfl, Nat.le_of_ble_eq_true rfl⟩) (g_preV (r := (RX4, TX4, 7)) hG hS (fun _ h => h) hP.1 rfl) rfl rfl hl.1 rfl (lv_room (Nat.le_of_ble_eq_true rfl)) dL_law_545 ⟨by show cells + 1 + 3 + 0 ≤ room_1.cells; omega, by show slots + 6 + 18 + 0 ≤ room_1.slots; omega⟩) hS (fun q h => rx_ge q h) (fun _ _ _ _ _ h => h.elim) (fun v H locs hp hz9 hk9 hS => ?_)
    obtain ⟨rfl, hH9⟩ := hp
    obtain rfl := hH9.symm
    refine W.eq (g2 := F0 m 548 ls [.int (z2 (Y 6 0)), .int (z2 (X 6 0 + 50))]) rfl ?_
    refine b_bipush hx hb dL_law_548 (by decide +kernel) ?_
    refine b_iadd hx hb dL_law_550 ?_
    refine b_icmp_ne (tgt := 569) hx hb dL_law_551 (by decide) ⟨⟨by omega, by omega⟩, ⟨by omega, by omega⟩⟩ (fun c => absurd c (by omega)) (fun _ => ?_)
    refine lv_aload_n hx hb dL_law_554 rfl (lv_at hl 3 rfl) ?_
    refine lv_iload hx hb dL_law_555 (lv_at hl 9 rfl) ?_
    refine g_run (vx_runSX (As := [.ref bx, .int (z2 (((n : Nat) : Int)))]) (rest := []) ⟨hx, hb, hml, hown, hts⟩ (w_repair l D ks bx ml Y _ hP hL1.1 hst n hn) (vx_cwSW 2 hts gL_law_L_repair rfl rfl rfl (by decide +kernel) ⟨Nat.le_of_ble_eq_true rfl, Nat.le_of_ble_eq_true rfl⟩) (g_preS hG hS (fun _ h => h)) rfl rfl hl.1 rfl (lv_room (Nat.le_of_ble_eq_true rfl)) dL_law_557 ⟨by show cells + 1 + 3 + 0 + 3 ≤ room_1.cells; omega, by show slots + 6 + 18 + 0 + 18 ≤ room_1.slots; omega⟩) hS (fun q h => rx_ge q h) (fun _ _ _ _ _ h => h.elim) (fun v H locs hp hz9 hk9 hS => ?_)
    obtain ⟨-, rfl, hP9⟩ := hp.resolve_right (fun q => absurd q.2.1 (by omega))
    have hP := hP9
    refine W.eq (g2 := F0 m 560 ls [.int (z2 ((-3)))]) rfl ?_
    refine b_bipush hx hb dL_law_560 (by decide +kernel) ?_
    refine b_icmp_ne (tgt := 569) hx hb dL_law_562 (by decide) ⟨⟨by omega, by omega⟩, ⟨by omega, by omega⟩⟩ (fun c => absurd c (by omega)) (fun _ => ?_)
    refine b_iconst hx hb dL_law_565 ?_
    refine lv_goto (tgt := 570) hx hb dL_law_566 (by decide) ?_
    refine lv_istore_n (lv' := [(3, .int (z2 (1))), (12, .int (z2 (X 6 0 + 50))), (11, .int (z2 (X 14 n))), (0, .ref sb), (1, .ref bx), (2, .int (z2 (X 4 0))), (4, .int (z2 (((tn : Nat) : Int)))), (5, .int (z2 (((q : Nat) : Int)))), (6, .int (z2 (v))), (7, .int (z2 (((n : Nat) : Int)))), (8, .int (z2 (((b : Nat) : Int)))), (9, .int (z2 (((k : Nat) : Int))))]) hx hb dL_law_570 rfl hl (by decide) rfl (fun ls hl => ?_)
    refine lv_goto (tgt := 721) hx hb dL_law_571 (by decide) ?_
    refine W.widen (k := cells + 200) (n := slots + 1200) (by show cells + 1 + 3 + 0 + 3 ≤ cells + 200; omega) (by show slots + 6 + 18 + 0 + 18 ≤ slots + 1200; omega) ?_
    exact kk _ _ _ _ _ (lv_N hL1 (by omega)) hP hS ((by rw [f4]; exact lv_sub hl [3, 4, 5, 0, 6, 7] rfl))
set_option maxHeartbeats 4000000 in
set_option maxRecDepth 100000 in
theorem c_quiet {p : Program} {e : Env} {s : State} {m : MethodId} {below : List Frame} {meth : Method} {c : Code} (l : Launch) (hst : l.stackTraces = false) {D : va_G} {ks : Nat → ClassId} {sb bx nL q tn : Nat} {v : Int} {n b k : Nat} {xs : Nat → Int32} {Q : State → Prop} (hx : p.tables.exec = Jvm.exec) (hb : c.code = cL_law) (hml : c.maxLocals = 15) (hown : s.vm.findClass RL = some m.cls) (hts : ∀ w ∈ wsL_law, w.before #[Value.ref sb] s = true) (hX : va_X sb nL xs s s.heap) (hbl : sb < s.heap.size) (hG : GE D ks bx s) (hbb : sb < bx) (hnL : nL ≤ 260) (hq : q < 56) {H : Heap} {locs : List Loc} {ls : Array Slot} {cells slots : Nat} (hcs : cells + 1000 ≤ room_1.cells ∧ slots + 6000 ≤ room_1.slots) {ml : Nat → Nat} {X : Nat → Nat → Int} (hL : LV q X) (hP : PX D ks bx ml X H) (hS : va_S (AR (RC bx) s.heap.size) s.heap H locs) (hl : lv_has ls 15 [(0, .ref sb), (1, .ref bx), (2, .int (z2 (X 4 0))), (3, .int (z2 (1))), (4, .int (z2 (((tn : Nat) : Int)))), (5, .int (z2 (((q : Nat) : Int)))), (6, .int (z2 (v))), (7, .int (z2 (((n : Nat) : Int)))), (8, .int (z2 (((b : Nat) : Int)))), (9, .int (z2 (((k : Nat) : Int))))])
    (hv : -2147483648 ≤ v ∧ v < 2147483648) (hn : n < 8) (hb3 : b < 3) (kk : ∀ (ml1 : Nat → Nat) (X1 : Nat → Nat → Int) (H1 : Heap) (locs1 : List Loc) (ls1 : Array Slot), LV (q + 1) X1 → PX D ks bx ml1 X1 H1 → va_S (AR (RC bx) s.heap.size) s.heap H1 locs1 → lv_has ls1 15 [(0, .ref sb), (1, .ref bx), (2, .int (z2 (X1 4 0))), (3, .int (z2 (1))), (4, .int (z2 (((tn : Nat) : Int)))), (5, .int (z2 (((q : Nat) : Int))))] → W p l e room_1 s m #[Value.ref sb] below meth c H1 locs1 (cells + 200) (slots + 1200) Q (F0 m 721 ls1 [])) :
    W p l e room_1 s m #[Value.ref sb] below meth c H locs cells slots Q (F0 m 581 ls []) := by
  obtain ⟨hV, hT, hY⟩ := id hL
  have b4 : 0 ≤ X 4 0 ∧ X 4 0 ≤ 12 := hV.1 4 0 rfl
  have b6 : 0 ≤ X 6 0 ∧ X 6 0 ≤ 1000000 := hV.1 6 0 rfl
  obtain ⟨w7, hw7, ew7⟩ := z2_ex ((z2 v) >>> ((z2 7) &&& 31))
  refine lv_iload hx hb dL_law_581 (lv_at hl 6 rfl) ?_
  refine b_sipush hx hb dL_law_583 (by decide +kernel) ?_
  refine g_run (vx_runS (As := [.int (z2 (v)), .int (z2 (1000))]) (rest := []) ⟨hx, hb, hml, hown, hts⟩ (w_low l D ks bx _ (v) (1000) ⟨by omega, by omega⟩ ⟨by omega, by omega⟩) (cwS 2 hts gL_law_L_low rfl rfl rfl (by decide +kernel) ⟨Nat.le_of_ble_eq_true rfl, Nat.le_of_ble_eq_true rfl⟩) (g_preS hG hS (fun _ h => h)) rfl rfl hl.1 rfl (lv_room (Nat.le_of_ble_eq_true rfl)) dL_law_586 ⟨by show cells + 0 ≤ room_1.cells; omega, by show slots + 0 ≤ room_1.slots; omega⟩) hS (fun q h => rx_ge q h) (fun _ _ _ _ _ h => h.elim) (fun v H locs hp hz9 hk9 hS => ?_)
  obtain ⟨rfl, hH9⟩ := hp
  obtain rfl := hH9.symm
  obtain ⟨x586, hx586, ex586⟩ : ∃ z : Int, (0 ≤ z ∧ z < (1000)) ∧ z = (v) % 2147483648 % (1000) := ⟨_, ⟨Int.emod_nonneg _ (by omega), Int.emod_lt_of_pos _ (by omega)⟩, rfl⟩
  rw [← ex586]
  refine W.eq (g2 := F0 m 589 ls [.int (z2 (x586))]) rfl ?_
  refine lv_istore (lv' := [(11, .int (z2 (x586))), (0, .ref sb), (1, .ref bx), (2, .int (z2 (X 4 0))), (3, .int (z2 (1))), (4, .int (z2 (((tn : Nat) : Int)))), (5, .int (z2 (((q : Nat) : Int)))), (6, .int (z2 (v))), (7, .int (z2 (((n : Nat) : Int)))), (8, .int (z2 (((b : Nat) : Int)))), (9, .int (z2 (((k : Nat) : Int))))]) hx hb dL_law_589 hl (by decide) rfl (fun ls hl => ?_)
  refine lv_aload_n hx hb dL_law_591 rfl (lv_at hl 2 rfl) ?_
  refine lv_iload hx hb dL_law_592 (lv_at hl 8 rfl) ?_
  refine lv_iload hx hb dL_law_594 (lv_at hl 0 rfl) ?_
  refine lv_iload hx hb dL_law_596 (lv_at hl 0 rfl) ?_
  refine g_run (vx_runV (As := [.int (z2 (((n : Nat) : Int))), .int (z2 (x586)), .int (z2 (x586))]) (rest := []) ⟨hx, hb, hml, hown, hts⟩ (k_setQuiet l D ks bx ml X _ hP hL.1 hst ((n : Nat) : Int) (x586) (x586) ⟨by omega, by omega⟩ ⟨by omega, by omega⟩ ⟨by omega, by omega⟩) (cwV 3 hts gL_law_X4_setQuiet rfl rfl rfl (by decide +kernel) ⟨Nat.le_of_ble_eq_true rfl, Nat.le_of_ble_eq_true rfl⟩) (g_preV (r := (RX4, TX4, 7)) hG hS (fun _ h => h) hP.1 rfl) rfl rfl hl.1 rfl (lv_room (Nat.le_of_ble_eq_true rfl)) dL_law_598 ⟨by show cells + 0 + 2 ≤ room_1.cells; omega, by show slots + 0 + 12 ≤ room_1.slots; omega⟩) hS (fun q h => rx_ge q h) (fun E ce q9 H1 locs1 hp hz9 hk9 hS hce hcv hcl => by obtain ⟨-, e9⟩ := hp; exfalso; rcases e9 with ⟨-, h9⟩ | ⟨-, h9⟩ <;> omega) (fun v H locs hp hz9 hk9 hS => ?_)
  obtain ⟨n9, ⟨⟨a1, a2⟩, a3⟩, rfl, hP9⟩ := hp
  obtain rfl : n = n9 := by omega
  have hLY := lv_qui hL (n := n) (a := x586) (b := x586) ⟨by omega, by omega, by omega, by omega⟩
  obtain ⟨-, -, -, fY4⟩ := qu_15 X n (x586) (x586)
  have qY := qv_0 X n (x586)
  obtain ⟨Y, hYe⟩ : ∃ Y9, Y9 = up (up X 15 n (x586)) 16 n (x586) := ⟨_, rfl⟩
  rw [← hYe] at hP9 fY4 hLY qY
  have hP := hP9
  have bqY := qv_b Y n
  rw [← hYe]
  refine W.eq (g2 := F0 m 601 ls (.int (z2 (qv Y n)) :: [])) rfl ?_
  rw [qY]
  refine W.eq (g2 := F0 m 601 ls [.int (z2 (0))]) rfl ?_
  refine b_if_ne (tgt := 649) hx hb dL_law_601 (by decide) ⟨by omega, by omega⟩ (fun c => absurd c (by omega)) (fun _ => ?_)
  refine lv_aload_n hx hb dL_law_604 rfl (lv_at hl 2 rfl) ?_
  refine lv_iload hx hb dL_law_605 (lv_at hl 8 rfl) ?_
  refine lv_iload hx hb dL_law_607 (lv_at hl 0 rfl) ?_
  refine lv_iload hx hb dL_law_609 (lv_at hl 7 rfl) ?_
  refine b_bipush hx hb dL_law_611 (by decide +kernel) ?_
  refine lv_ishr hx hb dL_law_613 ?_
  refine b_top (v := w7) ew7 ?_
  refine b_sipush hx hb dL_law_614 (by decide +kernel) ?_
  refine g_run (vx_runS (As := [.int (z2 (w7)), .int (z2 (1000))]) (rest := [.int (z2 (x586)), .int (z2 (((n : Nat) : Int))), .ref bx]) ⟨hx, hb, hml, hown, hts⟩ (w_low l D ks bx _ (w7) (1000) ⟨by omega, by omega⟩ ⟨by omega, by omega⟩) (cwS 2 hts gL_law_L_low rfl rfl rfl (by decide +kernel) ⟨Nat.le_of_ble_eq_true rfl, Nat.le_of_ble_eq_true rfl⟩) (g_preS hG hS (fun _ h => h)) rfl rfl hl.1 rfl (lv_room (Nat.le_of_ble_eq_true rfl)) dL_law_617 ⟨by show cells + 0 + 2 + 0 ≤ room_1.cells; omega, by show slots + 0 + 12 + 0 ≤ room_1.slots; omega⟩) hS (fun q h => rx_ge q h) (fun _ _ _ _ _ h => h.elim) (fun v H locs hp hz9 hk9 hS => ?_)
  obtain ⟨rfl, hH9⟩ := hp
  obtain rfl := hH9.symm
  obtain ⟨x617, hx617, ex617⟩ : ∃ z : Int, (0 ≤ z ∧ z < (1000)) ∧ z = (w7) % 2147483648 % (1000) := ⟨_, ⟨Int.emod_nonneg _ (by omega), Int.emod_lt_of_pos _ (by omega)⟩, rfl⟩
  rw [← ex617]
  refine W.eq (g2 := F0 m 620 ls [.int (z2 (x617)), .int (z2 (x586)), .int (z2 (((n : Nat) : Int))), .ref bx]) rfl ?_
  refine g_run (vx_runV (As := [.int (z2 (((n : Nat) : Int))), .int (z2 (x586)), .int (z2 (x617))]) (rest := []) ⟨hx, hb, hml, hown, hts⟩ (k_setQuiet l D ks bx ml Y _ hP hLY.1 hst ((n : Nat) : Int) (x586) (x617) ⟨by omega, by omega⟩ ⟨by omega, by omega⟩ ⟨by omega, by omega⟩) (cwV 3 hts gL_law_X4_setQuiet rfl rfl rfl (by decide +kernel) ⟨Nat.le_of_ble_eq_true rfl, Nat.le_of_ble_eq_true rfl⟩) (g_preV (r := (RX4, TX4, 7)) hG hS (fun _ h => h) hP.1 rfl) rfl rfl hl.1 rfl (lv_room (Nat.le_of_ble_eq_true rfl)) dL_law_620 ⟨by show cells + 0 + 2 + 0 + 2 ≤ room_1.cells; omega, by show slots + 0 + 12 + 0 + 12 ≤ room_1.slots; omega⟩) hS (fun q h => rx_ge q h) (fun E ce q9 H1 locs1 hp hz9 hk9 hS hce hcv hcl => by obtain ⟨-, e9⟩ := hp; exfalso; rcases e9 with ⟨-, h9⟩ | ⟨-, h9⟩ <;> omega) (fun v H locs hp hz9 hk9 hS => ?_)
  obtain ⟨n9, ⟨⟨a1, a2⟩, a3⟩, rfl, hP9⟩ := hp
  obtain rfl : n = n9 := by omega
  have hLZ := lv_qui hLY (n := n) (a := x586) (b := x617) ⟨by omega, by omega, by omega, by omega⟩
  obtain ⟨-, -, -, fZ4⟩ := qu_15 Y n (x586) (x617)
  obtain ⟨Z, hZe⟩ : ∃ Y9, Y9 = up (up Y 15 n (x586)) 16 n (x617) := ⟨_, rfl⟩
  rw [← hZe] at hP9 fZ4 hLZ
  have hP := hP9
  have bqZ := qv_b Z n
  rw [← hZe]
  refine W.eq (g2 := F0 m 623 ls [.int (z2 (qv Z n))]) rfl ?_
  refine lv_aload_n hx hb dL_law_623 rfl (lv_at hl 2 rfl) ?_
  refine lv_iload hx hb dL_law_624 (lv_at hl 8 rfl) ?_
  refine lv_iload hx hb dL_law_626 (lv_at hl 0 rfl) ?_
  refine lv_iload hx hb dL_law_628 (lv_at hl 7 rfl) ?_
  refine b_bipush hx hb dL_law_630 (by decide +kernel) ?_
  refine lv_ishr hx hb dL_law_632 ?_
  refine b_top (v := w7) ew7 ?_
  refine b_sipush hx hb dL_law_633 (by decide +kernel) ?_
  refine g_run (vx_runS (As := [.int (z2 (w7)), .int (z2 (1000))]) (rest := [.int (z2 (x586)), .int (z2 (((n : Nat) : Int))), .ref bx, .int (z2 (qv Z n))]) ⟨hx, hb, hml, hown, hts⟩ (w_low l D ks bx _ (w7) (1000) ⟨by omega, by omega⟩ ⟨by omega, by omega⟩) (cwS 2 hts gL_law_L_low rfl rfl rfl (by decide +kernel) ⟨Nat.le_of_ble_eq_true rfl, Nat.le_of_ble_eq_true rfl⟩) (g_preS hG hS (fun _ h => h)) rfl rfl hl.1 rfl (lv_room (Nat.le_of_ble_eq_true rfl)) dL_law_636 ⟨by show cells + 0 + 2 + 0 + 2 + 0 ≤ room_1.cells; omega, by show slots + 0 + 12 + 0 + 12 + 0 ≤ room_1.slots; omega⟩) hS (fun q h => rx_ge q h) (fun _ _ _ _ _ h => h.elim) (fun v H locs hp hz9 hk9 hS => ?_)
  obtain ⟨rfl, hH9⟩ := hp
  obtain rfl := hH9.symm
  rw [← ex617]
  refine W.eq (g2 := F0 m 639 ls [.int (z2 (x617)), .int (z2 (x586)), .int (z2 (((n : Nat) : Int))), .ref bx, .int (z2 (qv Z n))]) rfl ?_
  refine g_run (vx_runV (As := [.int (z2 (((n : Nat) : Int))), .int (z2 (x586)), .int (z2 (x617))]) (rest := [.int (z2 (qv Z n))]) ⟨hx, hb, hml, hown, hts⟩ (k_setQuiet l D ks bx ml Z _ hP hLZ.1 hst ((n : Nat) : Int) (x586) (x617) ⟨by omega, by omega⟩ ⟨by omega, by omega⟩ ⟨by omega, by omega⟩) (cwV 3 hts gL_law_X4_setQuiet rfl rfl rfl (by decide +kernel) ⟨Nat.le_of_ble_eq_true rfl, Nat.le_of_ble_eq_true rfl⟩) (g_preV (r := (RX4, TX4, 7)) hG hS (fun _ h => h) hP.1 rfl) rfl rfl hl.1 rfl (lv_room (Nat.le_of_ble_eq_true rfl)) dL_law_639 ⟨by show cells + 0 + 2 + 0 + 2 + 0 + 2 ≤ room_1.cells; omega, by show slots + 0 + 12 + 0 + 12 + 0 + 12 ≤ room_1.slots; omega⟩) hS (fun q h => rx_ge q h) (fun E ce q9 H1 locs1 hp hz9 hk9 hS hce hcv hcl => by obtain ⟨-, e9⟩ := hp; exfalso; rcases e9 with ⟨-, h9⟩ | ⟨-, h9⟩ <;> omega) (fun v H locs hp hz9 hk9 hS => ?_)
  obtain ⟨n9, ⟨⟨a1, a2⟩, a3⟩, rfl, hP9⟩ := hp
  obtain rfl : n = n9 := by omega
  have hLU := lv_qui hLZ (n := n) (a := x586) (b := x617) ⟨by omega, by omega, by omega, by omega⟩
  obtain ⟨-, -, -, fU4⟩ := qu_15 Z n (x586) (x617)
  have qU := qv_2 Y n (x586) (x617)
  rw [← hZe] at qU
  obtain ⟨U, hUe⟩ : ∃ Y9, Y9 = up (up Z 15 n (x586)) 16 n (x617) := ⟨_, rfl⟩
  rw [← hUe] at hP9 fU4 hLU qU
  have hP := hP9
  have bqU := qv_b U n
  rw [← hUe]
  refine W.eq (g2 := F0 m 642 ls [.int (z2 (qv U n)), .int (z2 (qv Z n))]) rfl ?_
  refine b_icmp_ne (tgt := 649) hx hb dL_law_642 (by decide) ⟨⟨by omega, by omega⟩, ⟨by omega, by omega⟩⟩ (fun c => absurd c (by omega)) (fun _ => ?_)
  refine b_iconst hx hb dL_law_645 ?_
  refine lv_goto (tgt := 650) hx hb dL_law_646 (by decide) ?_
  refine lv_istore_n (lv' := [(3, .int (z2 (1))), (11, .int (z2 (x586))), (0, .ref sb), (1, .ref bx), (2, .int (z2 (X 4 0))), (4, .int (z2 (((tn : Nat) : Int)))), (5, .int (z2 (((q : Nat) : Int)))), (6, .int (z2 (v))), (7, .int (z2 (((n : Nat) : Int)))), (8, .int (z2 (((b : Nat) : Int)))), (9, .int (z2 (((k : Nat) : Int))))]) hx hb dL_law_650 rfl hl (by decide) rfl (fun ls hl => ?_)
  refine lv_goto (tgt := 721) hx hb dL_law_651 (by decide) ?_
  refine W.widen (k := cells + 200) (n := slots + 1200) (by show cells + 0 + 2 + 0 + 2 + 0 + 2 ≤ cells + 200; omega) (by show slots + 0 + 12 + 0 + 12 + 0 + 12 ≤ slots + 1200; omega) ?_
  exact kk _ _ _ _ _ (lv_N hLU (by omega)) hP hS ((by rw [fU4, fZ4, fY4]; exact lv_sub hl [2, 3, 4, 0, 5, 6] rfl))
set_option maxHeartbeats 4000000 in
set_option maxRecDepth 100000 in
theorem c_pass {p : Program} {e : Env} {s : State} {m : MethodId} {below : List Frame} {meth : Method} {c : Code} (l : Launch) (hst : l.stackTraces = false) {D : va_G} {ks : Nat → ClassId} {sb bx nL q tn : Nat} {v : Int} {n b k : Nat} {xs : Nat → Int32} {Q : State → Prop} (hx : p.tables.exec = Jvm.exec) (hb : c.code = cL_law) (hml : c.maxLocals = 15) (hown : s.vm.findClass RL = some m.cls) (hts : ∀ w ∈ wsL_law, w.before #[Value.ref sb] s = true) (hX : va_X sb nL xs s s.heap) (hbl : sb < s.heap.size) (hG : GE D ks bx s) (hbb : sb < bx) (hnL : nL ≤ 260) (hq : q < 56) {H : Heap} {locs : List Loc} {ls : Array Slot} {cells slots : Nat} (hcs : cells + 1000 ≤ room_1.cells ∧ slots + 6000 ≤ room_1.slots) {ml : Nat → Nat} {X : Nat → Nat → Int} (hL : LV q X) (hP : PX D ks bx ml X H) (hS : va_S (AR (RC bx) s.heap.size) s.heap H locs) (hl : lv_has ls 15 [(0, .ref sb), (1, .ref bx), (2, .int (z2 (X 4 0))), (3, .int (z2 (1))), (4, .int (z2 (((tn : Nat) : Int)))), (5, .int (z2 (((q : Nat) : Int)))), (6, .int (z2 (v))), (7, .int (z2 (((n : Nat) : Int)))), (8, .int (z2 (((b : Nat) : Int)))), (9, .int (z2 (((k : Nat) : Int))))])
    (hv : -2147483648 ≤ v ∧ v < 2147483648) (hn : n < 8) (hb3 : b < 3) (kk : ∀ (ml1 : Nat → Nat) (X1 : Nat → Nat → Int) (H1 : Heap) (locs1 : List Loc) (ls1 : Array Slot), LV (q + 1) X1 → PX D ks bx ml1 X1 H1 → va_S (AR (RC bx) s.heap.size) s.heap H1 locs1 → lv_has ls1 15 [(0, .ref sb), (1, .ref bx), (2, .int (z2 (X1 4 0))), (3, .int (z2 (1))), (4, .int (z2 (((tn : Nat) : Int)))), (5, .int (z2 (((q : Nat) : Int))))] → W p l e room_1 s m #[Value.ref sb] below meth c H1 locs1 (cells + 200) (slots + 1200) Q (F0 m 721 ls1 [])) :
    W p l e room_1 s m #[Value.ref sb] below meth c H locs cells slots Q (F0 m 654 ls []) := by
  obtain ⟨hV, hT, hY⟩ := id hL
  have b4 : 0 ≤ X 4 0 ∧ X 4 0 ≤ 12 := hV.1 4 0 rfl
  have b6 : 0 ≤ X 6 0 ∧ X 6 0 ≤ 1000000 := hV.1 6 0 rfl
  obtain ⟨w9, hw9, ew9⟩ := z2_ex ((z2 v) >>> ((z2 9) &&& 31))
  have y9 := hY.2.2.2.2.2.2
  refine lv_aload_n hx hb dL_law_654 rfl (lv_at hl 1 rfl) ?_
  refine g_run (vx_runV (As := []) (rest := []) ⟨hx, hb, hml, hown, hts⟩ (k_time l D ks bx ml X _ hP hV) (cwV 0 hts gL_law_X4_time rfl rfl rfl (by decide +kernel) ⟨Nat.le_of_ble_eq_true rfl, Nat.le_of_ble_eq_true rfl⟩) (g_preV (r := (RX4, TX4, 7)) hG hS (fun _ h => h) hP.1 rfl) rfl rfl hl.1 rfl (lv_room (Nat.le_of_ble_eq_true rfl)) dL_law_655 ⟨by show cells + 0 ≤ room_1.cells; omega, by show slots + 0 ≤ room_1.slots; omega⟩) hS (fun q h => rx_ge q h) (fun _ _ _ _ _ h => h.elim) (fun v H locs hp hz9 hk9 hS => ?_)
  obtain ⟨rfl, hH9⟩ := hp
  obtain rfl := hH9.symm
  refine W.eq (g2 := F0 m 658 ls [.int (z2 (X 6 0))]) rfl ?_
  refine lv_istore (lv' := [(11, .int (z2 (X 6 0))), (0, .ref sb), (1, .ref bx), (2, .int (z2 (X 4 0))), (3, .int (z2 (1))), (4, .int (z2 (((tn : Nat) : Int)))), (5, .int (z2 (((q : Nat) : Int)))), (6, .int (z2 (v))), (7, .int (z2 (((n : Nat) : Int)))), (8, .int (z2 (((b : Nat) : Int)))), (9, .int (z2 (((k : Nat) : Int))))]) hx hb dL_law_658 hl (by decide) rfl (fun ls hl => ?_)
  refine b_iconst hx hb dL_law_660 ?_
  refine lv_iload hx hb dL_law_661 (lv_at hl 7 rfl) ?_
  refine lv_iload hx hb dL_law_663 (lv_at hl 7 rfl) ?_
  refine b_bipush hx hb dL_law_665 (by decide +kernel) ?_
  refine lv_ishr hx hb dL_law_667 ?_
  refine b_top (v := w9) ew9 ?_
  refine b_iconst hx hb dL_law_668 ?_
  refine g_run (vx_runS (As := [.int (z2 (w9)), .int (z2 (3))]) (rest := [.int (z2 (v)), .int (z2 (1))]) ⟨hx, hb, hml, hown, hts⟩ (w_low l D ks bx _ (w9) (3) ⟨by omega, by omega⟩ ⟨by omega, by omega⟩) (cwS 2 hts gL_law_L_low rfl rfl rfl (by decide +kernel) ⟨Nat.le_of_ble_eq_true rfl, Nat.le_of_ble_eq_true rfl⟩) (g_preS hG hS (fun _ h => h)) rfl rfl hl.1 rfl (lv_room (Nat.le_of_ble_eq_true rfl)) dL_law_669 ⟨by show cells + 0 + 0 ≤ room_1.cells; omega, by show slots + 0 + 0 ≤ room_1.slots; omega⟩) hS (fun q h => rx_ge q h) (fun _ _ _ _ _ h => h.elim) (fun v H locs hp hz9 hk9 hS => ?_)
  obtain ⟨rfl, hH9⟩ := hp
  obtain rfl := hH9.symm
  obtain ⟨x669, hx669, ex669⟩ : ∃ z : Int, (0 ≤ z ∧ z < (3)) ∧ z = (w9) % 2147483648 % (3) := ⟨_, ⟨Int.emod_nonneg _ (by omega), Int.emod_lt_of_pos _ (by omega)⟩, rfl⟩
  rw [← ex669]
  refine W.eq (g2 := F0 m 672 ls [.int (z2 (x669)), .int (z2 (v)), .int (z2 (1))]) rfl ?_
  refine b_if_ne (tgt := 681) hx hb dL_law_672 (by decide) ⟨by omega, by omega⟩ (fun c_672 => ?_) (fun c_672 => ?_)
  · skip
    refine b_bipush hx hb dL_law_681 (by decide +kernel) ?_
    refine g_run (vx_runS (As := [.int (z2 (v)), .int (z2 (30))]) (rest := [.int (z2 (1))]) ⟨hx, hb, hml, hown, hts⟩ (w_low l D ks bx _ (v) (30) ⟨by omega, by omega⟩ ⟨by omega, by omega⟩) (cwS 2 hts gL_law_L_low rfl rfl rfl (by decide +kernel) ⟨Nat.le_of_ble_eq_true rfl, Nat.le_of_ble_eq_true rfl⟩) (g_preS hG hS (fun _ h => h)) rfl rfl hl.1 rfl (lv_room (Nat.le_of_ble_eq_true rfl)) dL_law_683 ⟨by show cells + 0 + 0 + 0 ≤ room_1.cells; omega, by show slots + 0 + 0 + 0 ≤ room_1.slots; omega⟩) hS (fun q h => rx_ge q h) (fun _ _ _ _ _ h => h.elim) (fun v H locs hp hz9 hk9 hS => ?_)
    obtain ⟨rfl, hH9⟩ := hp
    obtain rfl := hH9.symm
    obtain ⟨x683, hx683, ex683⟩ : ∃ z : Int, (0 ≤ z ∧ z < (30)) ∧ z = (v) % 2147483648 % (30) := ⟨_, ⟨Int.emod_nonneg _ (by omega), Int.emod_lt_of_pos _ (by omega)⟩, rfl⟩
    rw [← ex683]
    refine W.eq (g2 := F0 m 686 ls [.int (z2 (x683)), .int (z2 (1))]) rfl ?_
    refine b_iadd hx hb dL_law_686 ?_
    obtain ⟨r9, hr9⟩ : ∃ r9 : Int, 1 + x683 = r9 := ⟨_, rfl⟩
    refine b_top (v := r9) (congrArg z2 hr9) ?_
    refine lv_istore (lv' := [(12, .int (z2 (r9))), (11, .int (z2 (X 6 0))), (0, .ref sb), (1, .ref bx), (2, .int (z2 (X 4 0))), (3, .int (z2 (1))), (4, .int (z2 (((tn : Nat) : Int)))), (5, .int (z2 (((q : Nat) : Int)))), (6, .int (z2 (v))), (7, .int (z2 (((n : Nat) : Int)))), (8, .int (z2 (((b : Nat) : Int)))), (9, .int (z2 (((k : Nat) : Int))))]) hx hb dL_law_687 hl (by decide) rfl (fun ls hl => ?_)
    refine lv_aload_n hx hb dL_law_689 rfl (lv_at hl 3 rfl) ?_
    refine lv_iload hx hb dL_law_690 (lv_at hl 0 rfl) ?_
    refine g_run (vx_runV (As := [.int (z2 (r9))]) (rest := []) ⟨hx, hb, hml, hown, hts⟩ (k_pass l D ks bx ml X _ hP hV hst (r9) ⟨by omega, by omega⟩) (cwV 1 hts gL_law_X4_pass rfl rfl rfl (by decide +kernel) ⟨Nat.le_of_ble_eq_true rfl, Nat.le_of_ble_eq_true rfl⟩) (g_preV (r := (RX4, TX4, 7)) hG hS (fun _ h => h) hP.1 rfl) rfl rfl hl.1 rfl (lv_room (Nat.le_of_ble_eq_true rfl)) dL_law_692 ⟨by show cells + 0 + 0 + 0 + 2 ≤ room_1.cells; omega, by show slots + 0 + 0 + 0 + 12 ≤ room_1.slots; omega⟩) hS (fun q h => rx_ge q h) (fun E ce q9 H1 locs1 hp hz9 hk9 hS hce hcv hcl => by obtain ⟨-, e9⟩ := hp; exfalso; rcases e9 with ⟨-, h9⟩ | ⟨-, h9⟩ <;> omega) (fun v H locs hp hz9 hk9 hS => ?_)
    obtain ⟨j9, ⟨⟨a1, a2⟩, a3, a4⟩, rfl, hP9⟩ := hp
    obtain ⟨hL1, u1, u2⟩ := pa_lv (lv_N hL (Nat.le_succ q)) (e := X 6 0 + r9) ⟨by omega, by omega⟩ (by omega) j9
    have f4 := pa_4 X (X 6 0 + r9) j9
    obtain ⟨Y, hYe⟩ : ∃ Y, Y = paX X (X 6 0 + r9) j9 := ⟨_, rfl⟩
    rw [← hYe] at hP9 f4 hL1 u1 u2 a4
    rw [← hYe]
    clear hYe
    have hP := hP9
    have f6 : Y 6 0 = X 6 0 + r9 := by omega
    refine W.eq (g2 := F0 m 695 ls [.int (z2 (Y 6 0))]) rfl ?_
    refine lv_iload hx hb dL_law_695 (lv_at hl 1 rfl) ?_
    refine lv_iload hx hb dL_law_697 (lv_at hl 0 rfl) ?_
    refine b_iadd hx hb dL_law_699 ?_
    refine b_icmp_ne (tgt := 719) hx hb dL_law_700 (by decide) ⟨⟨by omega, by omega⟩, ⟨by omega, by omega⟩⟩ (fun c => absurd c (by omega)) (fun _ => ?_)
    refine lv_aload_n hx hb dL_law_703 rfl (lv_at hl 3 rfl) ?_
    refine g_run (vx_runV (As := []) (rest := []) ⟨hx, hb, hml, hown, hts⟩ (k_time l D ks bx ml Y _ hP hL1.1) (cwV 0 hts gL_law_X4_time rfl rfl rfl (by decide +kernel) ⟨Nat.le_of_ble_eq_true rfl, Nat.le_of_ble_eq_true rfl⟩) (g_preV (r := (RX4, TX4, 7)) hG hS (fun _ h => h) hP.1 rfl) rfl rfl hl.1 rfl (lv_room (Nat.le_of_ble_eq_true rfl)) dL_law_704 ⟨by show cells + 0 + 0 + 0 + 2 + 0 ≤ room_1.cells; omega, by show slots + 0 + 0 + 0 + 12 + 0 ≤ room_1.slots; omega⟩) hS (fun q h => rx_ge q h) (fun _ _ _ _ _ h => h.elim) (fun v H locs hp hz9 hk9 hS => ?_)
    obtain ⟨rfl, hH9⟩ := hp
    obtain rfl := hH9.symm
    refine W.eq (g2 := F0 m 707 ls [.int (z2 (Y 6 0))]) rfl ?_
    refine lv_iload hx hb dL_law_707 (lv_at hl 1 rfl) ?_
    refine lv_iload hx hb dL_law_709 (lv_at hl 0 rfl) ?_
    refine b_iadd hx hb dL_law_711 ?_
    refine b_icmp_ne (tgt := 719) hx hb dL_law_712 (by decide) ⟨⟨by omega, by omega⟩, ⟨by omega, by omega⟩⟩ (fun c => absurd c (by omega)) (fun _ => ?_)
    refine b_iconst hx hb dL_law_715 ?_
    refine lv_goto (tgt := 720) hx hb dL_law_716 (by decide) ?_
    refine lv_istore_n (lv' := [(3, .int (z2 (1))), (12, .int (z2 (r9))), (11, .int (z2 (X 6 0))), (0, .ref sb), (1, .ref bx), (2, .int (z2 (X 4 0))), (4, .int (z2 (((tn : Nat) : Int)))), (5, .int (z2 (((q : Nat) : Int)))), (6, .int (z2 (v))), (7, .int (z2 (((n : Nat) : Int)))), (8, .int (z2 (((b : Nat) : Int)))), (9, .int (z2 (((k : Nat) : Int))))]) hx hb dL_law_720 rfl hl (by decide) rfl (fun ls hl => ?_)
    refine W.widen (k := cells + 200) (n := slots + 1200) (by show cells + 0 + 0 + 0 + 2 + 0 ≤ cells + 200; omega) (by show slots + 0 + 0 + 0 + 12 + 0 ≤ slots + 1200; omega) ?_
    exact kk _ _ _ _ _ (hL1) hP hS ((by rw [f4]; exact lv_sub hl [3, 4, 5, 0, 6, 7] rfl))
  · skip
    refine b_sipush hx hb dL_law_675 (by decide +kernel) ?_
    refine lv_goto (tgt := 683) hx hb dL_law_678 (by decide) ?_
    refine g_run (vx_runS (As := [.int (z2 (v)), .int (z2 (1100))]) (rest := [.int (z2 (1))]) ⟨hx, hb, hml, hown, hts⟩ (w_low l D ks bx _ (v) (1100) ⟨by omega, by omega⟩ ⟨by omega, by omega⟩) (cwS 2 hts gL_law_L_low rfl rfl rfl (by decide +kernel) ⟨Nat.le_of_ble_eq_true rfl, Nat.le_of_ble_eq_true rfl⟩) (g_preS hG hS (fun _ h => h)) rfl rfl hl.1 rfl (lv_room (Nat.le_of_ble_eq_true rfl)) dL_law_683 ⟨by show cells + 0 + 0 + 0 ≤ room_1.cells; omega, by show slots + 0 + 0 + 0 ≤ room_1.slots; omega⟩) hS (fun q h => rx_ge q h) (fun _ _ _ _ _ h => h.elim) (fun v H locs hp hz9 hk9 hS => ?_)
    obtain ⟨rfl, hH9⟩ := hp
    obtain rfl := hH9.symm
    obtain ⟨x683, hx683, ex683⟩ : ∃ z : Int, (0 ≤ z ∧ z < (1100)) ∧ z = (v) % 2147483648 % (1100) := ⟨_, ⟨Int.emod_nonneg _ (by omega), Int.emod_lt_of_pos _ (by omega)⟩, rfl⟩
    rw [← ex683]
    refine W.eq (g2 := F0 m 686 ls [.int (z2 (x683)), .int (z2 (1))]) rfl ?_
    refine b_iadd hx hb dL_law_686 ?_
    obtain ⟨r9, hr9⟩ : ∃ r9 : Int, 1 + x683 = r9 := ⟨_, rfl⟩
    refine b_top (v := r9) (congrArg z2 hr9) ?_
    refine lv_istore (lv' := [(12, .int (z2 (r9))), (11, .int (z2 (X 6 0))), (0, .ref sb), (1, .ref bx), (2, .int (z2 (X 4 0))), (3, .int (z2 (1))), (4, .int (z2 (((tn : Nat) : Int)))), (5, .int (z2 (((q : Nat) : Int)))), (6, .int (z2 (v))), (7, .int (z2 (((n : Nat) : Int)))), (8, .int (z2 (((b : Nat) : Int)))), (9, .int (z2 (((k : Nat) : Int))))]) hx hb dL_law_687 hl (by decide) rfl (fun ls hl => ?_)
    refine lv_aload_n hx hb dL_law_689 rfl (lv_at hl 3 rfl) ?_
    refine lv_iload hx hb dL_law_690 (lv_at hl 0 rfl) ?_
    refine g_run (vx_runV (As := [.int (z2 (r9))]) (rest := []) ⟨hx, hb, hml, hown, hts⟩ (k_pass l D ks bx ml X _ hP hV hst (r9) ⟨by omega, by omega⟩) (cwV 1 hts gL_law_X4_pass rfl rfl rfl (by decide +kernel) ⟨Nat.le_of_ble_eq_true rfl, Nat.le_of_ble_eq_true rfl⟩) (g_preV (r := (RX4, TX4, 7)) hG hS (fun _ h => h) hP.1 rfl) rfl rfl hl.1 rfl (lv_room (Nat.le_of_ble_eq_true rfl)) dL_law_692 ⟨by show cells + 0 + 0 + 0 + 2 ≤ room_1.cells; omega, by show slots + 0 + 0 + 0 + 12 ≤ room_1.slots; omega⟩) hS (fun q h => rx_ge q h) (fun E ce q9 H1 locs1 hp hz9 hk9 hS hce hcv hcl => by obtain ⟨-, e9⟩ := hp; exfalso; rcases e9 with ⟨-, h9⟩ | ⟨-, h9⟩ <;> omega) (fun v H locs hp hz9 hk9 hS => ?_)
    obtain ⟨j9, ⟨⟨a1, a2⟩, a3, a4⟩, rfl, hP9⟩ := hp
    obtain ⟨hL1, u1, u2⟩ := pa_lv (lv_N hL (Nat.le_succ q)) (e := X 6 0 + r9) ⟨by omega, by omega⟩ (by omega) j9
    have f4 := pa_4 X (X 6 0 + r9) j9
    obtain ⟨Y, hYe⟩ : ∃ Y, Y = paX X (X 6 0 + r9) j9 := ⟨_, rfl⟩
    rw [← hYe] at hP9 f4 hL1 u1 u2 a4
    rw [← hYe]
    clear hYe
    have hP := hP9
    have f6 : Y 6 0 = X 6 0 + r9 := by omega
    refine W.eq (g2 := F0 m 695 ls [.int (z2 (Y 6 0))]) rfl ?_
    refine lv_iload hx hb dL_law_695 (lv_at hl 1 rfl) ?_
    refine lv_iload hx hb dL_law_697 (lv_at hl 0 rfl) ?_
    refine b_iadd hx hb dL_law_699 ?_
    refine b_icmp_ne (tgt := 719) hx hb dL_law_700 (by decide) ⟨⟨by omega, by omega⟩, ⟨by omega, by omega⟩⟩ (fun c => absurd c (by omega)) (fun _ => ?_)
    refine lv_aload_n hx hb dL_law_703 rfl (lv_at hl 3 rfl) ?_
    refine g_run (vx_runV (As := []) (rest := []) ⟨hx, hb, hml, hown, hts⟩ (k_time l D ks bx ml Y _ hP hL1.1) (cwV 0 hts gL_law_X4_time rfl rfl rfl (by decide +kernel) ⟨Nat.le_of_ble_eq_true rfl, Nat.le_of_ble_eq_true rfl⟩) (g_preV (r := (RX4, TX4, 7)) hG hS (fun _ h => h) hP.1 rfl) rfl rfl hl.1 rfl (lv_room (Nat.le_of_ble_eq_true rfl)) dL_law_704 ⟨by show cells + 0 + 0 + 0 + 2 + 0 ≤ room_1.cells; omega, by show slots + 0 + 0 + 0 + 12 + 0 ≤ room_1.slots; omega⟩) hS (fun q h => rx_ge q h) (fun _ _ _ _ _ h => h.elim) (fun v H locs hp hz9 hk9 hS => ?_)
    obtain ⟨rfl, hH9⟩ := hp
    obtain rfl := hH9.symm
    refine W.eq (g2 := F0 m 707 ls [.int (z2 (Y 6 0))]) rfl ?_
    refine lv_iload hx hb dL_law_707 (lv_at hl 1 rfl) ?_
    refine lv_iload hx hb dL_law_709 (lv_at hl 0 rfl) ?_
    refine b_iadd hx hb dL_law_711 ?_
    refine b_icmp_ne (tgt := 719) hx hb dL_law_712 (by decide) ⟨⟨by omega, by omega⟩, ⟨by omega, by omega⟩⟩ (fun c => absurd c (by omega)) (fun _ => ?_)
    refine b_iconst hx hb dL_law_715 ?_
    refine lv_goto (tgt := 720) hx hb dL_law_716 (by decide) ?_
    refine lv_istore_n (lv' := [(3, .int (z2 (1))), (12, .int (z2 (r9))), (11, .int (z2 (X 6 0))), (0, .ref sb), (1, .ref bx), (2, .int (z2 (X 4 0))), (4, .int (z2 (((tn : Nat) : Int)))), (5, .int (z2 (((q : Nat) : Int)))), (6, .int (z2 (v))), (7, .int (z2 (((n : Nat) : Int)))), (8, .int (z2 (((b : Nat) : Int)))), (9, .int (z2 (((k : Nat) : Int))))]) hx hb dL_law_720 rfl hl (by decide) rfl (fun ls hl => ?_)
    refine W.widen (k := cells + 200) (n := slots + 1200) (by show cells + 0 + 0 + 0 + 2 + 0 ≤ cells + 200; omega) (by show slots + 0 + 0 + 0 + 12 + 0 ≤ slots + 1200; omega) ?_
    exact kk _ _ _ _ _ (hL1) hP hS ((by rw [f4]; exact lv_sub hl [3, 4, 5, 0, 6, 7] rfl))
