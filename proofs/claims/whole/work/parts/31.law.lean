/-! THE LAW: its cases. -/
theorem lg_self {x y : Int64} (h : x = y) : lg_cmp x y = z2 0 := by
  subst h
  unfold lg_cmp
  rw [if_neg (by intro h; rw [gt_iff_lt, Int64.lt_iff_toInt_lt] at h; omega), if_pos rfl]
  exact z2_0
theorem g_scr {p : Program} {l : Launch} {e : Env} {R : Room} {s : State} {m : MethodId} {args : Array Value} {below : List Frame} {meth : Method} {c : Code} {H : Heap} {locs : List Loc} {cells slots : Nat} {Q : State → Prop} {cc : ByteArray} {pc : Nat} {ls : Array Slot} {rest : List Value} {A : Nat → Prop}
    (hx : p.tables.exec = Jvm.exec) (hb : c.code = cc) {b nL : Nat} {xs : Nat → Int32} (hX : va_X b nL xs s s.heap) (hbl : b < s.heap.size) (hbA : ¬ A b) (hS : va_S A s.heap H locs) {i v : Int} (n : Nat) (hi : i = (n : Int) ∧ n < nL ∧ nL < 2147483648) (hv : xs n = z2 v) (hdg : decode cc pc = .ok (.iaload, 1))
    (kk : W p l e R s m args below meth c H locs cells slots Q (F0 m (pc + 1) ls (.int (z2 v) :: rest))) : W p l e R s m args below meth c H locs cells slots Q (F0 m pc ls (.int (z2 i) :: .ref b :: rest)) :=
  va_sld hx hb hX hbl hbA hS (zj_in hi) hdg (by rw [zj_cl hi, hv]; exact kk)
theorem z_addMelody {X Y : Nat → Nat → Int} {u v2 t z r : Int} (h : co_addMelody X u v2 t z r Y) : 0 ≤ z ∧ z ≤ 3 := by
  rcases h with ⟨_, _, _, h, _⟩ | ⟨_, h, _⟩ | ⟨_, h, _⟩ | ⟨_, h, _⟩ <;> omega
theorem z_toneAt {X Y : Nat → Nat → Int} {u v2 z r : Int} (h : co_toneAt X u v2 z r Y) : 0 ≤ z ∧ z ≤ 3 := by
  rcases h with ⟨_, _, _, h, _⟩ | ⟨_, h, _⟩ <;> omega
theorem z_shifted {X Y : Nat → Nat → Int} {u v2 z r : Int} (h : co_shifted X u v2 z r Y) : 0 ≤ z ∧ z ≤ 3 := by
  rcases h with ⟨_, _, _, h, _⟩ | ⟨_, h, _⟩ | ⟨_, h, _⟩ <;> omega
theorem z_turned {X Y : Nat → Nat → Int} {u z r : Int} (h : co_turned X u z r Y) : 0 ≤ z ∧ z ≤ 3 := by
  rcases h with ⟨_, _, _, h, _⟩ | ⟨_, h, _⟩ <;> omega
theorem z_areAlike {X Y : Nat → Nat → Int} {u v2 z r : Int} (h : co_areAlike X u v2 z r Y) : 0 ≤ z ∧ z ≤ 3 := by
  rcases h with ⟨_, _, _, h, _⟩ | ⟨_, h, _⟩ <;> omega
theorem z_license {X Y : Nat → Nat → Int} {u v2 u3 z r : Int} (h : co_license X u v2 u3 z r Y) : 0 ≤ z ∧ z ≤ 3 := by
  rcases h with ⟨_, _, _, h, _⟩ | ⟨_, h, _⟩ | ⟨_, h, _⟩ | ⟨_, h, _⟩ <;> omega
theorem z_setQuiet {X Y : Nat → Nat → Int} {u v2 u3 z r : Int} (h : co_setQuiet X u v2 u3 z r Y) : 0 ≤ z ∧ z ≤ 3 := by
  rcases h with ⟨_, _, h, _⟩ | ⟨_, h, _⟩ | ⟨_, h, _⟩ <;> omega
theorem z_lay {X Y : Nat → Nat → Int} {u v2 u3 u4 z r : Int} (h : co_lay X u v2 u3 u4 z r Y) : 0 ≤ z ∧ z ≤ 3 := by
  rcases h with ⟨_, _, _, h, _⟩ | ⟨_, h, _⟩ | ⟨_, h, _⟩ <;> omega
theorem z_press {X Y : Nat → Nat → Int} {u v2 z r : Int} (h : co_press X u v2 z r Y) : 0 ≤ z ∧ z ≤ 3 := by
  rcases h with ⟨_, _, _, _, h, _⟩ | ⟨_, h, _⟩ | ⟨_, h, _⟩ <;> omega
theorem z_fault {X Y : Nat → Nat → Int} {u z r : Int} (h : co_fault X u z r Y) : 0 ≤ z ∧ z ≤ 3 := by
  rcases h with ⟨_, _, h, _⟩ | ⟨_, h, _⟩ | ⟨_, h, _⟩ <;> omega
theorem z_repair {X Y : Nat → Nat → Int} {u z r : Int} (h : co_repair X u z r Y) : 0 ≤ z ∧ z ≤ 3 := by
  rcases h with ⟨_, _, h, _⟩ | ⟨_, h, _⟩ | ⟨_, h, _⟩ <;> omega
theorem z_pass {X Y : Nat → Nat → Int} {u z r : Int} (h : co_pass X u z r Y) : 0 ≤ z ∧ z ≤ 3 := by
  rcases h with ⟨_, _, h, _⟩ | ⟨_, h, _⟩ | ⟨_, h, _⟩ <;> omega
theorem z_ringing {X Y : Nat → Nat → Int} {u z r : Int} (h : co_ringing X u z r Y) : 0 ≤ z ∧ z ≤ 3 := by
  rcases h with ⟨_, _, h, _⟩ | ⟨_, h, _⟩ <;> omega
theorem z_isSound {X Y : Nat → Nat → Int} {u z r : Int} (h : co_isSound X u z r Y) : 0 ≤ z ∧ z ≤ 3 := by
  rcases h with ⟨_, _, h, _⟩ | ⟨_, h, _⟩ <;> omega
theorem z_ringsLeft {X Y : Nat → Nat → Int} {u v2 z r : Int} (h : co_ringsLeft X u v2 z r Y) : 0 ≤ z ∧ z ≤ 3 := by
  rcases h with ⟨_, _, _, h, _⟩ | ⟨_, h, _⟩ <;> omega
theorem z_points {X Y : Nat → Nat → Int} {u z r : Int} (h : co_points X u z r Y) : 0 ≤ z ∧ z ≤ 3 := by
  rcases h with ⟨_, _, h, _⟩ | ⟨_, h, _⟩ <;> omega
theorem z_secondsRung {X Y : Nat → Nat → Int} {u z r : Int} (h : co_secondsRung X u z r Y) : 0 ≤ z ∧ z ≤ 3 := by
  rcases h with ⟨_, _, h, _⟩ | ⟨_, h, _⟩ <;> omega
theorem z_quietBroken {X Y : Nat → Nat → Int} {u z r : Int} (h : co_quietBroken X u z r Y) : 0 ≤ z ∧ z ≤ 3 := by
  rcases h with ⟨_, _, h, _⟩ | ⟨_, h, _⟩ <;> omega
theorem z_hushed {X Y : Nat → Nat → Int} {u z r : Int} (h : co_hushed X u z r Y) : 0 ≤ z ∧ z ≤ 3 := by
  rcases h with ⟨_, _, h, _⟩ | ⟨_, h, _⟩ <;> omega
theorem z_faultAt {X Y : Nat → Nat → Int} {u z r : Int} (h : co_faultAt X u z r Y) : 0 ≤ z ∧ z ≤ 3 := by
  rcases h with ⟨_, h, _⟩ | ⟨_, h, _⟩ <;> omega
theorem r_areAlike {X Y : Nat → Nat → Int} {u v2 z r : Int} (hV : VX X) (h : co_areAlike X u v2 z r Y) (hz : z = 0) : r = 0 ∨ r = 1 := by
  rcases h with ⟨k, k2, _, _, h, _⟩ | ⟨_, h, _⟩
  · rw [h]
    unfold isS; split <;> simp
  · omega
theorem r_setQuiet {X Y : Nat → Nat → Int} {u v2 u3 z r : Int} (hV : VX X) (h : co_setQuiet X u v2 u3 z r Y) (hz : z = 0) : r = 0 ∨ r = 1 := by
  rcases h with ⟨n, _, _, h, _⟩ | ⟨_, h, _⟩ | ⟨_, h, _⟩
  · rw [h]
    split <;> simp
  · omega
  · omega
theorem r_isSound {X Y : Nat → Nat → Int} {u z r : Int} (hV : VX X) (h : co_isSound X u z r Y) (hz : z = 0) : r = 0 ∨ r = 1 := by
  rcases h with ⟨n, _, _, h, _⟩ | ⟨_, h, _⟩
  · rw [h]
    have b := (show (0 : Int) ≤ _ ∧ _ ≤ (1 : Int) from hV.1 14 n rfl); omega
  · omega
set_option maxHeartbeats 4000000 in
set_option maxRecDepth 100000 in
theorem c_addMelody {p : Program} {e : Env} {s : State} {m : MethodId} {below : List Frame} {meth : Method} {c : Code} (l : Launch) (hst : l.stackTraces = false) {D : va_G} {ks : Nat → ClassId} {b bx nL k : Nat} {xs : Nat → Int32} {Q : State → Prop} (hx : p.tables.exec = Jvm.exec) (hb : c.code = cL_law) (hml : c.maxLocals = 8) (hown : s.vm.findClass RL = some m.cls) (hts : ∀ w ∈ wsL_law, w.before #[Value.ref b] s = true) (hX : va_X b nL xs s s.heap) (hbl : b < s.heap.size) (hG : GE D ks bx s) (hbA : ¬ AR (RC bx) s.heap.size b) (hL : nL ≤ 2560) (hk : 5 * k + 5 ≤ nL) {H : Heap} {locs : List Loc} {ls : Array Slot} {cells slots : Nat} (hcs : cells + 10 ≤ room_1.cells ∧ slots + 60 ≤ room_1.slots)
    {ml : Nat → Nat} {X S : Nat → Nat → Int} {fo : Nat → Int64} (hI : IV X S) (hP : PX D ks bx ml X H) (hM : PM D ks (bx + 55) S H) (ho : ca D (bx + 75) (jA (ks 1) 1 fo) H) (hS : va_S (AR (RC bx) s.heap.size) s.heap H locs) (hl : lv_has ls 8 [(0, .ref b), (1, .ref bx), (2, .ref (bx + 55)), (3, .ref (bx + 75)), (4, .int (z2 (5 * ((k : Nat) : Int))))])
    (kk : ∀ (ml1 : Nat → Nat) (X1 S1 : Nat → Nat → Int) (f1 : Nat → Int64) (H1 : Heap) (locs1 : List Loc) (ls1 : Array Slot), IV X1 S1 → PX D ks bx ml1 X1 H1 → PM D ks (bx + 55) S1 H1 → ca D (bx + 75) (jA (ks 1) 1 f1) H1 → va_S (AR (RC bx) s.heap.size) s.heap H1 locs1 → lv_has ls1 8 [(0, .ref b), (1, .ref bx), (2, .ref (bx + 55)), (3, .ref (bx + 75)), (4, .int (z2 (5 * ((k : Nat) : Int))))] → W p l e room_1 s m #[Value.ref b] below meth c H1 locs1 (cells + 4) (slots + 24) Q (F0 m 1505 ls1 [])) :
    W p l e room_1 s m #[Value.ref b] below meth c H locs cells slots Q (F0 m 140 ls []) := by
  obtain ⟨u, hu, eu⟩ := z2_ex (xs (5 * k + 1))
  obtain ⟨v2, hv2, ev2⟩ := z2_ex (xs (5 * k + 2))
  obtain ⟨t3, ht3, et3⟩ := z2_ex (xs (5 * k + 3))
  obtain ⟨t4, ht4, et4⟩ := z2_ex (xs (5 * k + 4))
  obtain ⟨t, ht, et⟩ : ∃ t : Int, (-9223372036854775808 ≤ t ∧ t < 9223372036854775808) ∧ (((l2 t3) <<< ((z2 (32)).toInt64 &&& 63)) ||| ((l2 t4) &&& (l2 4294967295))) = l2 t := ⟨(((l2 t3) <<< ((z2 (32)).toInt64 &&& 63)) ||| ((l2 t4) &&& (l2 4294967295))).toInt, l2_rng _, (l2_of _).symm⟩
  have b4 := hI.2.1
  refine lv_aload_n hx hb dL_law_140 rfl (lv_at hl 1 rfl) ?_
  refine lv_aload_n hx hb dL_law_141 rfl (lv_at hl 0 rfl) ?_
  refine lv_iload hx hb dL_law_142 (lv_at hl 4 rfl) ?_
  refine b_iconst hx hb dL_law_144 ?_
  refine b_iadd hx hb dL_law_145 ?_
  refine g_scr hx hb hX hbl hbA hS (5 * k + 1) ⟨by omega, by omega, by omega⟩ eu dL_law_146 ?_
  refine lv_aload_n hx hb dL_law_147 rfl (lv_at hl 0 rfl) ?_
  refine lv_iload hx hb dL_law_148 (lv_at hl 4 rfl) ?_
  refine b_iconst hx hb dL_law_150 ?_
  refine b_iadd hx hb dL_law_151 ?_
  refine g_scr hx hb hX hbl hbA hS (5 * k + 2) ⟨by omega, by omega, by omega⟩ ev2 dL_law_152 ?_
  refine lv_aload_n hx hb dL_law_153 rfl (lv_at hl 0 rfl) ?_
  refine lv_iload hx hb dL_law_154 (lv_at hl 4 rfl) ?_
  refine b_iconst hx hb dL_law_156 ?_
  refine b_iadd hx hb dL_law_157 ?_
  refine g_scr hx hb hX hbl hbA hS (5 * k + 3) ⟨by omega, by omega, by omega⟩ et3 dL_law_158 ?_
  refine lv_i2l (v := l2 t3) hx hb dL_law_159 (z2_l2 ⟨by omega, by omega⟩) ?_
  refine b_bipush hx hb dL_law_160 (by decide +kernel) ?_
  refine lv_lshl hx hb dL_law_162 rfl ?_
  refine lv_aload_n hx hb dL_law_163 rfl (lv_at hl 0 rfl) ?_
  refine lv_iload hx hb dL_law_164 (lv_at hl 4 rfl) ?_
  refine b_iconst hx hb dL_law_166 ?_
  refine b_iadd hx hb dL_law_167 ?_
  refine g_scr hx hb hX hbl hbA hS (5 * k + 4) ⟨by omega, by omega, by omega⟩ et4 dL_law_168 ?_
  refine lv_i2l (v := l2 t4) hx hb dL_law_169 (z2_l2 ⟨by omega, by omega⟩) ?_
  refine lv_ldc2 (v := l2 4294967295) hx hb hown (hts _ (by decide +kernel)) dL_law_170 ?_
  refine lv_land hx hb dL_law_173 ?_
  refine lv_lor hx hb dL_law_174 ?_
  refine b_topl (v := t) et ?_
  refine lv_aload_n hx hb dL_law_175 rfl (lv_at hl 3 rfl) ?_
  refine g_run (vx_runSX (As := [.ref bx, .int (z2 (u)), .int (z2 (v2)), .long (l2 t), .ref (bx + 75)]) (rest := []) ⟨hx, hb, hml, hown, hts⟩ (w_addMelody l D ks bx ml X _ hP hI.2.1 hst (by have := ca.lt ho; omega) ho (u) (v2) (t) hu hv2 ht) (vx_cwSW 5 hts gL_law_L_addMelody rfl rfl rfl (by decide +kernel) ⟨Nat.le_of_ble_eq_true rfl, Nat.le_of_ble_eq_true rfl⟩) (g_preS hG hS (fun _ h => h)) rfl rfl hl.1 rfl (lv_room (Nat.le_of_ble_eq_true rfl)) dL_law_176 ⟨by show cells + 3 ≤ room_1.cells; omega, by show slots + 18 ≤ room_1.slots; omega⟩) hS (fun q h => rw_ge q h) (fun _ _ _ _ _ h => h.elim) (fun v H locs hp hz9 hk9 hS => ?_)
  obtain ⟨z, r, Y, hco, rfl, ⟨ml1, hP⟩, f1, ho, hf⟩ := hp
  have hM := hM.keep (fun q h1 h2 h3 => hk9 q h1 (fun h => h.elim (fun r => absurd r.2 (by omega)) (fun r => by omega)))
  have hz := z_addMelody hco
  refine W.eq (g2 := F0 m 179 ls [.int (z2 (z))]) rfl ?_
  refine lv_istore (lv' := [(5, .int (z2 (z))), (0, .ref b), (1, .ref bx), (2, .ref (bx + 55)), (3, .ref (bx + 75)), (4, .int (z2 (5 * ((k : Nat) : Int))))]) hx hb dL_law_179 hl (by decide) rfl (fun ls hl => ?_)
  refine lv_aload_n hx hb dL_law_181 rfl (lv_at hl 3 rfl) ?_
  refine lv_aload_n hx hb dL_law_182 rfl (lv_at hl 1 rfl) ?_
  refine lv_iload hx hb dL_law_183 (lv_at hl 5 rfl) ?_
  refine b_iconst hx hb dL_law_185 ?_
  refine b_iadd hx hb dL_law_186 ?_
  refine g_scr hx hb hX hbl hbA hS (5 * k + 1) ⟨by omega, by omega, by omega⟩ eu dL_law_187 ?_
  refine lv_aload_n hx hb dL_law_188 rfl (lv_at hl 1 rfl) ?_
  refine lv_iload hx hb dL_law_189 (lv_at hl 5 rfl) ?_
  refine b_iconst hx hb dL_law_191 ?_
  refine b_iadd hx hb dL_law_192 ?_
  refine g_scr hx hb hX hbl hbA hS (5 * k + 2) ⟨by omega, by omega, by omega⟩ ev2 dL_law_193 ?_
  refine lv_aload_n hx hb dL_law_194 rfl (lv_at hl 1 rfl) ?_
  refine lv_iload hx hb dL_law_195 (lv_at hl 5 rfl) ?_
  refine b_iconst hx hb dL_law_197 ?_
  refine b_iadd hx hb dL_law_198 ?_
  refine g_scr hx hb hX hbl hbA hS (5 * k + 3) ⟨by omega, by omega, by omega⟩ et3 dL_law_199 ?_
  refine lv_i2l (v := l2 t3) hx hb dL_law_200 (z2_l2 ⟨by omega, by omega⟩) ?_
  refine b_bipush hx hb dL_law_201 (by decide +kernel) ?_
  refine lv_lshl hx hb dL_law_203 rfl ?_
  refine lv_aload_n hx hb dL_law_204 rfl (lv_at hl 1 rfl) ?_
  refine lv_iload hx hb dL_law_205 (lv_at hl 5 rfl) ?_
  refine b_iconst hx hb dL_law_207 ?_
  refine b_iadd hx hb dL_law_208 ?_
  refine g_scr hx hb hX hbl hbA hS (5 * k + 4) ⟨by omega, by omega, by omega⟩ et4 dL_law_209 ?_
  refine lv_i2l (v := l2 t4) hx hb dL_law_210 (z2_l2 ⟨by omega, by omega⟩) ?_
  refine lv_ldc2 (v := l2 4294967295) hx hb hown (hts _ (by decide +kernel)) dL_law_211 ?_
  refine lv_land hx hb dL_law_214 ?_
  refine lv_lor hx hb dL_law_215 ?_
  refine b_topl (v := t) et ?_
  refine g_run (vx_runV (As := [.int (z2 (u)), .int (z2 (v2)), .long (l2 t)]) (rest := []) ⟨hx, hb, hml, hown, hts⟩ (m_addMelody l D ks bx (bx + 55) (by omega) S _ hM hI.2.2.2 (u) (v2) (t) hu hv2 ht) (cwV 3 hts gL_law_X5_addMelody rfl rfl rfl (by decide +kernel) ⟨Nat.le_of_ble_eq_true rfl, Nat.le_of_ble_eq_true rfl⟩) (g_preV (r := (RX5, TX5, 23)) hG hS (fun _ h => h) hM.1 rfl) rfl rfl hl.1 rfl (lv_room (Nat.le_of_ble_eq_true rfl)) dL_law_216 ⟨by show cells + 3 + 0 ≤ room_1.cells; omega, by show slots + 18 + 0 ≤ room_1.slots; omega⟩) hS (fun q h => rm_ge (bx := bx) (by omega) q h) (fun _ _ _ _ _ h => h.elim) (fun v H locs hp hz9 hk9 hS => ?_)
  obtain ⟨q, T, hro, rfl, hM⟩ := hp
  have hP := hP.keep (fun q h1 h2 => hk9 q h1 (fun h => by have h3 := h.1; have h4 := h.2; omega))
  have ho := ho.kept (hk9 _ ho.lt (fun h => absurd h.2 (by omega)))
  obtain ⟨c1, c2, hJ⟩ := cs_addMelody hI hco hro
  refine W.eq (g2 := F0 m 219 ls [.int (z2 (q))]) rfl ?_
  refine lv_istore (lv' := [(6, .int (z2 (q))), (5, .int (z2 (z))), (0, .ref b), (1, .ref bx), (2, .ref (bx + 55)), (3, .ref (bx + 75)), (4, .int (z2 (5 * ((k : Nat) : Int))))]) hx hb dL_law_219 hl (by decide) rfl (fun ls hl => ?_)
  refine lv_aload_n hx hb dL_law_221 rfl (lv_at hl 4 rfl) ?_
  refine g_run (vx_runV (As := []) (rest := []) ⟨hx, hb, hml, hown, hts⟩ (m_thrown l D ks bx (bx + 55) (by omega) T _ hM hJ.2.2.2) (cwV 0 hts gL_law_X5_thrown rfl rfl rfl (by decide +kernel) ⟨Nat.le_of_ble_eq_true rfl, Nat.le_of_ble_eq_true rfl⟩) (g_preV (r := (RX5, TX5, 23)) hG hS (fun _ h => h) hM.1 rfl) rfl rfl hl.1 rfl (lv_room (Nat.le_of_ble_eq_true rfl)) dL_law_222 ⟨by show cells + 3 + 0 + 0 ≤ room_1.cells; omega, by show slots + 18 + 0 + 0 ≤ room_1.slots; omega⟩) hS (fun q h => rm_ge (bx := bx) (by omega) q h) (fun _ _ _ _ _ h => h.elim) (fun v H locs hp hz9 hk9 hS => ?_)
  obtain ⟨rfl, hH9⟩ := hp
  obtain rfl := hH9.symm
  rw [c1]
  refine W.eq (g2 := F0 m 225 ls [.int (z2 (z))]) rfl ?_
  refine lv_iload hx hb dL_law_225 (lv_at hl 1 rfl) ?_
  refine lv_icmp_eq (tgt := 232) hx hb dL_law_227 (by decide) (fun _ => ?_) (fun c => absurd rfl c)
  refine lv_iload hx hb dL_law_232 (lv_at hl 1 rfl) ?_
  refine b_if_ne (tgt := 249) hx hb dL_law_234 (by decide) ⟨by omega, by omega⟩ (fun c_z => ?_) (fun c_z => ?_)
  · skip
    refine lv_goto (tgt := 1505) hx hb dL_law_249 (by decide) ?_
    refine W.widen (k := cells + 4) (n := slots + 24) (by show cells + 3 + 0 + 0 ≤ cells + 4; omega) (by show slots + 18 + 0 + 0 ≤ slots + 24; omega) ?_
    exact kk _ _ _ _ _ _ _ hJ hP hM ho hS (lv_sub hl [2, 3, 4, 5, 6] rfl)
  · skip
    have hrq := c2 c_z
    have hf0 := hf c_z
    refine lv_aload_n hx hb dL_law_237 rfl (lv_at hl 5 rfl) ?_
    refine b_iconst hx hb dL_law_238 ?_
    refine g_lald (n := 1) hx hb hG ho 0 ⟨rfl, by decide, by decide⟩ dL_law_239 ?_
    refine lv_iload hx hb dL_law_240 (lv_at hl 0 rfl) ?_
    refine lv_i2l (v := (z2 (q)).toInt64) hx hb dL_law_242 rfl ?_
    refine W.lcmp hx hb dL_law_243 ?_
    refine b_top (v := 0) (lg_self (hf0.trans (congrArg (fun z => (z2 z).toInt64) hrq))) ?_
    refine b_if_eq (tgt := 249) hx hb dL_law_244 (by decide) ⟨by omega, by omega⟩ (fun _ => ?_) (fun c => absurd rfl c)
    refine lv_goto (tgt := 1505) hx hb dL_law_249 (by decide) ?_
    refine W.widen (k := cells + 4) (n := slots + 24) (by show cells + 3 + 0 + 0 ≤ cells + 4; omega) (by show slots + 18 + 0 + 0 ≤ slots + 24; omega) ?_
    exact kk _ _ _ _ _ _ _ hJ hP hM ho hS (lv_sub hl [2, 3, 4, 5, 6] rfl)
set_option maxHeartbeats 4000000 in
set_option maxRecDepth 100000 in
theorem c_toneAt {p : Program} {e : Env} {s : State} {m : MethodId} {below : List Frame} {meth : Method} {c : Code} (l : Launch) (hst : l.stackTraces = false) {D : va_G} {ks : Nat → ClassId} {b bx nL k : Nat} {xs : Nat → Int32} {Q : State → Prop} (hx : p.tables.exec = Jvm.exec) (hb : c.code = cL_law) (hml : c.maxLocals = 8) (hown : s.vm.findClass RL = some m.cls) (hts : ∀ w ∈ wsL_law, w.before #[Value.ref b] s = true) (hX : va_X b nL xs s s.heap) (hbl : b < s.heap.size) (hG : GE D ks bx s) (hbA : ¬ AR (RC bx) s.heap.size b) (hL : nL ≤ 2560) (hk : 5 * k + 5 ≤ nL) {H : Heap} {locs : List Loc} {ls : Array Slot} {cells slots : Nat} (hcs : cells + 10 ≤ room_1.cells ∧ slots + 60 ≤ room_1.slots)
    {ml : Nat → Nat} {X S : Nat → Nat → Int} {fo : Nat → Int64} (hI : IV X S) (hP : PX D ks bx ml X H) (hM : PM D ks (bx + 55) S H) (ho : ca D (bx + 75) (jA (ks 1) 1 fo) H) (hS : va_S (AR (RC bx) s.heap.size) s.heap H locs) (hl : lv_has ls 8 [(0, .ref b), (1, .ref bx), (2, .ref (bx + 55)), (3, .ref (bx + 75)), (4, .int (z2 (5 * ((k : Nat) : Int))))])
    (kk : ∀ (ml1 : Nat → Nat) (X1 S1 : Nat → Nat → Int) (f1 : Nat → Int64) (H1 : Heap) (locs1 : List Loc) (ls1 : Array Slot), IV X1 S1 → PX D ks bx ml1 X1 H1 → PM D ks (bx + 55) S1 H1 → ca D (bx + 75) (jA (ks 1) 1 f1) H1 → va_S (AR (RC bx) s.heap.size) s.heap H1 locs1 → lv_has ls1 8 [(0, .ref b), (1, .ref bx), (2, .ref (bx + 55)), (3, .ref (bx + 75)), (4, .int (z2 (5 * ((k : Nat) : Int))))] → W p l e room_1 s m #[Value.ref b] below meth c H1 locs1 (cells + 4) (slots + 24) Q (F0 m 1505 ls1 [])) :
    W p l e room_1 s m #[Value.ref b] below meth c H locs cells slots Q (F0 m 252 ls []) := by
  obtain ⟨u, hu, eu⟩ := z2_ex (xs (5 * k + 1))
  obtain ⟨v2, hv2, ev2⟩ := z2_ex (xs (5 * k + 2))
  have b4 := hI.2.1
  refine lv_aload_n hx hb dL_law_252 rfl (lv_at hl 1 rfl) ?_
  refine lv_aload_n hx hb dL_law_253 rfl (lv_at hl 0 rfl) ?_
  refine lv_iload hx hb dL_law_254 (lv_at hl 4 rfl) ?_
  refine b_iconst hx hb dL_law_256 ?_
  refine b_iadd hx hb dL_law_257 ?_
  refine g_scr hx hb hX hbl hbA hS (5 * k + 1) ⟨by omega, by omega, by omega⟩ eu dL_law_258 ?_
  refine lv_aload_n hx hb dL_law_259 rfl (lv_at hl 0 rfl) ?_
  refine lv_iload hx hb dL_law_260 (lv_at hl 4 rfl) ?_
  refine b_iconst hx hb dL_law_262 ?_
  refine b_iadd hx hb dL_law_263 ?_
  refine g_scr hx hb hX hbl hbA hS (5 * k + 2) ⟨by omega, by omega, by omega⟩ ev2 dL_law_264 ?_
  refine lv_aload_n hx hb dL_law_265 rfl (lv_at hl 3 rfl) ?_
  refine g_run (vx_runSX (As := [.ref bx, .int (z2 (u)), .int (z2 (v2)), .ref (bx + 75)]) (rest := []) ⟨hx, hb, hml, hown, hts⟩ (w_toneAt l D ks bx ml X _ hP hI.2.1 hst ho (u) (v2) hu hv2) (vx_cwSW 4 hts gL_law_L_toneAt rfl rfl rfl (by decide +kernel) ⟨Nat.le_of_ble_eq_true rfl, Nat.le_of_ble_eq_true rfl⟩) (g_preS hG hS (fun _ h => h)) rfl rfl hl.1 rfl (lv_room (Nat.le_of_ble_eq_true rfl)) dL_law_266 ⟨by show cells + 2 ≤ room_1.cells; omega, by show slots + 12 ≤ room_1.slots; omega⟩) hS (fun q h => rw_ge q h) (fun _ _ _ _ _ h => h.elim) (fun v H locs hp hz9 hk9 hS => ?_)
  obtain ⟨z, r, Y, hco, rfl, ⟨ml1, hP⟩, f1, ho, hf⟩ := hp
  have hM := hM.keep (fun q h1 h2 h3 => hk9 q h1 (fun h => h.elim (fun r => absurd r.2 (by omega)) (fun r => by omega)))
  have hz := z_toneAt hco
  refine W.eq (g2 := F0 m 269 ls [.int (z2 (z))]) rfl ?_
  refine lv_istore (lv' := [(5, .int (z2 (z))), (0, .ref b), (1, .ref bx), (2, .ref (bx + 55)), (3, .ref (bx + 75)), (4, .int (z2 (5 * ((k : Nat) : Int))))]) hx hb dL_law_269 hl (by decide) rfl (fun ls hl => ?_)
  refine lv_aload_n hx hb dL_law_271 rfl (lv_at hl 3 rfl) ?_
  refine lv_aload_n hx hb dL_law_272 rfl (lv_at hl 1 rfl) ?_
  refine lv_iload hx hb dL_law_273 (lv_at hl 5 rfl) ?_
  refine b_iconst hx hb dL_law_275 ?_
  refine b_iadd hx hb dL_law_276 ?_
  refine g_scr hx hb hX hbl hbA hS (5 * k + 1) ⟨by omega, by omega, by omega⟩ eu dL_law_277 ?_
  refine lv_aload_n hx hb dL_law_278 rfl (lv_at hl 1 rfl) ?_
  refine lv_iload hx hb dL_law_279 (lv_at hl 5 rfl) ?_
  refine b_iconst hx hb dL_law_281 ?_
  refine b_iadd hx hb dL_law_282 ?_
  refine g_scr hx hb hX hbl hbA hS (5 * k + 2) ⟨by omega, by omega, by omega⟩ ev2 dL_law_283 ?_
  refine g_run (vx_runV (As := [.int (z2 (u)), .int (z2 (v2))]) (rest := []) ⟨hx, hb, hml, hown, hts⟩ (m_toneAt l D ks bx (bx + 55) (by omega) S _ hM hI.2.2.2 (u) (v2) hu hv2) (cwV 2 hts gL_law_X5_toneAt rfl rfl rfl (by decide +kernel) ⟨Nat.le_of_ble_eq_true rfl, Nat.le_of_ble_eq_true rfl⟩) (g_preV (r := (RX5, TX5, 23)) hG hS (fun _ h => h) hM.1 rfl) rfl rfl hl.1 rfl (lv_room (Nat.le_of_ble_eq_true rfl)) dL_law_284 ⟨by show cells + 2 + 0 ≤ room_1.cells; omega, by show slots + 12 + 0 ≤ room_1.slots; omega⟩) hS (fun q h => rm_ge (bx := bx) (by omega) q h) (fun _ _ _ _ _ h => h.elim) (fun v H locs hp hz9 hk9 hS => ?_)
  obtain ⟨q, T, hro, rfl, hM⟩ := hp
  have hP := hP.keep (fun q h1 h2 => hk9 q h1 (fun h => by have h3 := h.1; have h4 := h.2; omega))
  have ho := ho.kept (hk9 _ ho.lt (fun h => absurd h.2 (by omega)))
  obtain ⟨c1, c2, hJ⟩ := cs_toneAt hI hco hro
  refine W.eq (g2 := F0 m 287 ls [.int (z2 (q))]) rfl ?_
  refine lv_istore (lv' := [(6, .int (z2 (q))), (5, .int (z2 (z))), (0, .ref b), (1, .ref bx), (2, .ref (bx + 55)), (3, .ref (bx + 75)), (4, .int (z2 (5 * ((k : Nat) : Int))))]) hx hb dL_law_287 hl (by decide) rfl (fun ls hl => ?_)
  refine lv_aload_n hx hb dL_law_289 rfl (lv_at hl 4 rfl) ?_
  refine g_run (vx_runV (As := []) (rest := []) ⟨hx, hb, hml, hown, hts⟩ (m_thrown l D ks bx (bx + 55) (by omega) T _ hM hJ.2.2.2) (cwV 0 hts gL_law_X5_thrown rfl rfl rfl (by decide +kernel) ⟨Nat.le_of_ble_eq_true rfl, Nat.le_of_ble_eq_true rfl⟩) (g_preV (r := (RX5, TX5, 23)) hG hS (fun _ h => h) hM.1 rfl) rfl rfl hl.1 rfl (lv_room (Nat.le_of_ble_eq_true rfl)) dL_law_290 ⟨by show cells + 2 + 0 + 0 ≤ room_1.cells; omega, by show slots + 12 + 0 + 0 ≤ room_1.slots; omega⟩) hS (fun q h => rm_ge (bx := bx) (by omega) q h) (fun _ _ _ _ _ h => h.elim) (fun v H locs hp hz9 hk9 hS => ?_)
  obtain ⟨rfl, hH9⟩ := hp
  obtain rfl := hH9.symm
  rw [c1]
  refine W.eq (g2 := F0 m 293 ls [.int (z2 (z))]) rfl ?_
  refine lv_iload hx hb dL_law_293 (lv_at hl 1 rfl) ?_
  refine lv_icmp_eq (tgt := 300) hx hb dL_law_295 (by decide) (fun _ => ?_) (fun c => absurd rfl c)
  refine lv_iload hx hb dL_law_300 (lv_at hl 1 rfl) ?_
  refine b_if_ne (tgt := 317) hx hb dL_law_302 (by decide) ⟨by omega, by omega⟩ (fun c_z => ?_) (fun c_z => ?_)
  · skip
    refine lv_goto (tgt := 1505) hx hb dL_law_317 (by decide) ?_
    refine W.widen (k := cells + 4) (n := slots + 24) (by show cells + 2 + 0 + 0 ≤ cells + 4; omega) (by show slots + 12 + 0 + 0 ≤ slots + 24; omega) ?_
    exact kk _ _ _ _ _ _ _ hJ hP hM ho hS (lv_sub hl [2, 3, 4, 5, 6] rfl)
  · skip
    have hrq := c2 c_z
    have hf0 := hf c_z
    refine lv_aload_n hx hb dL_law_305 rfl (lv_at hl 5 rfl) ?_
    refine b_iconst hx hb dL_law_306 ?_
    refine g_lald (n := 1) hx hb hG ho 0 ⟨rfl, by decide, by decide⟩ dL_law_307 ?_
    refine lv_iload hx hb dL_law_308 (lv_at hl 0 rfl) ?_
    refine lv_i2l (v := (z2 (q)).toInt64) hx hb dL_law_310 rfl ?_
    refine W.lcmp hx hb dL_law_311 ?_
    refine b_top (v := 0) (lg_self (hf0.trans (congrArg (fun z => (z2 z).toInt64) hrq))) ?_
    refine b_if_eq (tgt := 317) hx hb dL_law_312 (by decide) ⟨by omega, by omega⟩ (fun _ => ?_) (fun c => absurd rfl c)
    refine lv_goto (tgt := 1505) hx hb dL_law_317 (by decide) ?_
    refine W.widen (k := cells + 4) (n := slots + 24) (by show cells + 2 + 0 + 0 ≤ cells + 4; omega) (by show slots + 12 + 0 + 0 ≤ slots + 24; omega) ?_
    exact kk _ _ _ _ _ _ _ hJ hP hM ho hS (lv_sub hl [2, 3, 4, 5, 6] rfl)
set_option maxHeartbeats 4000000 in
set_option maxRecDepth 100000 in
theorem c_shifted {p : Program} {e : Env} {s : State} {m : MethodId} {below : List Frame} {meth : Method} {c : Code} (l : Launch) (hst : l.stackTraces = false) {D : va_G} {ks : Nat → ClassId} {b bx nL k : Nat} {xs : Nat → Int32} {Q : State → Prop} (hx : p.tables.exec = Jvm.exec) (hb : c.code = cL_law) (hml : c.maxLocals = 8) (hown : s.vm.findClass RL = some m.cls) (hts : ∀ w ∈ wsL_law, w.before #[Value.ref b] s = true) (hX : va_X b nL xs s s.heap) (hbl : b < s.heap.size) (hG : GE D ks bx s) (hbA : ¬ AR (RC bx) s.heap.size b) (hL : nL ≤ 2560) (hk : 5 * k + 5 ≤ nL) {H : Heap} {locs : List Loc} {ls : Array Slot} {cells slots : Nat} (hcs : cells + 10 ≤ room_1.cells ∧ slots + 60 ≤ room_1.slots)
    {ml : Nat → Nat} {X S : Nat → Nat → Int} {fo : Nat → Int64} (hI : IV X S) (hP : PX D ks bx ml X H) (hM : PM D ks (bx + 55) S H) (ho : ca D (bx + 75) (jA (ks 1) 1 fo) H) (hS : va_S (AR (RC bx) s.heap.size) s.heap H locs) (hl : lv_has ls 8 [(0, .ref b), (1, .ref bx), (2, .ref (bx + 55)), (3, .ref (bx + 75)), (4, .int (z2 (5 * ((k : Nat) : Int))))])
    (kk : ∀ (ml1 : Nat → Nat) (X1 S1 : Nat → Nat → Int) (f1 : Nat → Int64) (H1 : Heap) (locs1 : List Loc) (ls1 : Array Slot), IV X1 S1 → PX D ks bx ml1 X1 H1 → PM D ks (bx + 55) S1 H1 → ca D (bx + 75) (jA (ks 1) 1 f1) H1 → va_S (AR (RC bx) s.heap.size) s.heap H1 locs1 → lv_has ls1 8 [(0, .ref b), (1, .ref bx), (2, .ref (bx + 55)), (3, .ref (bx + 75)), (4, .int (z2 (5 * ((k : Nat) : Int))))] → W p l e room_1 s m #[Value.ref b] below meth c H1 locs1 (cells + 4) (slots + 24) Q (F0 m 1505 ls1 [])) :
    W p l e room_1 s m #[Value.ref b] below meth c H locs cells slots Q (F0 m 320 ls []) := by
  obtain ⟨u, hu, eu⟩ := z2_ex (xs (5 * k + 1))
  obtain ⟨v2, hv2, ev2⟩ := z2_ex (xs (5 * k + 2))
  have b4 := hI.2.1
  refine lv_aload_n hx hb dL_law_320 rfl (lv_at hl 1 rfl) ?_
  refine lv_aload_n hx hb dL_law_321 rfl (lv_at hl 0 rfl) ?_
  refine lv_iload hx hb dL_law_322 (lv_at hl 4 rfl) ?_
  refine b_iconst hx hb dL_law_324 ?_
  refine b_iadd hx hb dL_law_325 ?_
  refine g_scr hx hb hX hbl hbA hS (5 * k + 1) ⟨by omega, by omega, by omega⟩ eu dL_law_326 ?_
  refine lv_aload_n hx hb dL_law_327 rfl (lv_at hl 0 rfl) ?_
  refine lv_iload hx hb dL_law_328 (lv_at hl 4 rfl) ?_
  refine b_iconst hx hb dL_law_330 ?_
  refine b_iadd hx hb dL_law_331 ?_
  refine g_scr hx hb hX hbl hbA hS (5 * k + 2) ⟨by omega, by omega, by omega⟩ ev2 dL_law_332 ?_
  refine lv_aload_n hx hb dL_law_333 rfl (lv_at hl 3 rfl) ?_
  refine g_run (vx_runSX (As := [.ref bx, .int (z2 (u)), .int (z2 (v2)), .ref (bx + 75)]) (rest := []) ⟨hx, hb, hml, hown, hts⟩ (w_shifted l D ks bx ml X _ hP hI.2.1 hst ho (u) (v2) hu hv2) (vx_cwSW 4 hts gL_law_L_shifted rfl rfl rfl (by decide +kernel) ⟨Nat.le_of_ble_eq_true rfl, Nat.le_of_ble_eq_true rfl⟩) (g_preS hG hS (fun _ h => h)) rfl rfl hl.1 rfl (lv_room (Nat.le_of_ble_eq_true rfl)) dL_law_334 ⟨by show cells + 2 ≤ room_1.cells; omega, by show slots + 12 ≤ room_1.slots; omega⟩) hS (fun q h => rw_ge q h) (fun _ _ _ _ _ h => h.elim) (fun v H locs hp hz9 hk9 hS => ?_)
  obtain ⟨z, r, Y, hco, rfl, ⟨ml1, hP⟩, f1, ho, hf⟩ := hp
  have hM := hM.keep (fun q h1 h2 h3 => hk9 q h1 (fun h => h.elim (fun r => absurd r.2 (by omega)) (fun r => by omega)))
  have hz := z_shifted hco
  refine W.eq (g2 := F0 m 337 ls [.int (z2 (z))]) rfl ?_
  refine lv_istore (lv' := [(5, .int (z2 (z))), (0, .ref b), (1, .ref bx), (2, .ref (bx + 55)), (3, .ref (bx + 75)), (4, .int (z2 (5 * ((k : Nat) : Int))))]) hx hb dL_law_337 hl (by decide) rfl (fun ls hl => ?_)
  refine lv_aload_n hx hb dL_law_339 rfl (lv_at hl 3 rfl) ?_
  refine lv_aload_n hx hb dL_law_340 rfl (lv_at hl 1 rfl) ?_
  refine lv_iload hx hb dL_law_341 (lv_at hl 5 rfl) ?_
  refine b_iconst hx hb dL_law_343 ?_
  refine b_iadd hx hb dL_law_344 ?_
  refine g_scr hx hb hX hbl hbA hS (5 * k + 1) ⟨by omega, by omega, by omega⟩ eu dL_law_345 ?_
  refine lv_aload_n hx hb dL_law_346 rfl (lv_at hl 1 rfl) ?_
  refine lv_iload hx hb dL_law_347 (lv_at hl 5 rfl) ?_
  refine b_iconst hx hb dL_law_349 ?_
  refine b_iadd hx hb dL_law_350 ?_
  refine g_scr hx hb hX hbl hbA hS (5 * k + 2) ⟨by omega, by omega, by omega⟩ ev2 dL_law_351 ?_
  refine g_run (vx_runV (As := [.int (z2 (u)), .int (z2 (v2))]) (rest := []) ⟨hx, hb, hml, hown, hts⟩ (m_shifted l D ks bx (bx + 55) (by omega) S _ hM hI.2.2.2 (u) (v2) hu hv2) (cwV 2 hts gL_law_X5_shifted rfl rfl rfl (by decide +kernel) ⟨Nat.le_of_ble_eq_true rfl, Nat.le_of_ble_eq_true rfl⟩) (g_preV (r := (RX5, TX5, 23)) hG hS (fun _ h => h) hM.1 rfl) rfl rfl hl.1 rfl (lv_room (Nat.le_of_ble_eq_true rfl)) dL_law_352 ⟨by show cells + 2 + 0 ≤ room_1.cells; omega, by show slots + 12 + 0 ≤ room_1.slots; omega⟩) hS (fun q h => rm_ge (bx := bx) (by omega) q h) (fun _ _ _ _ _ h => h.elim) (fun v H locs hp hz9 hk9 hS => ?_)
  obtain ⟨q, T, hro, rfl, hM⟩ := hp
  have hP := hP.keep (fun q h1 h2 => hk9 q h1 (fun h => by have h3 := h.1; have h4 := h.2; omega))
  have ho := ho.kept (hk9 _ ho.lt (fun h => absurd h.2 (by omega)))
  obtain ⟨c1, c2, hJ⟩ := cs_shifted hI hco hro
  refine W.eq (g2 := F0 m 355 ls [.long (l2 q)]) rfl ?_
  refine lv_lstore (lv' := [(6, .long (l2 q)), (5, .int (z2 (z))), (0, .ref b), (1, .ref bx), (2, .ref (bx + 55)), (3, .ref (bx + 75)), (4, .int (z2 (5 * ((k : Nat) : Int))))]) hx hb dL_law_355 hl (by decide) rfl (fun ls hl => ?_)
  refine lv_aload_n hx hb dL_law_357 rfl (lv_at hl 4 rfl) ?_
  refine g_run (vx_runV (As := []) (rest := []) ⟨hx, hb, hml, hown, hts⟩ (m_thrown l D ks bx (bx + 55) (by omega) T _ hM hJ.2.2.2) (cwV 0 hts gL_law_X5_thrown rfl rfl rfl (by decide +kernel) ⟨Nat.le_of_ble_eq_true rfl, Nat.le_of_ble_eq_true rfl⟩) (g_preV (r := (RX5, TX5, 23)) hG hS (fun _ h => h) hM.1 rfl) rfl rfl hl.1 rfl (lv_room (Nat.le_of_ble_eq_true rfl)) dL_law_358 ⟨by show cells + 2 + 0 + 0 ≤ room_1.cells; omega, by show slots + 12 + 0 + 0 ≤ room_1.slots; omega⟩) hS (fun q h => rm_ge (bx := bx) (by omega) q h) (fun _ _ _ _ _ h => h.elim) (fun v H locs hp hz9 hk9 hS => ?_)
  obtain ⟨rfl, hH9⟩ := hp
  obtain rfl := hH9.symm
  rw [c1]
  refine W.eq (g2 := F0 m 361 ls [.int (z2 (z))]) rfl ?_
  refine lv_iload hx hb dL_law_361 (lv_at hl 1 rfl) ?_
  refine lv_icmp_eq (tgt := 368) hx hb dL_law_363 (by decide) (fun _ => ?_) (fun c => absurd rfl c)
  refine lv_iload hx hb dL_law_368 (lv_at hl 1 rfl) ?_
  refine b_if_ne (tgt := 384) hx hb dL_law_370 (by decide) ⟨by omega, by omega⟩ (fun c_z => ?_) (fun c_z => ?_)
  · skip
    refine lv_goto (tgt := 1505) hx hb dL_law_384 (by decide) ?_
    refine W.widen (k := cells + 4) (n := slots + 24) (by show cells + 2 + 0 + 0 ≤ cells + 4; omega) (by show slots + 12 + 0 + 0 ≤ slots + 24; omega) ?_
    exact kk _ _ _ _ _ _ _ hJ hP hM ho hS (lv_sub hl [2, 3, 4, 5, 6] rfl)
  · skip
    have hrq := c2 c_z
    have hf0 := hf c_z
    refine lv_aload_n hx hb dL_law_373 rfl (lv_at hl 5 rfl) ?_
    refine b_iconst hx hb dL_law_374 ?_
    refine g_lald (n := 1) hx hb hG ho 0 ⟨rfl, by decide, by decide⟩ dL_law_375 ?_
    refine lv_lload hx hb dL_law_376 (lv_at hl 0 rfl) ?_
    refine W.lcmp hx hb dL_law_378 ?_
    refine b_top (v := 0) (lg_self (hf0.trans (congrArg l2 hrq))) ?_
    refine b_if_eq (tgt := 384) hx hb dL_law_379 (by decide) ⟨by omega, by omega⟩ (fun _ => ?_) (fun c => absurd rfl c)
    refine lv_goto (tgt := 1505) hx hb dL_law_384 (by decide) ?_
    refine W.widen (k := cells + 4) (n := slots + 24) (by show cells + 2 + 0 + 0 ≤ cells + 4; omega) (by show slots + 12 + 0 + 0 ≤ slots + 24; omega) ?_
    exact kk _ _ _ _ _ _ _ hJ hP hM ho hS (lv_sub hl [2, 3, 4, 5, 6] rfl)
set_option maxHeartbeats 4000000 in
set_option maxRecDepth 100000 in
theorem c_turned {p : Program} {e : Env} {s : State} {m : MethodId} {below : List Frame} {meth : Method} {c : Code} (l : Launch) (hst : l.stackTraces = false) {D : va_G} {ks : Nat → ClassId} {b bx nL k : Nat} {xs : Nat → Int32} {Q : State → Prop} (hx : p.tables.exec = Jvm.exec) (hb : c.code = cL_law) (hml : c.maxLocals = 8) (hown : s.vm.findClass RL = some m.cls) (hts : ∀ w ∈ wsL_law, w.before #[Value.ref b] s = true) (hX : va_X b nL xs s s.heap) (hbl : b < s.heap.size) (hG : GE D ks bx s) (hbA : ¬ AR (RC bx) s.heap.size b) (hL : nL ≤ 2560) (hk : 5 * k + 5 ≤ nL) {H : Heap} {locs : List Loc} {ls : Array Slot} {cells slots : Nat} (hcs : cells + 10 ≤ room_1.cells ∧ slots + 60 ≤ room_1.slots)
    {ml : Nat → Nat} {X S : Nat → Nat → Int} {fo : Nat → Int64} (hI : IV X S) (hP : PX D ks bx ml X H) (hM : PM D ks (bx + 55) S H) (ho : ca D (bx + 75) (jA (ks 1) 1 fo) H) (hS : va_S (AR (RC bx) s.heap.size) s.heap H locs) (hl : lv_has ls 8 [(0, .ref b), (1, .ref bx), (2, .ref (bx + 55)), (3, .ref (bx + 75)), (4, .int (z2 (5 * ((k : Nat) : Int))))])
    (kk : ∀ (ml1 : Nat → Nat) (X1 S1 : Nat → Nat → Int) (f1 : Nat → Int64) (H1 : Heap) (locs1 : List Loc) (ls1 : Array Slot), IV X1 S1 → PX D ks bx ml1 X1 H1 → PM D ks (bx + 55) S1 H1 → ca D (bx + 75) (jA (ks 1) 1 f1) H1 → va_S (AR (RC bx) s.heap.size) s.heap H1 locs1 → lv_has ls1 8 [(0, .ref b), (1, .ref bx), (2, .ref (bx + 55)), (3, .ref (bx + 75)), (4, .int (z2 (5 * ((k : Nat) : Int))))] → W p l e room_1 s m #[Value.ref b] below meth c H1 locs1 (cells + 4) (slots + 24) Q (F0 m 1505 ls1 [])) :
    W p l e room_1 s m #[Value.ref b] below meth c H locs cells slots Q (F0 m 387 ls []) := by
  obtain ⟨u, hu, eu⟩ := z2_ex (xs (5 * k + 1))
  have b4 := hI.2.1
  refine lv_aload_n hx hb dL_law_387 rfl (lv_at hl 1 rfl) ?_
  refine lv_aload_n hx hb dL_law_388 rfl (lv_at hl 0 rfl) ?_
  refine lv_iload hx hb dL_law_389 (lv_at hl 4 rfl) ?_
  refine b_iconst hx hb dL_law_391 ?_
  refine b_iadd hx hb dL_law_392 ?_
  refine g_scr hx hb hX hbl hbA hS (5 * k + 1) ⟨by omega, by omega, by omega⟩ eu dL_law_393 ?_
  refine lv_aload_n hx hb dL_law_394 rfl (lv_at hl 3 rfl) ?_
  refine g_run (vx_runSX (As := [.ref bx, .int (z2 (u)), .ref (bx + 75)]) (rest := []) ⟨hx, hb, hml, hown, hts⟩ (w_turned l D ks bx ml X _ hP hI.2.1 hst ho (u) hu) (vx_cwSW 3 hts gL_law_L_turned rfl rfl rfl (by decide +kernel) ⟨Nat.le_of_ble_eq_true rfl, Nat.le_of_ble_eq_true rfl⟩) (g_preS hG hS (fun _ h => h)) rfl rfl hl.1 rfl (lv_room (Nat.le_of_ble_eq_true rfl)) dL_law_395 ⟨by show cells + 1 ≤ room_1.cells; omega, by show slots + 6 ≤ room_1.slots; omega⟩) hS (fun q h => rw_ge q h) (fun _ _ _ _ _ h => h.elim) (fun v H locs hp hz9 hk9 hS => ?_)
  obtain ⟨z, r, Y, hco, rfl, ⟨ml1, hP⟩, f1, ho, hf⟩ := hp
  have hM := hM.keep (fun q h1 h2 h3 => hk9 q h1 (fun h => h.elim (fun r => absurd r.2 (by omega)) (fun r => by omega)))
  have hz := z_turned hco
  refine W.eq (g2 := F0 m 398 ls [.int (z2 (z))]) rfl ?_
  refine lv_istore (lv' := [(5, .int (z2 (z))), (0, .ref b), (1, .ref bx), (2, .ref (bx + 55)), (3, .ref (bx + 75)), (4, .int (z2 (5 * ((k : Nat) : Int))))]) hx hb dL_law_398 hl (by decide) rfl (fun ls hl => ?_)
  refine lv_aload_n hx hb dL_law_400 rfl (lv_at hl 3 rfl) ?_
  refine lv_aload_n hx hb dL_law_401 rfl (lv_at hl 1 rfl) ?_
  refine lv_iload hx hb dL_law_402 (lv_at hl 5 rfl) ?_
  refine b_iconst hx hb dL_law_404 ?_
  refine b_iadd hx hb dL_law_405 ?_
  refine g_scr hx hb hX hbl hbA hS (5 * k + 1) ⟨by omega, by omega, by omega⟩ eu dL_law_406 ?_
  refine g_run (vx_runV (As := [.int (z2 (u))]) (rest := []) ⟨hx, hb, hml, hown, hts⟩ (m_turned l D ks bx (bx + 55) (by omega) S _ hM hI.2.2.2 (u) hu) (cwV 1 hts gL_law_X5_turned rfl rfl rfl (by decide +kernel) ⟨Nat.le_of_ble_eq_true rfl, Nat.le_of_ble_eq_true rfl⟩) (g_preV (r := (RX5, TX5, 23)) hG hS (fun _ h => h) hM.1 rfl) rfl rfl hl.1 rfl (lv_room (Nat.le_of_ble_eq_true rfl)) dL_law_407 ⟨by show cells + 1 + 0 ≤ room_1.cells; omega, by show slots + 6 + 0 ≤ room_1.slots; omega⟩) hS (fun q h => rm_ge (bx := bx) (by omega) q h) (fun _ _ _ _ _ h => h.elim) (fun v H locs hp hz9 hk9 hS => ?_)
  obtain ⟨q, T, hro, rfl, hM⟩ := hp
  have hP := hP.keep (fun q h1 h2 => hk9 q h1 (fun h => by have h3 := h.1; have h4 := h.2; omega))
  have ho := ho.kept (hk9 _ ho.lt (fun h => absurd h.2 (by omega)))
  obtain ⟨c1, c2, hJ⟩ := cs_turned hI hco hro
  refine W.eq (g2 := F0 m 410 ls [.long (l2 q)]) rfl ?_
  refine lv_lstore (lv' := [(6, .long (l2 q)), (5, .int (z2 (z))), (0, .ref b), (1, .ref bx), (2, .ref (bx + 55)), (3, .ref (bx + 75)), (4, .int (z2 (5 * ((k : Nat) : Int))))]) hx hb dL_law_410 hl (by decide) rfl (fun ls hl => ?_)
  refine lv_aload_n hx hb dL_law_412 rfl (lv_at hl 4 rfl) ?_
  refine g_run (vx_runV (As := []) (rest := []) ⟨hx, hb, hml, hown, hts⟩ (m_thrown l D ks bx (bx + 55) (by omega) T _ hM hJ.2.2.2) (cwV 0 hts gL_law_X5_thrown rfl rfl rfl (by decide +kernel) ⟨Nat.le_of_ble_eq_true rfl, Nat.le_of_ble_eq_true rfl⟩) (g_preV (r := (RX5, TX5, 23)) hG hS (fun _ h => h) hM.1 rfl) rfl rfl hl.1 rfl (lv_room (Nat.le_of_ble_eq_true rfl)) dL_law_413 ⟨by show cells + 1 + 0 + 0 ≤ room_1.cells; omega, by show slots + 6 + 0 + 0 ≤ room_1.slots; omega⟩) hS (fun q h => rm_ge (bx := bx) (by omega) q h) (fun _ _ _ _ _ h => h.elim) (fun v H locs hp hz9 hk9 hS => ?_)
  obtain ⟨rfl, hH9⟩ := hp
  obtain rfl := hH9.symm
  rw [c1]
  refine W.eq (g2 := F0 m 416 ls [.int (z2 (z))]) rfl ?_
  refine lv_iload hx hb dL_law_416 (lv_at hl 1 rfl) ?_
  refine lv_icmp_eq (tgt := 423) hx hb dL_law_418 (by decide) (fun _ => ?_) (fun c => absurd rfl c)
  refine lv_iload hx hb dL_law_423 (lv_at hl 1 rfl) ?_
  refine b_if_ne (tgt := 439) hx hb dL_law_425 (by decide) ⟨by omega, by omega⟩ (fun c_z => ?_) (fun c_z => ?_)
  · skip
    refine lv_goto (tgt := 1505) hx hb dL_law_439 (by decide) ?_
    refine W.widen (k := cells + 4) (n := slots + 24) (by show cells + 1 + 0 + 0 ≤ cells + 4; omega) (by show slots + 6 + 0 + 0 ≤ slots + 24; omega) ?_
    exact kk _ _ _ _ _ _ _ hJ hP hM ho hS (lv_sub hl [2, 3, 4, 5, 6] rfl)
  · skip
    have hrq := c2 c_z
    have hf0 := hf c_z
    refine lv_aload_n hx hb dL_law_428 rfl (lv_at hl 5 rfl) ?_
    refine b_iconst hx hb dL_law_429 ?_
    refine g_lald (n := 1) hx hb hG ho 0 ⟨rfl, by decide, by decide⟩ dL_law_430 ?_
    refine lv_lload hx hb dL_law_431 (lv_at hl 0 rfl) ?_
    refine W.lcmp hx hb dL_law_433 ?_
    refine b_top (v := 0) (lg_self (hf0.trans (congrArg l2 hrq))) ?_
    refine b_if_eq (tgt := 439) hx hb dL_law_434 (by decide) ⟨by omega, by omega⟩ (fun _ => ?_) (fun c => absurd rfl c)
    refine lv_goto (tgt := 1505) hx hb dL_law_439 (by decide) ?_
    refine W.widen (k := cells + 4) (n := slots + 24) (by show cells + 1 + 0 + 0 ≤ cells + 4; omega) (by show slots + 6 + 0 + 0 ≤ slots + 24; omega) ?_
    exact kk _ _ _ _ _ _ _ hJ hP hM ho hS (lv_sub hl [2, 3, 4, 5, 6] rfl)
set_option maxHeartbeats 4000000 in
set_option maxRecDepth 100000 in
theorem c_areAlike {p : Program} {e : Env} {s : State} {m : MethodId} {below : List Frame} {meth : Method} {c : Code} (l : Launch) (hst : l.stackTraces = false) {D : va_G} {ks : Nat → ClassId} {b bx nL k : Nat} {xs : Nat → Int32} {Q : State → Prop} (hx : p.tables.exec = Jvm.exec) (hb : c.code = cL_law) (hml : c.maxLocals = 8) (hown : s.vm.findClass RL = some m.cls) (hts : ∀ w ∈ wsL_law, w.before #[Value.ref b] s = true) (hX : va_X b nL xs s s.heap) (hbl : b < s.heap.size) (hG : GE D ks bx s) (hbA : ¬ AR (RC bx) s.heap.size b) (hL : nL ≤ 2560) (hk : 5 * k + 5 ≤ nL) {H : Heap} {locs : List Loc} {ls : Array Slot} {cells slots : Nat} (hcs : cells + 10 ≤ room_1.cells ∧ slots + 60 ≤ room_1.slots)
    {ml : Nat → Nat} {X S : Nat → Nat → Int} {fo : Nat → Int64} (hI : IV X S) (hP : PX D ks bx ml X H) (hM : PM D ks (bx + 55) S H) (ho : ca D (bx + 75) (jA (ks 1) 1 fo) H) (hS : va_S (AR (RC bx) s.heap.size) s.heap H locs) (hl : lv_has ls 8 [(0, .ref b), (1, .ref bx), (2, .ref (bx + 55)), (3, .ref (bx + 75)), (4, .int (z2 (5 * ((k : Nat) : Int))))])
    (kk : ∀ (ml1 : Nat → Nat) (X1 S1 : Nat → Nat → Int) (f1 : Nat → Int64) (H1 : Heap) (locs1 : List Loc) (ls1 : Array Slot), IV X1 S1 → PX D ks bx ml1 X1 H1 → PM D ks (bx + 55) S1 H1 → ca D (bx + 75) (jA (ks 1) 1 f1) H1 → va_S (AR (RC bx) s.heap.size) s.heap H1 locs1 → lv_has ls1 8 [(0, .ref b), (1, .ref bx), (2, .ref (bx + 55)), (3, .ref (bx + 75)), (4, .int (z2 (5 * ((k : Nat) : Int))))] → W p l e room_1 s m #[Value.ref b] below meth c H1 locs1 (cells + 4) (slots + 24) Q (F0 m 1505 ls1 [])) :
    W p l e room_1 s m #[Value.ref b] below meth c H locs cells slots Q (F0 m 442 ls []) := by
  obtain ⟨u, hu, eu⟩ := z2_ex (xs (5 * k + 1))
  obtain ⟨v2, hv2, ev2⟩ := z2_ex (xs (5 * k + 2))
  have b4 := hI.2.1
  refine lv_aload_n hx hb dL_law_442 rfl (lv_at hl 1 rfl) ?_
  refine lv_aload_n hx hb dL_law_443 rfl (lv_at hl 0 rfl) ?_
  refine lv_iload hx hb dL_law_444 (lv_at hl 4 rfl) ?_
  refine b_iconst hx hb dL_law_446 ?_
  refine b_iadd hx hb dL_law_447 ?_
  refine g_scr hx hb hX hbl hbA hS (5 * k + 1) ⟨by omega, by omega, by omega⟩ eu dL_law_448 ?_
  refine lv_aload_n hx hb dL_law_449 rfl (lv_at hl 0 rfl) ?_
  refine lv_iload hx hb dL_law_450 (lv_at hl 4 rfl) ?_
  refine b_iconst hx hb dL_law_452 ?_
  refine b_iadd hx hb dL_law_453 ?_
  refine g_scr hx hb hX hbl hbA hS (5 * k + 2) ⟨by omega, by omega, by omega⟩ ev2 dL_law_454 ?_
  refine lv_aload_n hx hb dL_law_455 rfl (lv_at hl 3 rfl) ?_
  refine g_run (vx_runSX (As := [.ref bx, .int (z2 (u)), .int (z2 (v2)), .ref (bx + 75)]) (rest := []) ⟨hx, hb, hml, hown, hts⟩ (w_areAlike l D ks bx ml X _ hP hI.2.1 hst ho (u) (v2) hu hv2) (vx_cwSW 4 hts gL_law_L_areAlike rfl rfl rfl (by decide +kernel) ⟨Nat.le_of_ble_eq_true rfl, Nat.le_of_ble_eq_true rfl⟩) (g_preS hG hS (fun _ h => h)) rfl rfl hl.1 rfl (lv_room (Nat.le_of_ble_eq_true rfl)) dL_law_456 ⟨by show cells + 2 ≤ room_1.cells; omega, by show slots + 12 ≤ room_1.slots; omega⟩) hS (fun q h => rw_ge q h) (fun _ _ _ _ _ h => h.elim) (fun v H locs hp hz9 hk9 hS => ?_)
  obtain ⟨z, r, Y, hco, rfl, ⟨ml1, hP⟩, f1, ho, hf⟩ := hp
  have hM := hM.keep (fun q h1 h2 h3 => hk9 q h1 (fun h => h.elim (fun r => absurd r.2 (by omega)) (fun r => by omega)))
  have hz := z_areAlike hco
  refine W.eq (g2 := F0 m 459 ls [.int (z2 (z))]) rfl ?_
  refine lv_istore (lv' := [(5, .int (z2 (z))), (0, .ref b), (1, .ref bx), (2, .ref (bx + 55)), (3, .ref (bx + 75)), (4, .int (z2 (5 * ((k : Nat) : Int))))]) hx hb dL_law_459 hl (by decide) rfl (fun ls hl => ?_)
  refine lv_aload_n hx hb dL_law_461 rfl (lv_at hl 3 rfl) ?_
  refine lv_aload_n hx hb dL_law_462 rfl (lv_at hl 1 rfl) ?_
  refine lv_iload hx hb dL_law_463 (lv_at hl 5 rfl) ?_
  refine b_iconst hx hb dL_law_465 ?_
  refine b_iadd hx hb dL_law_466 ?_
  refine g_scr hx hb hX hbl hbA hS (5 * k + 1) ⟨by omega, by omega, by omega⟩ eu dL_law_467 ?_
  refine lv_aload_n hx hb dL_law_468 rfl (lv_at hl 1 rfl) ?_
  refine lv_iload hx hb dL_law_469 (lv_at hl 5 rfl) ?_
  refine b_iconst hx hb dL_law_471 ?_
  refine b_iadd hx hb dL_law_472 ?_
  refine g_scr hx hb hX hbl hbA hS (5 * k + 2) ⟨by omega, by omega, by omega⟩ ev2 dL_law_473 ?_
  refine g_run (vx_runV (As := [.int (z2 (u)), .int (z2 (v2))]) (rest := []) ⟨hx, hb, hml, hown, hts⟩ (m_areAlike l D ks bx (bx + 55) (by omega) S _ hM hI.2.2.2 (u) (v2) hu hv2) (cwV 2 hts gL_law_X5_areAlike rfl rfl rfl (by decide +kernel) ⟨Nat.le_of_ble_eq_true rfl, Nat.le_of_ble_eq_true rfl⟩) (g_preV (r := (RX5, TX5, 23)) hG hS (fun _ h => h) hM.1 rfl) rfl rfl hl.1 rfl (lv_room (Nat.le_of_ble_eq_true rfl)) dL_law_474 ⟨by show cells + 2 + 0 ≤ room_1.cells; omega, by show slots + 12 + 0 ≤ room_1.slots; omega⟩) hS (fun q h => rm_ge (bx := bx) (by omega) q h) (fun _ _ _ _ _ h => h.elim) (fun v H locs hp hz9 hk9 hS => ?_)
  obtain ⟨q, T, hro, rfl, hM⟩ := hp
  have hP := hP.keep (fun q h1 h2 => hk9 q h1 (fun h => by have h3 := h.1; have h4 := h.2; omega))
  have ho := ho.kept (hk9 _ ho.lt (fun h => absurd h.2 (by omega)))
  obtain ⟨c1, c2, hJ⟩ := cs_areAlike hI hco hro
  refine W.eq (g2 := F0 m 477 ls [.int (z2 (q))]) rfl ?_
  refine lv_istore (lv' := [(6, .int (z2 (q))), (5, .int (z2 (z))), (0, .ref b), (1, .ref bx), (2, .ref (bx + 55)), (3, .ref (bx + 75)), (4, .int (z2 (5 * ((k : Nat) : Int))))]) hx hb dL_law_477 hl (by decide) rfl (fun ls hl => ?_)
  refine lv_aload_n hx hb dL_law_479 rfl (lv_at hl 4 rfl) ?_
  refine g_run (vx_runV (As := []) (rest := []) ⟨hx, hb, hml, hown, hts⟩ (m_thrown l D ks bx (bx + 55) (by omega) T _ hM hJ.2.2.2) (cwV 0 hts gL_law_X5_thrown rfl rfl rfl (by decide +kernel) ⟨Nat.le_of_ble_eq_true rfl, Nat.le_of_ble_eq_true rfl⟩) (g_preV (r := (RX5, TX5, 23)) hG hS (fun _ h => h) hM.1 rfl) rfl rfl hl.1 rfl (lv_room (Nat.le_of_ble_eq_true rfl)) dL_law_480 ⟨by show cells + 2 + 0 + 0 ≤ room_1.cells; omega, by show slots + 12 + 0 + 0 ≤ room_1.slots; omega⟩) hS (fun q h => rm_ge (bx := bx) (by omega) q h) (fun _ _ _ _ _ h => h.elim) (fun v H locs hp hz9 hk9 hS => ?_)
  obtain ⟨rfl, hH9⟩ := hp
  obtain rfl := hH9.symm
  rw [c1]
  refine W.eq (g2 := F0 m 483 ls [.int (z2 (z))]) rfl ?_
  refine lv_iload hx hb dL_law_483 (lv_at hl 1 rfl) ?_
  refine lv_icmp_eq (tgt := 490) hx hb dL_law_485 (by decide) (fun _ => ?_) (fun c => absurd rfl c)
  refine lv_iload hx hb dL_law_490 (lv_at hl 1 rfl) ?_
  refine b_if_ne (tgt := 514) hx hb dL_law_492 (by decide) ⟨by omega, by omega⟩ (fun c_z => ?_) (fun c_z => ?_)
  · skip
    refine lv_goto (tgt := 1505) hx hb dL_law_514 (by decide) ?_
    refine W.widen (k := cells + 4) (n := slots + 24) (by show cells + 2 + 0 + 0 ≤ cells + 4; omega) (by show slots + 12 + 0 + 0 ≤ slots + 24; omega) ?_
    exact kk _ _ _ _ _ _ _ hJ hP hM ho hS (lv_sub hl [2, 3, 4, 5, 6] rfl)
  · skip
    have hrq := c2 c_z
    have hf0 := hf c_z
    have r01 := r_areAlike hI.2.1 hco c_z
    refine lv_aload_n hx hb dL_law_495 rfl (lv_at hl 5 rfl) ?_
    refine b_iconst hx hb dL_law_496 ?_
    refine g_lald (n := 1) hx hb hG ho 0 ⟨rfl, by decide, by decide⟩ dL_law_497 ?_
    refine lv_iload hx hb dL_law_498 (lv_at hl 0 rfl) ?_
    refine b_if_eq (tgt := 507) hx hb dL_law_500 (by decide) ⟨by omega, by omega⟩ (fun c_b => ?_) (fun c_b => ?_)
    · skip
      refine lv_lconst (v := l2 0) hx hb dL_law_507 (by decide +kernel) ?_
      refine W.lcmp hx hb dL_law_508 ?_
      refine b_top (v := 0) (lg_self (hf0.trans (congrArg l2 (show r = 0 by omega)))) ?_
      refine b_if_eq (tgt := 514) hx hb dL_law_509 (by decide) ⟨by omega, by omega⟩ (fun _ => ?_) (fun c => absurd rfl c)
      refine lv_goto (tgt := 1505) hx hb dL_law_514 (by decide) ?_
      refine W.widen (k := cells + 4) (n := slots + 24) (by show cells + 2 + 0 + 0 ≤ cells + 4; omega) (by show slots + 12 + 0 + 0 ≤ slots + 24; omega) ?_
      exact kk _ _ _ _ _ _ _ hJ hP hM ho hS (lv_sub hl [2, 3, 4, 5, 6] rfl)
    · skip
      refine lv_lconst (v := l2 1) hx hb dL_law_503 (by decide +kernel) ?_
      refine lv_goto (tgt := 508) hx hb dL_law_504 (by decide) ?_
      refine W.lcmp hx hb dL_law_508 ?_
      refine b_top (v := 0) (lg_self (hf0.trans (congrArg l2 (show r = 1 by omega)))) ?_
      refine b_if_eq (tgt := 514) hx hb dL_law_509 (by decide) ⟨by omega, by omega⟩ (fun _ => ?_) (fun c => absurd rfl c)
      refine lv_goto (tgt := 1505) hx hb dL_law_514 (by decide) ?_
      refine W.widen (k := cells + 4) (n := slots + 24) (by show cells + 2 + 0 + 0 ≤ cells + 4; omega) (by show slots + 12 + 0 + 0 ≤ slots + 24; omega) ?_
      exact kk _ _ _ _ _ _ _ hJ hP hM ho hS (lv_sub hl [2, 3, 4, 5, 6] rfl)
set_option maxHeartbeats 4000000 in
set_option maxRecDepth 100000 in
theorem c_license {p : Program} {e : Env} {s : State} {m : MethodId} {below : List Frame} {meth : Method} {c : Code} (l : Launch) (hst : l.stackTraces = false) {D : va_G} {ks : Nat → ClassId} {b bx nL k : Nat} {xs : Nat → Int32} {Q : State → Prop} (hx : p.tables.exec = Jvm.exec) (hb : c.code = cL_law) (hml : c.maxLocals = 8) (hown : s.vm.findClass RL = some m.cls) (hts : ∀ w ∈ wsL_law, w.before #[Value.ref b] s = true) (hX : va_X b nL xs s s.heap) (hbl : b < s.heap.size) (hG : GE D ks bx s) (hbA : ¬ AR (RC bx) s.heap.size b) (hL : nL ≤ 2560) (hk : 5 * k + 5 ≤ nL) {H : Heap} {locs : List Loc} {ls : Array Slot} {cells slots : Nat} (hcs : cells + 10 ≤ room_1.cells ∧ slots + 60 ≤ room_1.slots)
    {ml : Nat → Nat} {X S : Nat → Nat → Int} {fo : Nat → Int64} (hI : IV X S) (hP : PX D ks bx ml X H) (hM : PM D ks (bx + 55) S H) (ho : ca D (bx + 75) (jA (ks 1) 1 fo) H) (hS : va_S (AR (RC bx) s.heap.size) s.heap H locs) (hl : lv_has ls 8 [(0, .ref b), (1, .ref bx), (2, .ref (bx + 55)), (3, .ref (bx + 75)), (4, .int (z2 (5 * ((k : Nat) : Int))))])
    (kk : ∀ (ml1 : Nat → Nat) (X1 S1 : Nat → Nat → Int) (f1 : Nat → Int64) (H1 : Heap) (locs1 : List Loc) (ls1 : Array Slot), IV X1 S1 → PX D ks bx ml1 X1 H1 → PM D ks (bx + 55) S1 H1 → ca D (bx + 75) (jA (ks 1) 1 f1) H1 → va_S (AR (RC bx) s.heap.size) s.heap H1 locs1 → lv_has ls1 8 [(0, .ref b), (1, .ref bx), (2, .ref (bx + 55)), (3, .ref (bx + 75)), (4, .int (z2 (5 * ((k : Nat) : Int))))] → W p l e room_1 s m #[Value.ref b] below meth c H1 locs1 (cells + 4) (slots + 24) Q (F0 m 1505 ls1 [])) :
    W p l e room_1 s m #[Value.ref b] below meth c H locs cells slots Q (F0 m 517 ls []) := by
  obtain ⟨u, hu, eu⟩ := z2_ex (xs (5 * k + 1))
  obtain ⟨v2, hv2, ev2⟩ := z2_ex (xs (5 * k + 2))
  obtain ⟨u3, hu3, eu3⟩ := z2_ex (xs (5 * k + 3))
  have b4 := hI.2.1
  refine lv_aload_n hx hb dL_law_517 rfl (lv_at hl 1 rfl) ?_
  refine lv_aload_n hx hb dL_law_518 rfl (lv_at hl 0 rfl) ?_
  refine lv_iload hx hb dL_law_519 (lv_at hl 4 rfl) ?_
  refine b_iconst hx hb dL_law_521 ?_
  refine b_iadd hx hb dL_law_522 ?_
  refine g_scr hx hb hX hbl hbA hS (5 * k + 1) ⟨by omega, by omega, by omega⟩ eu dL_law_523 ?_
  refine lv_aload_n hx hb dL_law_524 rfl (lv_at hl 0 rfl) ?_
  refine lv_iload hx hb dL_law_525 (lv_at hl 4 rfl) ?_
  refine b_iconst hx hb dL_law_527 ?_
  refine b_iadd hx hb dL_law_528 ?_
  refine g_scr hx hb hX hbl hbA hS (5 * k + 2) ⟨by omega, by omega, by omega⟩ ev2 dL_law_529 ?_
  refine lv_aload_n hx hb dL_law_530 rfl (lv_at hl 0 rfl) ?_
  refine lv_iload hx hb dL_law_531 (lv_at hl 4 rfl) ?_
  refine b_iconst hx hb dL_law_533 ?_
  refine b_iadd hx hb dL_law_534 ?_
  refine g_scr hx hb hX hbl hbA hS (5 * k + 3) ⟨by omega, by omega, by omega⟩ eu3 dL_law_535 ?_
  refine lv_aload_n hx hb dL_law_536 rfl (lv_at hl 3 rfl) ?_
  refine g_run (vx_runSX (As := [.ref bx, .int (z2 (u)), .int (z2 (v2)), .int (z2 (u3)), .ref (bx + 75)]) (rest := []) ⟨hx, hb, hml, hown, hts⟩ (w_license l D ks bx ml X _ hP hI.2.1 hst ho (u) (v2) (u3) hu hv2 hu3) (vx_cwSW 5 hts gL_law_L_license rfl rfl rfl (by decide +kernel) ⟨Nat.le_of_ble_eq_true rfl, Nat.le_of_ble_eq_true rfl⟩) (g_preS hG hS (fun _ h => h)) rfl rfl hl.1 rfl (lv_room (Nat.le_of_ble_eq_true rfl)) dL_law_537 ⟨by show cells + 3 ≤ room_1.cells; omega, by show slots + 18 ≤ room_1.slots; omega⟩) hS (fun q h => rw_ge q h) (fun _ _ _ _ _ h => h.elim) (fun v H locs hp hz9 hk9 hS => ?_)
  obtain ⟨z, r, Y, hco, rfl, ⟨ml1, hP⟩, f1, ho, hf⟩ := hp
  have hM := hM.keep (fun q h1 h2 h3 => hk9 q h1 (fun h => h.elim (fun r => absurd r.2 (by omega)) (fun r => by omega)))
  have hz := z_license hco
  refine W.eq (g2 := F0 m 540 ls [.int (z2 (z))]) rfl ?_
  refine lv_istore (lv' := [(5, .int (z2 (z))), (0, .ref b), (1, .ref bx), (2, .ref (bx + 55)), (3, .ref (bx + 75)), (4, .int (z2 (5 * ((k : Nat) : Int))))]) hx hb dL_law_540 hl (by decide) rfl (fun ls hl => ?_)
  refine lv_aload_n hx hb dL_law_542 rfl (lv_at hl 3 rfl) ?_
  refine lv_aload_n hx hb dL_law_543 rfl (lv_at hl 1 rfl) ?_
  refine lv_iload hx hb dL_law_544 (lv_at hl 5 rfl) ?_
  refine b_iconst hx hb dL_law_546 ?_
  refine b_iadd hx hb dL_law_547 ?_
  refine g_scr hx hb hX hbl hbA hS (5 * k + 1) ⟨by omega, by omega, by omega⟩ eu dL_law_548 ?_
  refine lv_aload_n hx hb dL_law_549 rfl (lv_at hl 1 rfl) ?_
  refine lv_iload hx hb dL_law_550 (lv_at hl 5 rfl) ?_
  refine b_iconst hx hb dL_law_552 ?_
  refine b_iadd hx hb dL_law_553 ?_
  refine g_scr hx hb hX hbl hbA hS (5 * k + 2) ⟨by omega, by omega, by omega⟩ ev2 dL_law_554 ?_
  refine lv_aload_n hx hb dL_law_555 rfl (lv_at hl 1 rfl) ?_
  refine lv_iload hx hb dL_law_556 (lv_at hl 5 rfl) ?_
  refine b_iconst hx hb dL_law_558 ?_
  refine b_iadd hx hb dL_law_559 ?_
  refine g_scr hx hb hX hbl hbA hS (5 * k + 3) ⟨by omega, by omega, by omega⟩ eu3 dL_law_560 ?_
  refine g_run (vx_runV (As := [.int (z2 (u)), .int (z2 (v2)), .int (z2 (u3))]) (rest := []) ⟨hx, hb, hml, hown, hts⟩ (m_license l D ks bx (bx + 55) (by omega) S _ hM hI.2.2.2 (u) (v2) (u3) hu hv2 hu3) (cwV 3 hts gL_law_X5_license rfl rfl rfl (by decide +kernel) ⟨Nat.le_of_ble_eq_true rfl, Nat.le_of_ble_eq_true rfl⟩) (g_preV (r := (RX5, TX5, 23)) hG hS (fun _ h => h) hM.1 rfl) rfl rfl hl.1 rfl (lv_room (Nat.le_of_ble_eq_true rfl)) dL_law_561 ⟨by show cells + 3 + 0 ≤ room_1.cells; omega, by show slots + 18 + 0 ≤ room_1.slots; omega⟩) hS (fun q h => rm_ge (bx := bx) (by omega) q h) (fun _ _ _ _ _ h => h.elim) (fun v H locs hp hz9 hk9 hS => ?_)
  obtain ⟨q, T, hro, rfl, hM⟩ := hp
  have hP := hP.keep (fun q h1 h2 => hk9 q h1 (fun h => by have h3 := h.1; have h4 := h.2; omega))
  have ho := ho.kept (hk9 _ ho.lt (fun h => absurd h.2 (by omega)))
  obtain ⟨c1, c2, hJ⟩ := cs_license hI hco hro
  refine W.eq (g2 := F0 m 564 ls [.int (z2 (q))]) rfl ?_
  refine lv_istore (lv' := [(6, .int (z2 (q))), (5, .int (z2 (z))), (0, .ref b), (1, .ref bx), (2, .ref (bx + 55)), (3, .ref (bx + 75)), (4, .int (z2 (5 * ((k : Nat) : Int))))]) hx hb dL_law_564 hl (by decide) rfl (fun ls hl => ?_)
  refine lv_aload_n hx hb dL_law_566 rfl (lv_at hl 4 rfl) ?_
  refine g_run (vx_runV (As := []) (rest := []) ⟨hx, hb, hml, hown, hts⟩ (m_thrown l D ks bx (bx + 55) (by omega) T _ hM hJ.2.2.2) (cwV 0 hts gL_law_X5_thrown rfl rfl rfl (by decide +kernel) ⟨Nat.le_of_ble_eq_true rfl, Nat.le_of_ble_eq_true rfl⟩) (g_preV (r := (RX5, TX5, 23)) hG hS (fun _ h => h) hM.1 rfl) rfl rfl hl.1 rfl (lv_room (Nat.le_of_ble_eq_true rfl)) dL_law_567 ⟨by show cells + 3 + 0 + 0 ≤ room_1.cells; omega, by show slots + 18 + 0 + 0 ≤ room_1.slots; omega⟩) hS (fun q h => rm_ge (bx := bx) (by omega) q h) (fun _ _ _ _ _ h => h.elim) (fun v H locs hp hz9 hk9 hS => ?_)
  obtain ⟨rfl, hH9⟩ := hp
  obtain rfl := hH9.symm
  rw [c1]
  refine W.eq (g2 := F0 m 570 ls [.int (z2 (z))]) rfl ?_
  refine lv_iload hx hb dL_law_570 (lv_at hl 1 rfl) ?_
  refine lv_icmp_eq (tgt := 577) hx hb dL_law_572 (by decide) (fun _ => ?_) (fun c => absurd rfl c)
  refine lv_iload hx hb dL_law_577 (lv_at hl 1 rfl) ?_
  refine b_if_ne (tgt := 594) hx hb dL_law_579 (by decide) ⟨by omega, by omega⟩ (fun c_z => ?_) (fun c_z => ?_)
  · skip
    refine lv_goto (tgt := 1505) hx hb dL_law_594 (by decide) ?_
    refine W.widen (k := cells + 4) (n := slots + 24) (by show cells + 3 + 0 + 0 ≤ cells + 4; omega) (by show slots + 18 + 0 + 0 ≤ slots + 24; omega) ?_
    exact kk _ _ _ _ _ _ _ hJ hP hM ho hS (lv_sub hl [2, 3, 4, 5, 6] rfl)
  · skip
    have hrq := c2 c_z
    have hf0 := hf c_z
    refine lv_aload_n hx hb dL_law_582 rfl (lv_at hl 5 rfl) ?_
    refine b_iconst hx hb dL_law_583 ?_
    refine g_lald (n := 1) hx hb hG ho 0 ⟨rfl, by decide, by decide⟩ dL_law_584 ?_
    refine lv_iload hx hb dL_law_585 (lv_at hl 0 rfl) ?_
    refine lv_i2l (v := (z2 (q)).toInt64) hx hb dL_law_587 rfl ?_
    refine W.lcmp hx hb dL_law_588 ?_
    refine b_top (v := 0) (lg_self (hf0.trans (congrArg (fun z => (z2 z).toInt64) hrq))) ?_
    refine b_if_eq (tgt := 594) hx hb dL_law_589 (by decide) ⟨by omega, by omega⟩ (fun _ => ?_) (fun c => absurd rfl c)
    refine lv_goto (tgt := 1505) hx hb dL_law_594 (by decide) ?_
    refine W.widen (k := cells + 4) (n := slots + 24) (by show cells + 3 + 0 + 0 ≤ cells + 4; omega) (by show slots + 18 + 0 + 0 ≤ slots + 24; omega) ?_
    exact kk _ _ _ _ _ _ _ hJ hP hM ho hS (lv_sub hl [2, 3, 4, 5, 6] rfl)
set_option maxHeartbeats 4000000 in
set_option maxRecDepth 100000 in
theorem c_setQuiet {p : Program} {e : Env} {s : State} {m : MethodId} {below : List Frame} {meth : Method} {c : Code} (l : Launch) (hst : l.stackTraces = false) {D : va_G} {ks : Nat → ClassId} {b bx nL k : Nat} {xs : Nat → Int32} {Q : State → Prop} (hx : p.tables.exec = Jvm.exec) (hb : c.code = cL_law) (hml : c.maxLocals = 8) (hown : s.vm.findClass RL = some m.cls) (hts : ∀ w ∈ wsL_law, w.before #[Value.ref b] s = true) (hX : va_X b nL xs s s.heap) (hbl : b < s.heap.size) (hG : GE D ks bx s) (hbA : ¬ AR (RC bx) s.heap.size b) (hL : nL ≤ 2560) (hk : 5 * k + 5 ≤ nL) {H : Heap} {locs : List Loc} {ls : Array Slot} {cells slots : Nat} (hcs : cells + 10 ≤ room_1.cells ∧ slots + 60 ≤ room_1.slots)
    {ml : Nat → Nat} {X S : Nat → Nat → Int} {fo : Nat → Int64} (hI : IV X S) (hP : PX D ks bx ml X H) (hM : PM D ks (bx + 55) S H) (ho : ca D (bx + 75) (jA (ks 1) 1 fo) H) (hS : va_S (AR (RC bx) s.heap.size) s.heap H locs) (hl : lv_has ls 8 [(0, .ref b), (1, .ref bx), (2, .ref (bx + 55)), (3, .ref (bx + 75)), (4, .int (z2 (5 * ((k : Nat) : Int))))])
    (kk : ∀ (ml1 : Nat → Nat) (X1 S1 : Nat → Nat → Int) (f1 : Nat → Int64) (H1 : Heap) (locs1 : List Loc) (ls1 : Array Slot), IV X1 S1 → PX D ks bx ml1 X1 H1 → PM D ks (bx + 55) S1 H1 → ca D (bx + 75) (jA (ks 1) 1 f1) H1 → va_S (AR (RC bx) s.heap.size) s.heap H1 locs1 → lv_has ls1 8 [(0, .ref b), (1, .ref bx), (2, .ref (bx + 55)), (3, .ref (bx + 75)), (4, .int (z2 (5 * ((k : Nat) : Int))))] → W p l e room_1 s m #[Value.ref b] below meth c H1 locs1 (cells + 4) (slots + 24) Q (F0 m 1505 ls1 [])) :
    W p l e room_1 s m #[Value.ref b] below meth c H locs cells slots Q (F0 m 597 ls []) := by
  obtain ⟨u, hu, eu⟩ := z2_ex (xs (5 * k + 1))
  obtain ⟨v2, hv2, ev2⟩ := z2_ex (xs (5 * k + 2))
  obtain ⟨u3, hu3, eu3⟩ := z2_ex (xs (5 * k + 3))
  have b4 := hI.2.1
  refine lv_aload_n hx hb dL_law_597 rfl (lv_at hl 1 rfl) ?_
  refine lv_aload_n hx hb dL_law_598 rfl (lv_at hl 0 rfl) ?_
  refine lv_iload hx hb dL_law_599 (lv_at hl 4 rfl) ?_
  refine b_iconst hx hb dL_law_601 ?_
  refine b_iadd hx hb dL_law_602 ?_
  refine g_scr hx hb hX hbl hbA hS (5 * k + 1) ⟨by omega, by omega, by omega⟩ eu dL_law_603 ?_
  refine lv_aload_n hx hb dL_law_604 rfl (lv_at hl 0 rfl) ?_
  refine lv_iload hx hb dL_law_605 (lv_at hl 4 rfl) ?_
  refine b_iconst hx hb dL_law_607 ?_
  refine b_iadd hx hb dL_law_608 ?_
  refine g_scr hx hb hX hbl hbA hS (5 * k + 2) ⟨by omega, by omega, by omega⟩ ev2 dL_law_609 ?_
  refine lv_aload_n hx hb dL_law_610 rfl (lv_at hl 0 rfl) ?_
  refine lv_iload hx hb dL_law_611 (lv_at hl 4 rfl) ?_
  refine b_iconst hx hb dL_law_613 ?_
  refine b_iadd hx hb dL_law_614 ?_
  refine g_scr hx hb hX hbl hbA hS (5 * k + 3) ⟨by omega, by omega, by omega⟩ eu3 dL_law_615 ?_
  refine lv_aload_n hx hb dL_law_616 rfl (lv_at hl 3 rfl) ?_
  refine g_run (vx_runSX (As := [.ref bx, .int (z2 (u)), .int (z2 (v2)), .int (z2 (u3)), .ref (bx + 75)]) (rest := []) ⟨hx, hb, hml, hown, hts⟩ (w_setQuiet l D ks bx ml X _ hP hI.2.1 hst ho (u) (v2) (u3) hu hv2 hu3) (vx_cwSW 5 hts gL_law_L_setQuiet rfl rfl rfl (by decide +kernel) ⟨Nat.le_of_ble_eq_true rfl, Nat.le_of_ble_eq_true rfl⟩) (g_preS hG hS (fun _ h => h)) rfl rfl hl.1 rfl (lv_room (Nat.le_of_ble_eq_true rfl)) dL_law_617 ⟨by show cells + 2 ≤ room_1.cells; omega, by show slots + 12 ≤ room_1.slots; omega⟩) hS (fun q h => rw_ge q h) (fun _ _ _ _ _ h => h.elim) (fun v H locs hp hz9 hk9 hS => ?_)
  obtain ⟨z, r, Y, hco, rfl, ⟨ml1, hP⟩, f1, ho, hf⟩ := hp
  have hM := hM.keep (fun q h1 h2 h3 => hk9 q h1 (fun h => h.elim (fun r => absurd r.2 (by omega)) (fun r => by omega)))
  have hz := z_setQuiet hco
  refine W.eq (g2 := F0 m 620 ls [.int (z2 (z))]) rfl ?_
  refine lv_istore (lv' := [(5, .int (z2 (z))), (0, .ref b), (1, .ref bx), (2, .ref (bx + 55)), (3, .ref (bx + 75)), (4, .int (z2 (5 * ((k : Nat) : Int))))]) hx hb dL_law_620 hl (by decide) rfl (fun ls hl => ?_)
  refine lv_aload_n hx hb dL_law_622 rfl (lv_at hl 3 rfl) ?_
  refine lv_aload_n hx hb dL_law_623 rfl (lv_at hl 1 rfl) ?_
  refine lv_iload hx hb dL_law_624 (lv_at hl 5 rfl) ?_
  refine b_iconst hx hb dL_law_626 ?_
  refine b_iadd hx hb dL_law_627 ?_
  refine g_scr hx hb hX hbl hbA hS (5 * k + 1) ⟨by omega, by omega, by omega⟩ eu dL_law_628 ?_
  refine lv_aload_n hx hb dL_law_629 rfl (lv_at hl 1 rfl) ?_
  refine lv_iload hx hb dL_law_630 (lv_at hl 5 rfl) ?_
  refine b_iconst hx hb dL_law_632 ?_
  refine b_iadd hx hb dL_law_633 ?_
  refine g_scr hx hb hX hbl hbA hS (5 * k + 2) ⟨by omega, by omega, by omega⟩ ev2 dL_law_634 ?_
  refine lv_aload_n hx hb dL_law_635 rfl (lv_at hl 1 rfl) ?_
  refine lv_iload hx hb dL_law_636 (lv_at hl 5 rfl) ?_
  refine b_iconst hx hb dL_law_638 ?_
  refine b_iadd hx hb dL_law_639 ?_
  refine g_scr hx hb hX hbl hbA hS (5 * k + 3) ⟨by omega, by omega, by omega⟩ eu3 dL_law_640 ?_
  refine g_run (vx_runV (As := [.int (z2 (u)), .int (z2 (v2)), .int (z2 (u3))]) (rest := []) ⟨hx, hb, hml, hown, hts⟩ (m_setQuiet l D ks bx (bx + 55) (by omega) S _ hM hI.2.2.2 (u) (v2) (u3) hu hv2 hu3) (cwV 3 hts gL_law_X5_setQuiet rfl rfl rfl (by decide +kernel) ⟨Nat.le_of_ble_eq_true rfl, Nat.le_of_ble_eq_true rfl⟩) (g_preV (r := (RX5, TX5, 23)) hG hS (fun _ h => h) hM.1 rfl) rfl rfl hl.1 rfl (lv_room (Nat.le_of_ble_eq_true rfl)) dL_law_641 ⟨by show cells + 2 + 0 ≤ room_1.cells; omega, by show slots + 12 + 0 ≤ room_1.slots; omega⟩) hS (fun q h => rm_ge (bx := bx) (by omega) q h) (fun _ _ _ _ _ h => h.elim) (fun v H locs hp hz9 hk9 hS => ?_)
  obtain ⟨q, T, hro, rfl, hM⟩ := hp
  have hP := hP.keep (fun q h1 h2 => hk9 q h1 (fun h => by have h3 := h.1; have h4 := h.2; omega))
  have ho := ho.kept (hk9 _ ho.lt (fun h => absurd h.2 (by omega)))
  obtain ⟨c1, c2, hJ⟩ := cs_setQuiet hI hco hro
  refine W.eq (g2 := F0 m 644 ls [.int (z2 (q))]) rfl ?_
  refine lv_istore (lv' := [(6, .int (z2 (q))), (5, .int (z2 (z))), (0, .ref b), (1, .ref bx), (2, .ref (bx + 55)), (3, .ref (bx + 75)), (4, .int (z2 (5 * ((k : Nat) : Int))))]) hx hb dL_law_644 hl (by decide) rfl (fun ls hl => ?_)
  refine lv_aload_n hx hb dL_law_646 rfl (lv_at hl 4 rfl) ?_
  refine g_run (vx_runV (As := []) (rest := []) ⟨hx, hb, hml, hown, hts⟩ (m_thrown l D ks bx (bx + 55) (by omega) T _ hM hJ.2.2.2) (cwV 0 hts gL_law_X5_thrown rfl rfl rfl (by decide +kernel) ⟨Nat.le_of_ble_eq_true rfl, Nat.le_of_ble_eq_true rfl⟩) (g_preV (r := (RX5, TX5, 23)) hG hS (fun _ h => h) hM.1 rfl) rfl rfl hl.1 rfl (lv_room (Nat.le_of_ble_eq_true rfl)) dL_law_647 ⟨by show cells + 2 + 0 + 0 ≤ room_1.cells; omega, by show slots + 12 + 0 + 0 ≤ room_1.slots; omega⟩) hS (fun q h => rm_ge (bx := bx) (by omega) q h) (fun _ _ _ _ _ h => h.elim) (fun v H locs hp hz9 hk9 hS => ?_)
  obtain ⟨rfl, hH9⟩ := hp
  obtain rfl := hH9.symm
  rw [c1]
  refine W.eq (g2 := F0 m 650 ls [.int (z2 (z))]) rfl ?_
  refine lv_iload hx hb dL_law_650 (lv_at hl 1 rfl) ?_
  refine lv_icmp_eq (tgt := 657) hx hb dL_law_652 (by decide) (fun _ => ?_) (fun c => absurd rfl c)
  refine lv_iload hx hb dL_law_657 (lv_at hl 1 rfl) ?_
  refine b_if_ne (tgt := 681) hx hb dL_law_659 (by decide) ⟨by omega, by omega⟩ (fun c_z => ?_) (fun c_z => ?_)
  · skip
    refine lv_goto (tgt := 1505) hx hb dL_law_681 (by decide) ?_
    refine W.widen (k := cells + 4) (n := slots + 24) (by show cells + 2 + 0 + 0 ≤ cells + 4; omega) (by show slots + 12 + 0 + 0 ≤ slots + 24; omega) ?_
    exact kk _ _ _ _ _ _ _ hJ hP hM ho hS (lv_sub hl [2, 3, 4, 5, 6] rfl)
  · skip
    have hrq := c2 c_z
    have hf0 := hf c_z
    have r01 := r_setQuiet hI.2.1 hco c_z
    refine lv_aload_n hx hb dL_law_662 rfl (lv_at hl 5 rfl) ?_
    refine b_iconst hx hb dL_law_663 ?_
    refine g_lald (n := 1) hx hb hG ho 0 ⟨rfl, by decide, by decide⟩ dL_law_664 ?_
    refine lv_iload hx hb dL_law_665 (lv_at hl 0 rfl) ?_
    refine b_if_eq (tgt := 674) hx hb dL_law_667 (by decide) ⟨by omega, by omega⟩ (fun c_b => ?_) (fun c_b => ?_)
    · skip
      refine lv_lconst (v := l2 0) hx hb dL_law_674 (by decide +kernel) ?_
      refine W.lcmp hx hb dL_law_675 ?_
      refine b_top (v := 0) (lg_self (hf0.trans (congrArg l2 (show r = 0 by omega)))) ?_
      refine b_if_eq (tgt := 681) hx hb dL_law_676 (by decide) ⟨by omega, by omega⟩ (fun _ => ?_) (fun c => absurd rfl c)
      refine lv_goto (tgt := 1505) hx hb dL_law_681 (by decide) ?_
      refine W.widen (k := cells + 4) (n := slots + 24) (by show cells + 2 + 0 + 0 ≤ cells + 4; omega) (by show slots + 12 + 0 + 0 ≤ slots + 24; omega) ?_
      exact kk _ _ _ _ _ _ _ hJ hP hM ho hS (lv_sub hl [2, 3, 4, 5, 6] rfl)
    · skip
      refine lv_lconst (v := l2 1) hx hb dL_law_670 (by decide +kernel) ?_
      refine lv_goto (tgt := 675) hx hb dL_law_671 (by decide) ?_
      refine W.lcmp hx hb dL_law_675 ?_
      refine b_top (v := 0) (lg_self (hf0.trans (congrArg l2 (show r = 1 by omega)))) ?_
      refine b_if_eq (tgt := 681) hx hb dL_law_676 (by decide) ⟨by omega, by omega⟩ (fun _ => ?_) (fun c => absurd rfl c)
      refine lv_goto (tgt := 1505) hx hb dL_law_681 (by decide) ?_
      refine W.widen (k := cells + 4) (n := slots + 24) (by show cells + 2 + 0 + 0 ≤ cells + 4; omega) (by show slots + 12 + 0 + 0 ≤ slots + 24; omega) ?_
      exact kk _ _ _ _ _ _ _ hJ hP hM ho hS (lv_sub hl [2, 3, 4, 5, 6] rfl)
set_option maxHeartbeats 4000000 in
set_option maxRecDepth 100000 in
theorem c_lay {p : Program} {e : Env} {s : State} {m : MethodId} {below : List Frame} {meth : Method} {c : Code} (l : Launch) (hst : l.stackTraces = false) {D : va_G} {ks : Nat → ClassId} {b bx nL k : Nat} {xs : Nat → Int32} {Q : State → Prop} (hx : p.tables.exec = Jvm.exec) (hb : c.code = cL_law) (hml : c.maxLocals = 8) (hown : s.vm.findClass RL = some m.cls) (hts : ∀ w ∈ wsL_law, w.before #[Value.ref b] s = true) (hX : va_X b nL xs s s.heap) (hbl : b < s.heap.size) (hG : GE D ks bx s) (hbA : ¬ AR (RC bx) s.heap.size b) (hL : nL ≤ 2560) (hk : 5 * k + 5 ≤ nL) {H : Heap} {locs : List Loc} {ls : Array Slot} {cells slots : Nat} (hcs : cells + 10 ≤ room_1.cells ∧ slots + 60 ≤ room_1.slots)
    {ml : Nat → Nat} {X S : Nat → Nat → Int} {fo : Nat → Int64} (hI : IV X S) (hP : PX D ks bx ml X H) (hM : PM D ks (bx + 55) S H) (ho : ca D (bx + 75) (jA (ks 1) 1 fo) H) (hS : va_S (AR (RC bx) s.heap.size) s.heap H locs) (hl : lv_has ls 8 [(0, .ref b), (1, .ref bx), (2, .ref (bx + 55)), (3, .ref (bx + 75)), (4, .int (z2 (5 * ((k : Nat) : Int))))])
    (kk : ∀ (ml1 : Nat → Nat) (X1 S1 : Nat → Nat → Int) (f1 : Nat → Int64) (H1 : Heap) (locs1 : List Loc) (ls1 : Array Slot), IV X1 S1 → PX D ks bx ml1 X1 H1 → PM D ks (bx + 55) S1 H1 → ca D (bx + 75) (jA (ks 1) 1 f1) H1 → va_S (AR (RC bx) s.heap.size) s.heap H1 locs1 → lv_has ls1 8 [(0, .ref b), (1, .ref bx), (2, .ref (bx + 55)), (3, .ref (bx + 75)), (4, .int (z2 (5 * ((k : Nat) : Int))))] → W p l e room_1 s m #[Value.ref b] below meth c H1 locs1 (cells + 4) (slots + 24) Q (F0 m 1505 ls1 [])) :
    W p l e room_1 s m #[Value.ref b] below meth c H locs cells slots Q (F0 m 684 ls []) := by
  obtain ⟨u, hu, eu⟩ := z2_ex (xs (5 * k + 1))
  obtain ⟨v2, hv2, ev2⟩ := z2_ex (xs (5 * k + 2))
  obtain ⟨u3, hu3, eu3⟩ := z2_ex (xs (5 * k + 3))
  obtain ⟨u4, hu4, eu4⟩ := z2_ex (xs (5 * k + 4))
  have b4 := hI.2.1
  refine lv_aload_n hx hb dL_law_684 rfl (lv_at hl 1 rfl) ?_
  refine lv_aload_n hx hb dL_law_685 rfl (lv_at hl 0 rfl) ?_
  refine lv_iload hx hb dL_law_686 (lv_at hl 4 rfl) ?_
  refine b_iconst hx hb dL_law_688 ?_
  refine b_iadd hx hb dL_law_689 ?_
  refine g_scr hx hb hX hbl hbA hS (5 * k + 1) ⟨by omega, by omega, by omega⟩ eu dL_law_690 ?_
  refine lv_aload_n hx hb dL_law_691 rfl (lv_at hl 0 rfl) ?_
  refine lv_iload hx hb dL_law_692 (lv_at hl 4 rfl) ?_
  refine b_iconst hx hb dL_law_694 ?_
  refine b_iadd hx hb dL_law_695 ?_
  refine g_scr hx hb hX hbl hbA hS (5 * k + 2) ⟨by omega, by omega, by omega⟩ ev2 dL_law_696 ?_
  refine lv_aload_n hx hb dL_law_697 rfl (lv_at hl 0 rfl) ?_
  refine lv_iload hx hb dL_law_698 (lv_at hl 4 rfl) ?_
  refine b_iconst hx hb dL_law_700 ?_
  refine b_iadd hx hb dL_law_701 ?_
  refine g_scr hx hb hX hbl hbA hS (5 * k + 3) ⟨by omega, by omega, by omega⟩ eu3 dL_law_702 ?_
  refine lv_aload_n hx hb dL_law_703 rfl (lv_at hl 0 rfl) ?_
  refine lv_iload hx hb dL_law_704 (lv_at hl 4 rfl) ?_
  refine b_iconst hx hb dL_law_706 ?_
  refine b_iadd hx hb dL_law_707 ?_
  refine g_scr hx hb hX hbl hbA hS (5 * k + 4) ⟨by omega, by omega, by omega⟩ eu4 dL_law_708 ?_
  refine lv_aload_n hx hb dL_law_709 rfl (lv_at hl 3 rfl) ?_
  refine g_run (vx_runSX (As := [.ref bx, .int (z2 (u)), .int (z2 (v2)), .int (z2 (u3)), .int (z2 (u4)), .ref (bx + 75)]) (rest := []) ⟨hx, hb, hml, hown, hts⟩ (w_lay l D ks bx ml X _ hP hI.2.1 hst ho (u) (v2) (u3) (u4) hu hv2 hu3 hu4) (vx_cwSW 6 hts gL_law_L_lay rfl rfl rfl (by decide +kernel) ⟨Nat.le_of_ble_eq_true rfl, Nat.le_of_ble_eq_true rfl⟩) (g_preS hG hS (fun _ h => h)) rfl rfl hl.1 rfl (lv_room (Nat.le_of_ble_eq_true rfl)) dL_law_710 ⟨by show cells + 4 ≤ room_1.cells; omega, by show slots + 24 ≤ room_1.slots; omega⟩) hS (fun q h => rw_ge q h) (fun _ _ _ _ _ h => h.elim) (fun v H locs hp hz9 hk9 hS => ?_)
  obtain ⟨z, r, Y, hco, rfl, ⟨ml1, hP⟩, f1, ho, hf⟩ := hp
  have hM := hM.keep (fun q h1 h2 h3 => hk9 q h1 (fun h => h.elim (fun r => absurd r.2 (by omega)) (fun r => by omega)))
  have hz := z_lay hco
  refine W.eq (g2 := F0 m 713 ls [.int (z2 (z))]) rfl ?_
  refine lv_istore (lv' := [(5, .int (z2 (z))), (0, .ref b), (1, .ref bx), (2, .ref (bx + 55)), (3, .ref (bx + 75)), (4, .int (z2 (5 * ((k : Nat) : Int))))]) hx hb dL_law_713 hl (by decide) rfl (fun ls hl => ?_)
  refine lv_aload_n hx hb dL_law_715 rfl (lv_at hl 3 rfl) ?_
  refine lv_aload_n hx hb dL_law_716 rfl (lv_at hl 1 rfl) ?_
  refine lv_iload hx hb dL_law_717 (lv_at hl 5 rfl) ?_
  refine b_iconst hx hb dL_law_719 ?_
  refine b_iadd hx hb dL_law_720 ?_
  refine g_scr hx hb hX hbl hbA hS (5 * k + 1) ⟨by omega, by omega, by omega⟩ eu dL_law_721 ?_
  refine lv_aload_n hx hb dL_law_722 rfl (lv_at hl 1 rfl) ?_
  refine lv_iload hx hb dL_law_723 (lv_at hl 5 rfl) ?_
  refine b_iconst hx hb dL_law_725 ?_
  refine b_iadd hx hb dL_law_726 ?_
  refine g_scr hx hb hX hbl hbA hS (5 * k + 2) ⟨by omega, by omega, by omega⟩ ev2 dL_law_727 ?_
  refine lv_aload_n hx hb dL_law_728 rfl (lv_at hl 1 rfl) ?_
  refine lv_iload hx hb dL_law_729 (lv_at hl 5 rfl) ?_
  refine b_iconst hx hb dL_law_731 ?_
  refine b_iadd hx hb dL_law_732 ?_
  refine g_scr hx hb hX hbl hbA hS (5 * k + 3) ⟨by omega, by omega, by omega⟩ eu3 dL_law_733 ?_
  refine lv_aload_n hx hb dL_law_734 rfl (lv_at hl 1 rfl) ?_
  refine lv_iload hx hb dL_law_735 (lv_at hl 5 rfl) ?_
  refine b_iconst hx hb dL_law_737 ?_
  refine b_iadd hx hb dL_law_738 ?_
  refine g_scr hx hb hX hbl hbA hS (5 * k + 4) ⟨by omega, by omega, by omega⟩ eu4 dL_law_739 ?_
  refine g_run (vx_runV (As := [.int (z2 (u)), .int (z2 (v2)), .int (z2 (u3)), .int (z2 (u4))]) (rest := []) ⟨hx, hb, hml, hown, hts⟩ (m_lay l D ks bx (bx + 55) (by omega) S _ hM hI.2.2.2 (u) (v2) (u3) (u4) hu hv2 hu3 hu4) (cwV 4 hts gL_law_X5_lay rfl rfl rfl (by decide +kernel) ⟨Nat.le_of_ble_eq_true rfl, Nat.le_of_ble_eq_true rfl⟩) (g_preV (r := (RX5, TX5, 23)) hG hS (fun _ h => h) hM.1 rfl) rfl rfl hl.1 rfl (lv_room (Nat.le_of_ble_eq_true rfl)) dL_law_740 ⟨by show cells + 4 + 0 ≤ room_1.cells; omega, by show slots + 24 + 0 ≤ room_1.slots; omega⟩) hS (fun q h => rm_ge (bx := bx) (by omega) q h) (fun _ _ _ _ _ h => h.elim) (fun v H locs hp hz9 hk9 hS => ?_)
  obtain ⟨q, T, hro, rfl, hM⟩ := hp
  have hP := hP.keep (fun q h1 h2 => hk9 q h1 (fun h => by have h3 := h.1; have h4 := h.2; omega))
  have ho := ho.kept (hk9 _ ho.lt (fun h => absurd h.2 (by omega)))
  obtain ⟨c1, c2, hJ⟩ := cs_lay hI hco hro
  refine W.eq (g2 := F0 m 743 ls [.int (z2 (q))]) rfl ?_
  refine lv_istore (lv' := [(6, .int (z2 (q))), (5, .int (z2 (z))), (0, .ref b), (1, .ref bx), (2, .ref (bx + 55)), (3, .ref (bx + 75)), (4, .int (z2 (5 * ((k : Nat) : Int))))]) hx hb dL_law_743 hl (by decide) rfl (fun ls hl => ?_)
  refine lv_aload_n hx hb dL_law_745 rfl (lv_at hl 4 rfl) ?_
  refine g_run (vx_runV (As := []) (rest := []) ⟨hx, hb, hml, hown, hts⟩ (m_thrown l D ks bx (bx + 55) (by omega) T _ hM hJ.2.2.2) (cwV 0 hts gL_law_X5_thrown rfl rfl rfl (by decide +kernel) ⟨Nat.le_of_ble_eq_true rfl, Nat.le_of_ble_eq_true rfl⟩) (g_preV (r := (RX5, TX5, 23)) hG hS (fun _ h => h) hM.1 rfl) rfl rfl hl.1 rfl (lv_room (Nat.le_of_ble_eq_true rfl)) dL_law_746 ⟨by show cells + 4 + 0 + 0 ≤ room_1.cells; omega, by show slots + 24 + 0 + 0 ≤ room_1.slots; omega⟩) hS (fun q h => rm_ge (bx := bx) (by omega) q h) (fun _ _ _ _ _ h => h.elim) (fun v H locs hp hz9 hk9 hS => ?_)
  obtain ⟨rfl, hH9⟩ := hp
  obtain rfl := hH9.symm
  rw [c1]
  refine W.eq (g2 := F0 m 749 ls [.int (z2 (z))]) rfl ?_
  refine lv_iload hx hb dL_law_749 (lv_at hl 1 rfl) ?_
  refine lv_icmp_eq (tgt := 756) hx hb dL_law_751 (by decide) (fun _ => ?_) (fun c => absurd rfl c)
  refine lv_iload hx hb dL_law_756 (lv_at hl 1 rfl) ?_
  refine b_if_ne (tgt := 773) hx hb dL_law_758 (by decide) ⟨by omega, by omega⟩ (fun c_z => ?_) (fun c_z => ?_)
  · skip
    refine lv_goto (tgt := 1505) hx hb dL_law_773 (by decide) ?_
    refine W.widen (k := cells + 4) (n := slots + 24) (by show cells + 4 + 0 + 0 ≤ cells + 4; omega) (by show slots + 24 + 0 + 0 ≤ slots + 24; omega) ?_
    exact kk _ _ _ _ _ _ _ hJ hP hM ho hS (lv_sub hl [2, 3, 4, 5, 6] rfl)
  · skip
    have hrq := c2 c_z
    have hf0 := hf c_z
    refine lv_aload_n hx hb dL_law_761 rfl (lv_at hl 5 rfl) ?_
    refine b_iconst hx hb dL_law_762 ?_
    refine g_lald (n := 1) hx hb hG ho 0 ⟨rfl, by decide, by decide⟩ dL_law_763 ?_
    refine lv_iload hx hb dL_law_764 (lv_at hl 0 rfl) ?_
    refine lv_i2l (v := (z2 (q)).toInt64) hx hb dL_law_766 rfl ?_
    refine W.lcmp hx hb dL_law_767 ?_
    refine b_top (v := 0) (lg_self (hf0.trans (congrArg (fun z => (z2 z).toInt64) hrq))) ?_
    refine b_if_eq (tgt := 773) hx hb dL_law_768 (by decide) ⟨by omega, by omega⟩ (fun _ => ?_) (fun c => absurd rfl c)
    refine lv_goto (tgt := 1505) hx hb dL_law_773 (by decide) ?_
    refine W.widen (k := cells + 4) (n := slots + 24) (by show cells + 4 + 0 + 0 ≤ cells + 4; omega) (by show slots + 24 + 0 + 0 ≤ slots + 24; omega) ?_
    exact kk _ _ _ _ _ _ _ hJ hP hM ho hS (lv_sub hl [2, 3, 4, 5, 6] rfl)
set_option maxHeartbeats 4000000 in
set_option maxRecDepth 100000 in
theorem c_press {p : Program} {e : Env} {s : State} {m : MethodId} {below : List Frame} {meth : Method} {c : Code} (l : Launch) (hst : l.stackTraces = false) {D : va_G} {ks : Nat → ClassId} {b bx nL k : Nat} {xs : Nat → Int32} {Q : State → Prop} (hx : p.tables.exec = Jvm.exec) (hb : c.code = cL_law) (hml : c.maxLocals = 8) (hown : s.vm.findClass RL = some m.cls) (hts : ∀ w ∈ wsL_law, w.before #[Value.ref b] s = true) (hX : va_X b nL xs s s.heap) (hbl : b < s.heap.size) (hG : GE D ks bx s) (hbA : ¬ AR (RC bx) s.heap.size b) (hL : nL ≤ 2560) (hk : 5 * k + 5 ≤ nL) {H : Heap} {locs : List Loc} {ls : Array Slot} {cells slots : Nat} (hcs : cells + 10 ≤ room_1.cells ∧ slots + 60 ≤ room_1.slots)
    {ml : Nat → Nat} {X S : Nat → Nat → Int} {fo : Nat → Int64} (hI : IV X S) (hP : PX D ks bx ml X H) (hM : PM D ks (bx + 55) S H) (ho : ca D (bx + 75) (jA (ks 1) 1 fo) H) (hS : va_S (AR (RC bx) s.heap.size) s.heap H locs) (hl : lv_has ls 8 [(0, .ref b), (1, .ref bx), (2, .ref (bx + 55)), (3, .ref (bx + 75)), (4, .int (z2 (5 * ((k : Nat) : Int))))])
    (kk : ∀ (ml1 : Nat → Nat) (X1 S1 : Nat → Nat → Int) (f1 : Nat → Int64) (H1 : Heap) (locs1 : List Loc) (ls1 : Array Slot), IV X1 S1 → PX D ks bx ml1 X1 H1 → PM D ks (bx + 55) S1 H1 → ca D (bx + 75) (jA (ks 1) 1 f1) H1 → va_S (AR (RC bx) s.heap.size) s.heap H1 locs1 → lv_has ls1 8 [(0, .ref b), (1, .ref bx), (2, .ref (bx + 55)), (3, .ref (bx + 75)), (4, .int (z2 (5 * ((k : Nat) : Int))))] → W p l e room_1 s m #[Value.ref b] below meth c H1 locs1 (cells + 4) (slots + 24) Q (F0 m 1505 ls1 [])) :
    W p l e room_1 s m #[Value.ref b] below meth c H locs cells slots Q (F0 m 776 ls []) := by
  obtain ⟨u, hu, eu⟩ := z2_ex (xs (5 * k + 1))
  obtain ⟨v2, hv2, ev2⟩ := z2_ex (xs (5 * k + 2))
  have b4 := hI.2.1
  refine lv_aload_n hx hb dL_law_776 rfl (lv_at hl 1 rfl) ?_
  refine lv_aload_n hx hb dL_law_777 rfl (lv_at hl 0 rfl) ?_
  refine lv_iload hx hb dL_law_778 (lv_at hl 4 rfl) ?_
  refine b_iconst hx hb dL_law_780 ?_
  refine b_iadd hx hb dL_law_781 ?_
  refine g_scr hx hb hX hbl hbA hS (5 * k + 1) ⟨by omega, by omega, by omega⟩ eu dL_law_782 ?_
  refine lv_aload_n hx hb dL_law_783 rfl (lv_at hl 0 rfl) ?_
  refine lv_iload hx hb dL_law_784 (lv_at hl 4 rfl) ?_
  refine b_iconst hx hb dL_law_786 ?_
  refine b_iadd hx hb dL_law_787 ?_
  refine g_scr hx hb hX hbl hbA hS (5 * k + 2) ⟨by omega, by omega, by omega⟩ ev2 dL_law_788 ?_
  refine lv_aload_n hx hb dL_law_789 rfl (lv_at hl 3 rfl) ?_
  refine g_run (vx_runSX (As := [.ref bx, .int (z2 (u)), .int (z2 (v2)), .ref (bx + 75)]) (rest := []) ⟨hx, hb, hml, hown, hts⟩ (w_press l D ks bx ml X _ hP hI.2.1 hst ho (u) (v2) hu hv2) (vx_cwSW 4 hts gL_law_L_press rfl rfl rfl (by decide +kernel) ⟨Nat.le_of_ble_eq_true rfl, Nat.le_of_ble_eq_true rfl⟩) (g_preS hG hS (fun _ h => h)) rfl rfl hl.1 rfl (lv_room (Nat.le_of_ble_eq_true rfl)) dL_law_790 ⟨by show cells + 4 ≤ room_1.cells; omega, by show slots + 24 ≤ room_1.slots; omega⟩) hS (fun q h => rw_ge q h) (fun _ _ _ _ _ h => h.elim) (fun v H locs hp hz9 hk9 hS => ?_)
  obtain ⟨z, r, Y, hco, rfl, ⟨ml1, hP⟩, f1, ho, hf⟩ := hp
  have hM := hM.keep (fun q h1 h2 h3 => hk9 q h1 (fun h => h.elim (fun r => absurd r.2 (by omega)) (fun r => by omega)))
  have hz := z_press hco
  refine W.eq (g2 := F0 m 793 ls [.int (z2 (z))]) rfl ?_
  refine lv_istore (lv' := [(5, .int (z2 (z))), (0, .ref b), (1, .ref bx), (2, .ref (bx + 55)), (3, .ref (bx + 75)), (4, .int (z2 (5 * ((k : Nat) : Int))))]) hx hb dL_law_793 hl (by decide) rfl (fun ls hl => ?_)
  refine lv_aload_n hx hb dL_law_795 rfl (lv_at hl 3 rfl) ?_
  refine lv_aload_n hx hb dL_law_796 rfl (lv_at hl 1 rfl) ?_
  refine lv_iload hx hb dL_law_797 (lv_at hl 5 rfl) ?_
  refine b_iconst hx hb dL_law_799 ?_
  refine b_iadd hx hb dL_law_800 ?_
  refine g_scr hx hb hX hbl hbA hS (5 * k + 1) ⟨by omega, by omega, by omega⟩ eu dL_law_801 ?_
  refine lv_aload_n hx hb dL_law_802 rfl (lv_at hl 1 rfl) ?_
  refine lv_iload hx hb dL_law_803 (lv_at hl 5 rfl) ?_
  refine b_iconst hx hb dL_law_805 ?_
  refine b_iadd hx hb dL_law_806 ?_
  refine g_scr hx hb hX hbl hbA hS (5 * k + 2) ⟨by omega, by omega, by omega⟩ ev2 dL_law_807 ?_
  refine g_run (vx_runV (As := [.int (z2 (u)), .int (z2 (v2))]) (rest := []) ⟨hx, hb, hml, hown, hts⟩ (m_press l D ks bx (bx + 55) (by omega) S _ hM hI.2.2.2 (u) (v2) hu hv2) (cwV 2 hts gL_law_X5_press rfl rfl rfl (by decide +kernel) ⟨Nat.le_of_ble_eq_true rfl, Nat.le_of_ble_eq_true rfl⟩) (g_preV (r := (RX5, TX5, 23)) hG hS (fun _ h => h) hM.1 rfl) rfl rfl hl.1 rfl (lv_room (Nat.le_of_ble_eq_true rfl)) dL_law_808 ⟨by show cells + 4 + 0 ≤ room_1.cells; omega, by show slots + 24 + 0 ≤ room_1.slots; omega⟩) hS (fun q h => rm_ge (bx := bx) (by omega) q h) (fun _ _ _ _ _ h => h.elim) (fun v H locs hp hz9 hk9 hS => ?_)
  obtain ⟨q, T, hro, rfl, hM⟩ := hp
  have hP := hP.keep (fun q h1 h2 => hk9 q h1 (fun h => by have h3 := h.1; have h4 := h.2; omega))
  have ho := ho.kept (hk9 _ ho.lt (fun h => absurd h.2 (by omega)))
  obtain ⟨c1, c2, hJ⟩ := cs_press hI hco hro
  refine W.eq (g2 := F0 m 811 ls [.int (z2 (q))]) rfl ?_
  refine lv_istore (lv' := [(6, .int (z2 (q))), (5, .int (z2 (z))), (0, .ref b), (1, .ref bx), (2, .ref (bx + 55)), (3, .ref (bx + 75)), (4, .int (z2 (5 * ((k : Nat) : Int))))]) hx hb dL_law_811 hl (by decide) rfl (fun ls hl => ?_)
  refine lv_aload_n hx hb dL_law_813 rfl (lv_at hl 4 rfl) ?_
  refine g_run (vx_runV (As := []) (rest := []) ⟨hx, hb, hml, hown, hts⟩ (m_thrown l D ks bx (bx + 55) (by omega) T _ hM hJ.2.2.2) (cwV 0 hts gL_law_X5_thrown rfl rfl rfl (by decide +kernel) ⟨Nat.le_of_ble_eq_true rfl, Nat.le_of_ble_eq_true rfl⟩) (g_preV (r := (RX5, TX5, 23)) hG hS (fun _ h => h) hM.1 rfl) rfl rfl hl.1 rfl (lv_room (Nat.le_of_ble_eq_true rfl)) dL_law_814 ⟨by show cells + 4 + 0 + 0 ≤ room_1.cells; omega, by show slots + 24 + 0 + 0 ≤ room_1.slots; omega⟩) hS (fun q h => rm_ge (bx := bx) (by omega) q h) (fun _ _ _ _ _ h => h.elim) (fun v H locs hp hz9 hk9 hS => ?_)
  obtain ⟨rfl, hH9⟩ := hp
  obtain rfl := hH9.symm
  rw [c1]
  refine W.eq (g2 := F0 m 817 ls [.int (z2 (z))]) rfl ?_
  refine lv_iload hx hb dL_law_817 (lv_at hl 1 rfl) ?_
  refine lv_icmp_eq (tgt := 824) hx hb dL_law_819 (by decide) (fun _ => ?_) (fun c => absurd rfl c)
  refine lv_iload hx hb dL_law_824 (lv_at hl 1 rfl) ?_
  refine b_if_ne (tgt := 841) hx hb dL_law_826 (by decide) ⟨by omega, by omega⟩ (fun c_z => ?_) (fun c_z => ?_)
  · skip
    refine lv_goto (tgt := 1505) hx hb dL_law_841 (by decide) ?_
    refine W.widen (k := cells + 4) (n := slots + 24) (by show cells + 4 + 0 + 0 ≤ cells + 4; omega) (by show slots + 24 + 0 + 0 ≤ slots + 24; omega) ?_
    exact kk _ _ _ _ _ _ _ hJ hP hM ho hS (lv_sub hl [2, 3, 4, 5, 6] rfl)
  · skip
    have hrq := c2 c_z
    have hf0 := hf c_z
    refine lv_aload_n hx hb dL_law_829 rfl (lv_at hl 5 rfl) ?_
    refine b_iconst hx hb dL_law_830 ?_
    refine g_lald (n := 1) hx hb hG ho 0 ⟨rfl, by decide, by decide⟩ dL_law_831 ?_
    refine lv_iload hx hb dL_law_832 (lv_at hl 0 rfl) ?_
    refine lv_i2l (v := (z2 (q)).toInt64) hx hb dL_law_834 rfl ?_
    refine W.lcmp hx hb dL_law_835 ?_
    refine b_top (v := 0) (lg_self (hf0.trans (congrArg (fun z => (z2 z).toInt64) hrq))) ?_
    refine b_if_eq (tgt := 841) hx hb dL_law_836 (by decide) ⟨by omega, by omega⟩ (fun _ => ?_) (fun c => absurd rfl c)
    refine lv_goto (tgt := 1505) hx hb dL_law_841 (by decide) ?_
    refine W.widen (k := cells + 4) (n := slots + 24) (by show cells + 4 + 0 + 0 ≤ cells + 4; omega) (by show slots + 24 + 0 + 0 ≤ slots + 24; omega) ?_
    exact kk _ _ _ _ _ _ _ hJ hP hM ho hS (lv_sub hl [2, 3, 4, 5, 6] rfl)
set_option maxHeartbeats 4000000 in
set_option maxRecDepth 100000 in
theorem c_fault {p : Program} {e : Env} {s : State} {m : MethodId} {below : List Frame} {meth : Method} {c : Code} (l : Launch) (hst : l.stackTraces = false) {D : va_G} {ks : Nat → ClassId} {b bx nL k : Nat} {xs : Nat → Int32} {Q : State → Prop} (hx : p.tables.exec = Jvm.exec) (hb : c.code = cL_law) (hml : c.maxLocals = 8) (hown : s.vm.findClass RL = some m.cls) (hts : ∀ w ∈ wsL_law, w.before #[Value.ref b] s = true) (hX : va_X b nL xs s s.heap) (hbl : b < s.heap.size) (hG : GE D ks bx s) (hbA : ¬ AR (RC bx) s.heap.size b) (hL : nL ≤ 2560) (hk : 5 * k + 5 ≤ nL) {H : Heap} {locs : List Loc} {ls : Array Slot} {cells slots : Nat} (hcs : cells + 10 ≤ room_1.cells ∧ slots + 60 ≤ room_1.slots)
    {ml : Nat → Nat} {X S : Nat → Nat → Int} {fo : Nat → Int64} (hI : IV X S) (hP : PX D ks bx ml X H) (hM : PM D ks (bx + 55) S H) (ho : ca D (bx + 75) (jA (ks 1) 1 fo) H) (hS : va_S (AR (RC bx) s.heap.size) s.heap H locs) (hl : lv_has ls 8 [(0, .ref b), (1, .ref bx), (2, .ref (bx + 55)), (3, .ref (bx + 75)), (4, .int (z2 (5 * ((k : Nat) : Int))))])
    (kk : ∀ (ml1 : Nat → Nat) (X1 S1 : Nat → Nat → Int) (f1 : Nat → Int64) (H1 : Heap) (locs1 : List Loc) (ls1 : Array Slot), IV X1 S1 → PX D ks bx ml1 X1 H1 → PM D ks (bx + 55) S1 H1 → ca D (bx + 75) (jA (ks 1) 1 f1) H1 → va_S (AR (RC bx) s.heap.size) s.heap H1 locs1 → lv_has ls1 8 [(0, .ref b), (1, .ref bx), (2, .ref (bx + 55)), (3, .ref (bx + 75)), (4, .int (z2 (5 * ((k : Nat) : Int))))] → W p l e room_1 s m #[Value.ref b] below meth c H1 locs1 (cells + 4) (slots + 24) Q (F0 m 1505 ls1 [])) :
    W p l e room_1 s m #[Value.ref b] below meth c H locs cells slots Q (F0 m 844 ls []) := by
  obtain ⟨u, hu, eu⟩ := z2_ex (xs (5 * k + 1))
  have b4 := hI.2.1
  refine lv_aload_n hx hb dL_law_844 rfl (lv_at hl 1 rfl) ?_
  refine lv_aload_n hx hb dL_law_845 rfl (lv_at hl 0 rfl) ?_
  refine lv_iload hx hb dL_law_846 (lv_at hl 4 rfl) ?_
  refine b_iconst hx hb dL_law_848 ?_
  refine b_iadd hx hb dL_law_849 ?_
  refine g_scr hx hb hX hbl hbA hS (5 * k + 1) ⟨by omega, by omega, by omega⟩ eu dL_law_850 ?_
  refine lv_aload_n hx hb dL_law_851 rfl (lv_at hl 3 rfl) ?_
  refine g_run (vx_runSX (As := [.ref bx, .int (z2 (u)), .ref (bx + 75)]) (rest := []) ⟨hx, hb, hml, hown, hts⟩ (w_fault l D ks bx ml X _ hP hI.2.1 hst ho (u) hu) (vx_cwSW 3 hts gL_law_L_fault rfl rfl rfl (by decide +kernel) ⟨Nat.le_of_ble_eq_true rfl, Nat.le_of_ble_eq_true rfl⟩) (g_preS hG hS (fun _ h => h)) rfl rfl hl.1 rfl (lv_room (Nat.le_of_ble_eq_true rfl)) dL_law_852 ⟨by show cells + 3 ≤ room_1.cells; omega, by show slots + 18 ≤ room_1.slots; omega⟩) hS (fun q h => rw_ge q h) (fun _ _ _ _ _ h => h.elim) (fun v H locs hp hz9 hk9 hS => ?_)
  obtain ⟨z, r, Y, hco, rfl, ⟨ml1, hP⟩, f1, ho, hf⟩ := hp
  have hM := hM.keep (fun q h1 h2 h3 => hk9 q h1 (fun h => h.elim (fun r => absurd r.2 (by omega)) (fun r => by omega)))
  have hz := z_fault hco
  refine W.eq (g2 := F0 m 855 ls [.int (z2 (z))]) rfl ?_
  refine lv_istore (lv' := [(5, .int (z2 (z))), (0, .ref b), (1, .ref bx), (2, .ref (bx + 55)), (3, .ref (bx + 75)), (4, .int (z2 (5 * ((k : Nat) : Int))))]) hx hb dL_law_855 hl (by decide) rfl (fun ls hl => ?_)
  refine lv_aload_n hx hb dL_law_857 rfl (lv_at hl 3 rfl) ?_
  refine lv_aload_n hx hb dL_law_858 rfl (lv_at hl 1 rfl) ?_
  refine lv_iload hx hb dL_law_859 (lv_at hl 5 rfl) ?_
  refine b_iconst hx hb dL_law_861 ?_
  refine b_iadd hx hb dL_law_862 ?_
  refine g_scr hx hb hX hbl hbA hS (5 * k + 1) ⟨by omega, by omega, by omega⟩ eu dL_law_863 ?_
  refine g_run (vx_runV (As := [.int (z2 (u))]) (rest := []) ⟨hx, hb, hml, hown, hts⟩ (m_fault l D ks bx (bx + 55) (by omega) S _ hM hI.2.2.2 (u) hu) (cwV 1 hts gL_law_X5_fault rfl rfl rfl (by decide +kernel) ⟨Nat.le_of_ble_eq_true rfl, Nat.le_of_ble_eq_true rfl⟩) (g_preV (r := (RX5, TX5, 23)) hG hS (fun _ h => h) hM.1 rfl) rfl rfl hl.1 rfl (lv_room (Nat.le_of_ble_eq_true rfl)) dL_law_864 ⟨by show cells + 3 + 0 ≤ room_1.cells; omega, by show slots + 18 + 0 ≤ room_1.slots; omega⟩) hS (fun q h => rm_ge (bx := bx) (by omega) q h) (fun _ _ _ _ _ h => h.elim) (fun v H locs hp hz9 hk9 hS => ?_)
  obtain ⟨q, T, hro, rfl, hM⟩ := hp
  have hP := hP.keep (fun q h1 h2 => hk9 q h1 (fun h => by have h3 := h.1; have h4 := h.2; omega))
  have ho := ho.kept (hk9 _ ho.lt (fun h => absurd h.2 (by omega)))
  obtain ⟨c1, c2, hJ⟩ := cs_fault hI hco hro
  refine W.eq (g2 := F0 m 867 ls [.int (z2 (q))]) rfl ?_
  refine lv_istore (lv' := [(6, .int (z2 (q))), (5, .int (z2 (z))), (0, .ref b), (1, .ref bx), (2, .ref (bx + 55)), (3, .ref (bx + 75)), (4, .int (z2 (5 * ((k : Nat) : Int))))]) hx hb dL_law_867 hl (by decide) rfl (fun ls hl => ?_)
  refine lv_aload_n hx hb dL_law_869 rfl (lv_at hl 4 rfl) ?_
  refine g_run (vx_runV (As := []) (rest := []) ⟨hx, hb, hml, hown, hts⟩ (m_thrown l D ks bx (bx + 55) (by omega) T _ hM hJ.2.2.2) (cwV 0 hts gL_law_X5_thrown rfl rfl rfl (by decide +kernel) ⟨Nat.le_of_ble_eq_true rfl, Nat.le_of_ble_eq_true rfl⟩) (g_preV (r := (RX5, TX5, 23)) hG hS (fun _ h => h) hM.1 rfl) rfl rfl hl.1 rfl (lv_room (Nat.le_of_ble_eq_true rfl)) dL_law_870 ⟨by show cells + 3 + 0 + 0 ≤ room_1.cells; omega, by show slots + 18 + 0 + 0 ≤ room_1.slots; omega⟩) hS (fun q h => rm_ge (bx := bx) (by omega) q h) (fun _ _ _ _ _ h => h.elim) (fun v H locs hp hz9 hk9 hS => ?_)
  obtain ⟨rfl, hH9⟩ := hp
  obtain rfl := hH9.symm
  rw [c1]
  refine W.eq (g2 := F0 m 873 ls [.int (z2 (z))]) rfl ?_
  refine lv_iload hx hb dL_law_873 (lv_at hl 1 rfl) ?_
  refine lv_icmp_eq (tgt := 880) hx hb dL_law_875 (by decide) (fun _ => ?_) (fun c => absurd rfl c)
  refine lv_iload hx hb dL_law_880 (lv_at hl 1 rfl) ?_
  refine b_if_ne (tgt := 897) hx hb dL_law_882 (by decide) ⟨by omega, by omega⟩ (fun c_z => ?_) (fun c_z => ?_)
  · skip
    refine lv_goto (tgt := 1505) hx hb dL_law_897 (by decide) ?_
    refine W.widen (k := cells + 4) (n := slots + 24) (by show cells + 3 + 0 + 0 ≤ cells + 4; omega) (by show slots + 18 + 0 + 0 ≤ slots + 24; omega) ?_
    exact kk _ _ _ _ _ _ _ hJ hP hM ho hS (lv_sub hl [2, 3, 4, 5, 6] rfl)
  · skip
    have hrq := c2 c_z
    have hf0 := hf c_z
    refine lv_aload_n hx hb dL_law_885 rfl (lv_at hl 5 rfl) ?_
    refine b_iconst hx hb dL_law_886 ?_
    refine g_lald (n := 1) hx hb hG ho 0 ⟨rfl, by decide, by decide⟩ dL_law_887 ?_
    refine lv_iload hx hb dL_law_888 (lv_at hl 0 rfl) ?_
    refine lv_i2l (v := (z2 (q)).toInt64) hx hb dL_law_890 rfl ?_
    refine W.lcmp hx hb dL_law_891 ?_
    refine b_top (v := 0) (lg_self (hf0.trans (congrArg (fun z => (z2 z).toInt64) hrq))) ?_
    refine b_if_eq (tgt := 897) hx hb dL_law_892 (by decide) ⟨by omega, by omega⟩ (fun _ => ?_) (fun c => absurd rfl c)
    refine lv_goto (tgt := 1505) hx hb dL_law_897 (by decide) ?_
    refine W.widen (k := cells + 4) (n := slots + 24) (by show cells + 3 + 0 + 0 ≤ cells + 4; omega) (by show slots + 18 + 0 + 0 ≤ slots + 24; omega) ?_
    exact kk _ _ _ _ _ _ _ hJ hP hM ho hS (lv_sub hl [2, 3, 4, 5, 6] rfl)
set_option maxHeartbeats 4000000 in
set_option maxRecDepth 100000 in
theorem c_repair {p : Program} {e : Env} {s : State} {m : MethodId} {below : List Frame} {meth : Method} {c : Code} (l : Launch) (hst : l.stackTraces = false) {D : va_G} {ks : Nat → ClassId} {b bx nL k : Nat} {xs : Nat → Int32} {Q : State → Prop} (hx : p.tables.exec = Jvm.exec) (hb : c.code = cL_law) (hml : c.maxLocals = 8) (hown : s.vm.findClass RL = some m.cls) (hts : ∀ w ∈ wsL_law, w.before #[Value.ref b] s = true) (hX : va_X b nL xs s s.heap) (hbl : b < s.heap.size) (hG : GE D ks bx s) (hbA : ¬ AR (RC bx) s.heap.size b) (hL : nL ≤ 2560) (hk : 5 * k + 5 ≤ nL) {H : Heap} {locs : List Loc} {ls : Array Slot} {cells slots : Nat} (hcs : cells + 10 ≤ room_1.cells ∧ slots + 60 ≤ room_1.slots)
    {ml : Nat → Nat} {X S : Nat → Nat → Int} {fo : Nat → Int64} (hI : IV X S) (hP : PX D ks bx ml X H) (hM : PM D ks (bx + 55) S H) (ho : ca D (bx + 75) (jA (ks 1) 1 fo) H) (hS : va_S (AR (RC bx) s.heap.size) s.heap H locs) (hl : lv_has ls 8 [(0, .ref b), (1, .ref bx), (2, .ref (bx + 55)), (3, .ref (bx + 75)), (4, .int (z2 (5 * ((k : Nat) : Int))))])
    (kk : ∀ (ml1 : Nat → Nat) (X1 S1 : Nat → Nat → Int) (f1 : Nat → Int64) (H1 : Heap) (locs1 : List Loc) (ls1 : Array Slot), IV X1 S1 → PX D ks bx ml1 X1 H1 → PM D ks (bx + 55) S1 H1 → ca D (bx + 75) (jA (ks 1) 1 f1) H1 → va_S (AR (RC bx) s.heap.size) s.heap H1 locs1 → lv_has ls1 8 [(0, .ref b), (1, .ref bx), (2, .ref (bx + 55)), (3, .ref (bx + 75)), (4, .int (z2 (5 * ((k : Nat) : Int))))] → W p l e room_1 s m #[Value.ref b] below meth c H1 locs1 (cells + 4) (slots + 24) Q (F0 m 1505 ls1 [])) :
    W p l e room_1 s m #[Value.ref b] below meth c H locs cells slots Q (F0 m 900 ls []) := by
  obtain ⟨u, hu, eu⟩ := z2_ex (xs (5 * k + 1))
  have b4 := hI.2.1
  refine lv_aload_n hx hb dL_law_900 rfl (lv_at hl 1 rfl) ?_
  refine lv_aload_n hx hb dL_law_901 rfl (lv_at hl 0 rfl) ?_
  refine lv_iload hx hb dL_law_902 (lv_at hl 4 rfl) ?_
  refine b_iconst hx hb dL_law_904 ?_
  refine b_iadd hx hb dL_law_905 ?_
  refine g_scr hx hb hX hbl hbA hS (5 * k + 1) ⟨by omega, by omega, by omega⟩ eu dL_law_906 ?_
  refine lv_aload_n hx hb dL_law_907 rfl (lv_at hl 3 rfl) ?_
  refine g_run (vx_runSX (As := [.ref bx, .int (z2 (u)), .ref (bx + 75)]) (rest := []) ⟨hx, hb, hml, hown, hts⟩ (w_repair l D ks bx ml X _ hP hI.2.1 hst ho (u) hu) (vx_cwSW 3 hts gL_law_L_repair rfl rfl rfl (by decide +kernel) ⟨Nat.le_of_ble_eq_true rfl, Nat.le_of_ble_eq_true rfl⟩) (g_preS hG hS (fun _ h => h)) rfl rfl hl.1 rfl (lv_room (Nat.le_of_ble_eq_true rfl)) dL_law_908 ⟨by show cells + 3 ≤ room_1.cells; omega, by show slots + 18 ≤ room_1.slots; omega⟩) hS (fun q h => rw_ge q h) (fun _ _ _ _ _ h => h.elim) (fun v H locs hp hz9 hk9 hS => ?_)
  obtain ⟨z, r, Y, hco, rfl, ⟨ml1, hP⟩, f1, ho, hf⟩ := hp
  have hM := hM.keep (fun q h1 h2 h3 => hk9 q h1 (fun h => h.elim (fun r => absurd r.2 (by omega)) (fun r => by omega)))
  have hz := z_repair hco
  refine W.eq (g2 := F0 m 911 ls [.int (z2 (z))]) rfl ?_
  refine lv_istore (lv' := [(5, .int (z2 (z))), (0, .ref b), (1, .ref bx), (2, .ref (bx + 55)), (3, .ref (bx + 75)), (4, .int (z2 (5 * ((k : Nat) : Int))))]) hx hb dL_law_911 hl (by decide) rfl (fun ls hl => ?_)
  refine lv_aload_n hx hb dL_law_913 rfl (lv_at hl 3 rfl) ?_
  refine lv_aload_n hx hb dL_law_914 rfl (lv_at hl 1 rfl) ?_
  refine lv_iload hx hb dL_law_915 (lv_at hl 5 rfl) ?_
  refine b_iconst hx hb dL_law_917 ?_
  refine b_iadd hx hb dL_law_918 ?_
  refine g_scr hx hb hX hbl hbA hS (5 * k + 1) ⟨by omega, by omega, by omega⟩ eu dL_law_919 ?_
  refine g_run (vx_runV (As := [.int (z2 (u))]) (rest := []) ⟨hx, hb, hml, hown, hts⟩ (m_repair l D ks bx (bx + 55) (by omega) S _ hM hI.2.2.2 (u) hu) (cwV 1 hts gL_law_X5_repair rfl rfl rfl (by decide +kernel) ⟨Nat.le_of_ble_eq_true rfl, Nat.le_of_ble_eq_true rfl⟩) (g_preV (r := (RX5, TX5, 23)) hG hS (fun _ h => h) hM.1 rfl) rfl rfl hl.1 rfl (lv_room (Nat.le_of_ble_eq_true rfl)) dL_law_920 ⟨by show cells + 3 + 0 ≤ room_1.cells; omega, by show slots + 18 + 0 ≤ room_1.slots; omega⟩) hS (fun q h => rm_ge (bx := bx) (by omega) q h) (fun _ _ _ _ _ h => h.elim) (fun v H locs hp hz9 hk9 hS => ?_)
  obtain ⟨q, T, hro, rfl, hM⟩ := hp
  have hP := hP.keep (fun q h1 h2 => hk9 q h1 (fun h => by have h3 := h.1; have h4 := h.2; omega))
  have ho := ho.kept (hk9 _ ho.lt (fun h => absurd h.2 (by omega)))
  obtain ⟨c1, c2, hJ⟩ := cs_repair hI hco hro
  refine W.eq (g2 := F0 m 923 ls [.int (z2 (q))]) rfl ?_
  refine lv_istore (lv' := [(6, .int (z2 (q))), (5, .int (z2 (z))), (0, .ref b), (1, .ref bx), (2, .ref (bx + 55)), (3, .ref (bx + 75)), (4, .int (z2 (5 * ((k : Nat) : Int))))]) hx hb dL_law_923 hl (by decide) rfl (fun ls hl => ?_)
  refine lv_aload_n hx hb dL_law_925 rfl (lv_at hl 4 rfl) ?_
  refine g_run (vx_runV (As := []) (rest := []) ⟨hx, hb, hml, hown, hts⟩ (m_thrown l D ks bx (bx + 55) (by omega) T _ hM hJ.2.2.2) (cwV 0 hts gL_law_X5_thrown rfl rfl rfl (by decide +kernel) ⟨Nat.le_of_ble_eq_true rfl, Nat.le_of_ble_eq_true rfl⟩) (g_preV (r := (RX5, TX5, 23)) hG hS (fun _ h => h) hM.1 rfl) rfl rfl hl.1 rfl (lv_room (Nat.le_of_ble_eq_true rfl)) dL_law_926 ⟨by show cells + 3 + 0 + 0 ≤ room_1.cells; omega, by show slots + 18 + 0 + 0 ≤ room_1.slots; omega⟩) hS (fun q h => rm_ge (bx := bx) (by omega) q h) (fun _ _ _ _ _ h => h.elim) (fun v H locs hp hz9 hk9 hS => ?_)
  obtain ⟨rfl, hH9⟩ := hp
  obtain rfl := hH9.symm
  rw [c1]
  refine W.eq (g2 := F0 m 929 ls [.int (z2 (z))]) rfl ?_
  refine lv_iload hx hb dL_law_929 (lv_at hl 1 rfl) ?_
  refine lv_icmp_eq (tgt := 936) hx hb dL_law_931 (by decide) (fun _ => ?_) (fun c => absurd rfl c)
  refine lv_iload hx hb dL_law_936 (lv_at hl 1 rfl) ?_
  refine b_if_ne (tgt := 953) hx hb dL_law_938 (by decide) ⟨by omega, by omega⟩ (fun c_z => ?_) (fun c_z => ?_)
  · skip
    refine lv_goto (tgt := 1505) hx hb dL_law_953 (by decide) ?_
    refine W.widen (k := cells + 4) (n := slots + 24) (by show cells + 3 + 0 + 0 ≤ cells + 4; omega) (by show slots + 18 + 0 + 0 ≤ slots + 24; omega) ?_
    exact kk _ _ _ _ _ _ _ hJ hP hM ho hS (lv_sub hl [2, 3, 4, 5, 6] rfl)
  · skip
    have hrq := c2 c_z
    have hf0 := hf c_z
    refine lv_aload_n hx hb dL_law_941 rfl (lv_at hl 5 rfl) ?_
    refine b_iconst hx hb dL_law_942 ?_
    refine g_lald (n := 1) hx hb hG ho 0 ⟨rfl, by decide, by decide⟩ dL_law_943 ?_
    refine lv_iload hx hb dL_law_944 (lv_at hl 0 rfl) ?_
    refine lv_i2l (v := (z2 (q)).toInt64) hx hb dL_law_946 rfl ?_
    refine W.lcmp hx hb dL_law_947 ?_
    refine b_top (v := 0) (lg_self (hf0.trans (congrArg (fun z => (z2 z).toInt64) hrq))) ?_
    refine b_if_eq (tgt := 953) hx hb dL_law_948 (by decide) ⟨by omega, by omega⟩ (fun _ => ?_) (fun c => absurd rfl c)
    refine lv_goto (tgt := 1505) hx hb dL_law_953 (by decide) ?_
    refine W.widen (k := cells + 4) (n := slots + 24) (by show cells + 3 + 0 + 0 ≤ cells + 4; omega) (by show slots + 18 + 0 + 0 ≤ slots + 24; omega) ?_
    exact kk _ _ _ _ _ _ _ hJ hP hM ho hS (lv_sub hl [2, 3, 4, 5, 6] rfl)
set_option maxHeartbeats 4000000 in
set_option maxRecDepth 100000 in
theorem c_pass {p : Program} {e : Env} {s : State} {m : MethodId} {below : List Frame} {meth : Method} {c : Code} (l : Launch) (hst : l.stackTraces = false) {D : va_G} {ks : Nat → ClassId} {b bx nL k : Nat} {xs : Nat → Int32} {Q : State → Prop} (hx : p.tables.exec = Jvm.exec) (hb : c.code = cL_law) (hml : c.maxLocals = 8) (hown : s.vm.findClass RL = some m.cls) (hts : ∀ w ∈ wsL_law, w.before #[Value.ref b] s = true) (hX : va_X b nL xs s s.heap) (hbl : b < s.heap.size) (hG : GE D ks bx s) (hbA : ¬ AR (RC bx) s.heap.size b) (hL : nL ≤ 2560) (hk : 5 * k + 5 ≤ nL) {H : Heap} {locs : List Loc} {ls : Array Slot} {cells slots : Nat} (hcs : cells + 10 ≤ room_1.cells ∧ slots + 60 ≤ room_1.slots)
    {ml : Nat → Nat} {X S : Nat → Nat → Int} {fo : Nat → Int64} (hI : IV X S) (hP : PX D ks bx ml X H) (hM : PM D ks (bx + 55) S H) (ho : ca D (bx + 75) (jA (ks 1) 1 fo) H) (hS : va_S (AR (RC bx) s.heap.size) s.heap H locs) (hl : lv_has ls 8 [(0, .ref b), (1, .ref bx), (2, .ref (bx + 55)), (3, .ref (bx + 75)), (4, .int (z2 (5 * ((k : Nat) : Int))))])
    (kk : ∀ (ml1 : Nat → Nat) (X1 S1 : Nat → Nat → Int) (f1 : Nat → Int64) (H1 : Heap) (locs1 : List Loc) (ls1 : Array Slot), IV X1 S1 → PX D ks bx ml1 X1 H1 → PM D ks (bx + 55) S1 H1 → ca D (bx + 75) (jA (ks 1) 1 f1) H1 → va_S (AR (RC bx) s.heap.size) s.heap H1 locs1 → lv_has ls1 8 [(0, .ref b), (1, .ref bx), (2, .ref (bx + 55)), (3, .ref (bx + 75)), (4, .int (z2 (5 * ((k : Nat) : Int))))] → W p l e room_1 s m #[Value.ref b] below meth c H1 locs1 (cells + 4) (slots + 24) Q (F0 m 1505 ls1 [])) :
    W p l e room_1 s m #[Value.ref b] below meth c H locs cells slots Q (F0 m 956 ls []) := by
  obtain ⟨u, hu, eu⟩ := z2_ex (xs (5 * k + 1))
  have b4 := hI.2.1
  refine lv_aload_n hx hb dL_law_956 rfl (lv_at hl 1 rfl) ?_
  refine lv_aload_n hx hb dL_law_957 rfl (lv_at hl 0 rfl) ?_
  refine lv_iload hx hb dL_law_958 (lv_at hl 4 rfl) ?_
  refine b_iconst hx hb dL_law_960 ?_
  refine b_iadd hx hb dL_law_961 ?_
  refine g_scr hx hb hX hbl hbA hS (5 * k + 1) ⟨by omega, by omega, by omega⟩ eu dL_law_962 ?_
  refine lv_aload_n hx hb dL_law_963 rfl (lv_at hl 3 rfl) ?_
  refine g_run (vx_runSX (As := [.ref bx, .int (z2 (u)), .ref (bx + 75)]) (rest := []) ⟨hx, hb, hml, hown, hts⟩ (w_pass l D ks bx ml X _ hP hI.2.1 hst ho (u) hu) (vx_cwSW 3 hts gL_law_L_pass rfl rfl rfl (by decide +kernel) ⟨Nat.le_of_ble_eq_true rfl, Nat.le_of_ble_eq_true rfl⟩) (g_preS hG hS (fun _ h => h)) rfl rfl hl.1 rfl (lv_room (Nat.le_of_ble_eq_true rfl)) dL_law_964 ⟨by show cells + 2 ≤ room_1.cells; omega, by show slots + 12 ≤ room_1.slots; omega⟩) hS (fun q h => rw_ge q h) (fun _ _ _ _ _ h => h.elim) (fun v H locs hp hz9 hk9 hS => ?_)
  obtain ⟨z, r, Y, hco, rfl, ⟨ml1, hP⟩, f1, ho, hf⟩ := hp
  have hM := hM.keep (fun q h1 h2 h3 => hk9 q h1 (fun h => h.elim (fun r => absurd r.2 (by omega)) (fun r => by omega)))
  have hz := z_pass hco
  refine W.eq (g2 := F0 m 967 ls [.int (z2 (z))]) rfl ?_
  refine lv_istore (lv' := [(5, .int (z2 (z))), (0, .ref b), (1, .ref bx), (2, .ref (bx + 55)), (3, .ref (bx + 75)), (4, .int (z2 (5 * ((k : Nat) : Int))))]) hx hb dL_law_967 hl (by decide) rfl (fun ls hl => ?_)
  refine lv_aload_n hx hb dL_law_969 rfl (lv_at hl 3 rfl) ?_
  refine lv_aload_n hx hb dL_law_970 rfl (lv_at hl 1 rfl) ?_
  refine lv_iload hx hb dL_law_971 (lv_at hl 5 rfl) ?_
  refine b_iconst hx hb dL_law_973 ?_
  refine b_iadd hx hb dL_law_974 ?_
  refine g_scr hx hb hX hbl hbA hS (5 * k + 1) ⟨by omega, by omega, by omega⟩ eu dL_law_975 ?_
  refine g_run (vx_runV (As := [.int (z2 (u))]) (rest := []) ⟨hx, hb, hml, hown, hts⟩ (m_pass l D ks bx (bx + 55) (by omega) S _ hM hI.2.2.2 (u) hu) (cwV 1 hts gL_law_X5_pass rfl rfl rfl (by decide +kernel) ⟨Nat.le_of_ble_eq_true rfl, Nat.le_of_ble_eq_true rfl⟩) (g_preV (r := (RX5, TX5, 23)) hG hS (fun _ h => h) hM.1 rfl) rfl rfl hl.1 rfl (lv_room (Nat.le_of_ble_eq_true rfl)) dL_law_976 ⟨by show cells + 2 + 0 ≤ room_1.cells; omega, by show slots + 12 + 0 ≤ room_1.slots; omega⟩) hS (fun q h => rm_ge (bx := bx) (by omega) q h) (fun _ _ _ _ _ h => h.elim) (fun v H locs hp hz9 hk9 hS => ?_)
  obtain ⟨q, T, hro, rfl, hM⟩ := hp
  have hP := hP.keep (fun q h1 h2 => hk9 q h1 (fun h => by have h3 := h.1; have h4 := h.2; omega))
  have ho := ho.kept (hk9 _ ho.lt (fun h => absurd h.2 (by omega)))
  obtain ⟨c1, c2, hJ⟩ := cs_pass hI hco hro
  refine W.eq (g2 := F0 m 979 ls [.int (z2 (q))]) rfl ?_
  refine lv_istore (lv' := [(6, .int (z2 (q))), (5, .int (z2 (z))), (0, .ref b), (1, .ref bx), (2, .ref (bx + 55)), (3, .ref (bx + 75)), (4, .int (z2 (5 * ((k : Nat) : Int))))]) hx hb dL_law_979 hl (by decide) rfl (fun ls hl => ?_)
  refine lv_aload_n hx hb dL_law_981 rfl (lv_at hl 4 rfl) ?_
  refine g_run (vx_runV (As := []) (rest := []) ⟨hx, hb, hml, hown, hts⟩ (m_thrown l D ks bx (bx + 55) (by omega) T _ hM hJ.2.2.2) (cwV 0 hts gL_law_X5_thrown rfl rfl rfl (by decide +kernel) ⟨Nat.le_of_ble_eq_true rfl, Nat.le_of_ble_eq_true rfl⟩) (g_preV (r := (RX5, TX5, 23)) hG hS (fun _ h => h) hM.1 rfl) rfl rfl hl.1 rfl (lv_room (Nat.le_of_ble_eq_true rfl)) dL_law_982 ⟨by show cells + 2 + 0 + 0 ≤ room_1.cells; omega, by show slots + 12 + 0 + 0 ≤ room_1.slots; omega⟩) hS (fun q h => rm_ge (bx := bx) (by omega) q h) (fun _ _ _ _ _ h => h.elim) (fun v H locs hp hz9 hk9 hS => ?_)
  obtain ⟨rfl, hH9⟩ := hp
  obtain rfl := hH9.symm
  rw [c1]
  refine W.eq (g2 := F0 m 985 ls [.int (z2 (z))]) rfl ?_
  refine lv_iload hx hb dL_law_985 (lv_at hl 1 rfl) ?_
  refine lv_icmp_eq (tgt := 992) hx hb dL_law_987 (by decide) (fun _ => ?_) (fun c => absurd rfl c)
  refine lv_iload hx hb dL_law_992 (lv_at hl 1 rfl) ?_
  refine b_if_ne (tgt := 1009) hx hb dL_law_994 (by decide) ⟨by omega, by omega⟩ (fun c_z => ?_) (fun c_z => ?_)
  · skip
    refine lv_goto (tgt := 1505) hx hb dL_law_1009 (by decide) ?_
    refine W.widen (k := cells + 4) (n := slots + 24) (by show cells + 2 + 0 + 0 ≤ cells + 4; omega) (by show slots + 12 + 0 + 0 ≤ slots + 24; omega) ?_
    exact kk _ _ _ _ _ _ _ hJ hP hM ho hS (lv_sub hl [2, 3, 4, 5, 6] rfl)
  · skip
    have hrq := c2 c_z
    have hf0 := hf c_z
    refine lv_aload_n hx hb dL_law_997 rfl (lv_at hl 5 rfl) ?_
    refine b_iconst hx hb dL_law_998 ?_
    refine g_lald (n := 1) hx hb hG ho 0 ⟨rfl, by decide, by decide⟩ dL_law_999 ?_
    refine lv_iload hx hb dL_law_1000 (lv_at hl 0 rfl) ?_
    refine lv_i2l (v := (z2 (q)).toInt64) hx hb dL_law_1002 rfl ?_
    refine W.lcmp hx hb dL_law_1003 ?_
    refine b_top (v := 0) (lg_self (hf0.trans (congrArg (fun z => (z2 z).toInt64) hrq))) ?_
    refine b_if_eq (tgt := 1009) hx hb dL_law_1004 (by decide) ⟨by omega, by omega⟩ (fun _ => ?_) (fun c => absurd rfl c)
    refine lv_goto (tgt := 1505) hx hb dL_law_1009 (by decide) ?_
    refine W.widen (k := cells + 4) (n := slots + 24) (by show cells + 2 + 0 + 0 ≤ cells + 4; omega) (by show slots + 12 + 0 + 0 ≤ slots + 24; omega) ?_
    exact kk _ _ _ _ _ _ _ hJ hP hM ho hS (lv_sub hl [2, 3, 4, 5, 6] rfl)
set_option maxHeartbeats 4000000 in
set_option maxRecDepth 100000 in
theorem c_time {p : Program} {e : Env} {s : State} {m : MethodId} {below : List Frame} {meth : Method} {c : Code} (l : Launch) (hst : l.stackTraces = false) {D : va_G} {ks : Nat → ClassId} {b bx nL k : Nat} {xs : Nat → Int32} {Q : State → Prop} (hx : p.tables.exec = Jvm.exec) (hb : c.code = cL_law) (hml : c.maxLocals = 8) (hown : s.vm.findClass RL = some m.cls) (hts : ∀ w ∈ wsL_law, w.before #[Value.ref b] s = true) (hX : va_X b nL xs s s.heap) (hbl : b < s.heap.size) (hG : GE D ks bx s) (hbA : ¬ AR (RC bx) s.heap.size b) (hL : nL ≤ 2560) (hk : 5 * k + 5 ≤ nL) {H : Heap} {locs : List Loc} {ls : Array Slot} {cells slots : Nat} (hcs : cells + 10 ≤ room_1.cells ∧ slots + 60 ≤ room_1.slots)
    {ml : Nat → Nat} {X S : Nat → Nat → Int} {fo : Nat → Int64} (hI : IV X S) (hP : PX D ks bx ml X H) (hM : PM D ks (bx + 55) S H) (ho : ca D (bx + 75) (jA (ks 1) 1 fo) H) (hS : va_S (AR (RC bx) s.heap.size) s.heap H locs) (hl : lv_has ls 8 [(0, .ref b), (1, .ref bx), (2, .ref (bx + 55)), (3, .ref (bx + 75)), (4, .int (z2 (5 * ((k : Nat) : Int))))])
    (kk : ∀ (ml1 : Nat → Nat) (X1 S1 : Nat → Nat → Int) (f1 : Nat → Int64) (H1 : Heap) (locs1 : List Loc) (ls1 : Array Slot), IV X1 S1 → PX D ks bx ml1 X1 H1 → PM D ks (bx + 55) S1 H1 → ca D (bx + 75) (jA (ks 1) 1 f1) H1 → va_S (AR (RC bx) s.heap.size) s.heap H1 locs1 → lv_has ls1 8 [(0, .ref b), (1, .ref bx), (2, .ref (bx + 55)), (3, .ref (bx + 75)), (4, .int (z2 (5 * ((k : Nat) : Int))))] → W p l e room_1 s m #[Value.ref b] below meth c H1 locs1 (cells + 4) (slots + 24) Q (F0 m 1505 ls1 [])) :
    W p l e room_1 s m #[Value.ref b] below meth c H locs cells slots Q (F0 m 1012 ls []) := by
  have b4 := hI.2.1
  refine lv_aload_n hx hb dL_law_1012 rfl (lv_at hl 1 rfl) ?_
  refine g_run (vx_runV (As := []) (rest := []) ⟨hx, hb, hml, hown, hts⟩ (k_time l D ks bx ml X _ hP hI.2.1) (cwV 0 hts gL_law_X4_time rfl rfl rfl (by decide +kernel) ⟨Nat.le_of_ble_eq_true rfl, Nat.le_of_ble_eq_true rfl⟩) (g_preV (r := (RX4, TX4, 7)) hG hS (fun _ h => h) hP.1 rfl) rfl rfl hl.1 rfl (lv_room (Nat.le_of_ble_eq_true rfl)) dL_law_1013 ⟨by show cells + 0 ≤ room_1.cells; omega, by show slots + 0 ≤ room_1.slots; omega⟩) hS (fun q h => rx_ge q h) (fun _ _ _ _ _ h => h.elim) (fun v H locs hp hz9 hk9 hS => ?_)
  obtain ⟨rfl, hH9⟩ := hp
  obtain rfl := hH9.symm
  refine W.eq (g2 := F0 m 1016 ls [.int (z2 (X 6 0))]) rfl ?_
  refine lv_aload_n hx hb dL_law_1016 rfl (lv_at hl 2 rfl) ?_
  refine g_run (vx_runV (As := []) (rest := [.int (z2 (X 6 0))]) ⟨hx, hb, hml, hown, hts⟩ (m_time l D ks bx (bx + 55) (by omega) S _ hM hI.2.2.2) (cwV 0 hts gL_law_X5_time rfl rfl rfl (by decide +kernel) ⟨Nat.le_of_ble_eq_true rfl, Nat.le_of_ble_eq_true rfl⟩) (g_preV (r := (RX5, TX5, 23)) hG hS (fun _ h => h) hM.1 rfl) rfl rfl hl.1 rfl (lv_room (Nat.le_of_ble_eq_true rfl)) dL_law_1017 ⟨by show cells + 0 + 0 ≤ room_1.cells; omega, by show slots + 0 + 0 ≤ room_1.slots; omega⟩) hS (fun q h => rm_ge (bx := bx) (by omega) q h) (fun _ _ _ _ _ h => h.elim) (fun v H locs hp hz9 hk9 hS => ?_)
  obtain ⟨rfl, hM⟩ := hp
  have hP := hP.keep (fun q h1 h2 => hk9 q h1 (fun h => by have h3 := h.1; have h4 := h.2; omega))
  have ho := ho.kept (hk9 _ ho.lt (fun h => absurd h.2 (by omega)))
  have hJ := inv22 hI 0
  rw [show S 0 0 = X 6 0 from hI.1.1.1]
  refine W.eq (g2 := F0 m 1020 ls [.int (z2 (X 6 0)), .int (z2 (X 6 0))]) rfl ?_
  refine lv_icmp_eq (tgt := 1505) hx hb dL_law_1020 (by decide) (fun _ => ?_) (fun c => absurd rfl c)
  refine W.widen (k := cells + 4) (n := slots + 24) (by show cells + 0 + 0 ≤ cells + 4; omega) (by show slots + 0 + 0 ≤ slots + 24; omega) ?_
  exact kk _ _ _ _ _ _ _ hJ hP hM ho hS (lv_sub hl [0, 1, 2, 3, 4] rfl)
set_option maxHeartbeats 4000000 in
set_option maxRecDepth 100000 in
theorem c_ringing {p : Program} {e : Env} {s : State} {m : MethodId} {below : List Frame} {meth : Method} {c : Code} (l : Launch) (hst : l.stackTraces = false) {D : va_G} {ks : Nat → ClassId} {b bx nL k : Nat} {xs : Nat → Int32} {Q : State → Prop} (hx : p.tables.exec = Jvm.exec) (hb : c.code = cL_law) (hml : c.maxLocals = 8) (hown : s.vm.findClass RL = some m.cls) (hts : ∀ w ∈ wsL_law, w.before #[Value.ref b] s = true) (hX : va_X b nL xs s s.heap) (hbl : b < s.heap.size) (hG : GE D ks bx s) (hbA : ¬ AR (RC bx) s.heap.size b) (hL : nL ≤ 2560) (hk : 5 * k + 5 ≤ nL) {H : Heap} {locs : List Loc} {ls : Array Slot} {cells slots : Nat} (hcs : cells + 10 ≤ room_1.cells ∧ slots + 60 ≤ room_1.slots)
    {ml : Nat → Nat} {X S : Nat → Nat → Int} {fo : Nat → Int64} (hI : IV X S) (hP : PX D ks bx ml X H) (hM : PM D ks (bx + 55) S H) (ho : ca D (bx + 75) (jA (ks 1) 1 fo) H) (hS : va_S (AR (RC bx) s.heap.size) s.heap H locs) (hl : lv_has ls 8 [(0, .ref b), (1, .ref bx), (2, .ref (bx + 55)), (3, .ref (bx + 75)), (4, .int (z2 (5 * ((k : Nat) : Int))))])
    (kk : ∀ (ml1 : Nat → Nat) (X1 S1 : Nat → Nat → Int) (f1 : Nat → Int64) (H1 : Heap) (locs1 : List Loc) (ls1 : Array Slot), IV X1 S1 → PX D ks bx ml1 X1 H1 → PM D ks (bx + 55) S1 H1 → ca D (bx + 75) (jA (ks 1) 1 f1) H1 → va_S (AR (RC bx) s.heap.size) s.heap H1 locs1 → lv_has ls1 8 [(0, .ref b), (1, .ref bx), (2, .ref (bx + 55)), (3, .ref (bx + 75)), (4, .int (z2 (5 * ((k : Nat) : Int))))] → W p l e room_1 s m #[Value.ref b] below meth c H1 locs1 (cells + 4) (slots + 24) Q (F0 m 1505 ls1 [])) :
    W p l e room_1 s m #[Value.ref b] below meth c H locs cells slots Q (F0 m 1025 ls []) := by
  obtain ⟨u, hu, eu⟩ := z2_ex (xs (5 * k + 1))
  have b4 := hI.2.1
  refine lv_aload_n hx hb dL_law_1025 rfl (lv_at hl 1 rfl) ?_
  refine lv_aload_n hx hb dL_law_1026 rfl (lv_at hl 0 rfl) ?_
  refine lv_iload hx hb dL_law_1027 (lv_at hl 4 rfl) ?_
  refine b_iconst hx hb dL_law_1029 ?_
  refine b_iadd hx hb dL_law_1030 ?_
  refine g_scr hx hb hX hbl hbA hS (5 * k + 1) ⟨by omega, by omega, by omega⟩ eu dL_law_1031 ?_
  refine lv_aload_n hx hb dL_law_1032 rfl (lv_at hl 3 rfl) ?_
  refine g_run (vx_runSX (As := [.ref bx, .int (z2 (u)), .ref (bx + 75)]) (rest := []) ⟨hx, hb, hml, hown, hts⟩ (w_ringing l D ks bx ml X _ hP hI.2.1 hst ho (u) hu) (vx_cwSW 3 hts gL_law_L_ringing rfl rfl rfl (by decide +kernel) ⟨Nat.le_of_ble_eq_true rfl, Nat.le_of_ble_eq_true rfl⟩) (g_preS hG hS (fun _ h => h)) rfl rfl hl.1 rfl (lv_room (Nat.le_of_ble_eq_true rfl)) dL_law_1033 ⟨by show cells + 1 ≤ room_1.cells; omega, by show slots + 6 ≤ room_1.slots; omega⟩) hS (fun q h => rw_ge q h) (fun _ _ _ _ _ h => h.elim) (fun v H locs hp hz9 hk9 hS => ?_)
  obtain ⟨z, r, Y, hco, rfl, ⟨ml1, hP⟩, f1, ho, hf⟩ := hp
  have hM := hM.keep (fun q h1 h2 h3 => hk9 q h1 (fun h => h.elim (fun r => absurd r.2 (by omega)) (fun r => by omega)))
  have hz := z_ringing hco
  refine W.eq (g2 := F0 m 1036 ls [.int (z2 (z))]) rfl ?_
  refine lv_istore (lv' := [(5, .int (z2 (z))), (0, .ref b), (1, .ref bx), (2, .ref (bx + 55)), (3, .ref (bx + 75)), (4, .int (z2 (5 * ((k : Nat) : Int))))]) hx hb dL_law_1036 hl (by decide) rfl (fun ls hl => ?_)
  refine lv_aload_n hx hb dL_law_1038 rfl (lv_at hl 3 rfl) ?_
  refine lv_aload_n hx hb dL_law_1039 rfl (lv_at hl 1 rfl) ?_
  refine lv_iload hx hb dL_law_1040 (lv_at hl 5 rfl) ?_
  refine b_iconst hx hb dL_law_1042 ?_
  refine b_iadd hx hb dL_law_1043 ?_
  refine g_scr hx hb hX hbl hbA hS (5 * k + 1) ⟨by omega, by omega, by omega⟩ eu dL_law_1044 ?_
  refine g_run (vx_runV (As := [.int (z2 (u))]) (rest := []) ⟨hx, hb, hml, hown, hts⟩ (m_ringing l D ks bx (bx + 55) (by omega) S _ hM hI.2.2.2 (u) hu) (cwV 1 hts gL_law_X5_ringing rfl rfl rfl (by decide +kernel) ⟨Nat.le_of_ble_eq_true rfl, Nat.le_of_ble_eq_true rfl⟩) (g_preV (r := (RX5, TX5, 23)) hG hS (fun _ h => h) hM.1 rfl) rfl rfl hl.1 rfl (lv_room (Nat.le_of_ble_eq_true rfl)) dL_law_1045 ⟨by show cells + 1 + 0 ≤ room_1.cells; omega, by show slots + 6 + 0 ≤ room_1.slots; omega⟩) hS (fun q h => rm_ge (bx := bx) (by omega) q h) (fun _ _ _ _ _ h => h.elim) (fun v H locs hp hz9 hk9 hS => ?_)
  obtain ⟨q, T, hro, rfl, hM⟩ := hp
  have hP := hP.keep (fun q h1 h2 => hk9 q h1 (fun h => by have h3 := h.1; have h4 := h.2; omega))
  have ho := ho.kept (hk9 _ ho.lt (fun h => absurd h.2 (by omega)))
  obtain ⟨c1, c2, hJ⟩ := cs_ringing hI hco hro
  refine W.eq (g2 := F0 m 1048 ls [.int (z2 (q))]) rfl ?_
  refine lv_istore (lv' := [(6, .int (z2 (q))), (5, .int (z2 (z))), (0, .ref b), (1, .ref bx), (2, .ref (bx + 55)), (3, .ref (bx + 75)), (4, .int (z2 (5 * ((k : Nat) : Int))))]) hx hb dL_law_1048 hl (by decide) rfl (fun ls hl => ?_)
  refine lv_aload_n hx hb dL_law_1050 rfl (lv_at hl 4 rfl) ?_
  refine g_run (vx_runV (As := []) (rest := []) ⟨hx, hb, hml, hown, hts⟩ (m_thrown l D ks bx (bx + 55) (by omega) T _ hM hJ.2.2.2) (cwV 0 hts gL_law_X5_thrown rfl rfl rfl (by decide +kernel) ⟨Nat.le_of_ble_eq_true rfl, Nat.le_of_ble_eq_true rfl⟩) (g_preV (r := (RX5, TX5, 23)) hG hS (fun _ h => h) hM.1 rfl) rfl rfl hl.1 rfl (lv_room (Nat.le_of_ble_eq_true rfl)) dL_law_1051 ⟨by show cells + 1 + 0 + 0 ≤ room_1.cells; omega, by show slots + 6 + 0 + 0 ≤ room_1.slots; omega⟩) hS (fun q h => rm_ge (bx := bx) (by omega) q h) (fun _ _ _ _ _ h => h.elim) (fun v H locs hp hz9 hk9 hS => ?_)
  obtain ⟨rfl, hH9⟩ := hp
  obtain rfl := hH9.symm
  rw [c1]
  refine W.eq (g2 := F0 m 1054 ls [.int (z2 (z))]) rfl ?_
  refine lv_iload hx hb dL_law_1054 (lv_at hl 1 rfl) ?_
  refine lv_icmp_eq (tgt := 1061) hx hb dL_law_1056 (by decide) (fun _ => ?_) (fun c => absurd rfl c)
  refine lv_iload hx hb dL_law_1061 (lv_at hl 1 rfl) ?_
  refine b_if_ne (tgt := 1078) hx hb dL_law_1063 (by decide) ⟨by omega, by omega⟩ (fun c_z => ?_) (fun c_z => ?_)
  · skip
    refine lv_goto (tgt := 1505) hx hb dL_law_1078 (by decide) ?_
    refine W.widen (k := cells + 4) (n := slots + 24) (by show cells + 1 + 0 + 0 ≤ cells + 4; omega) (by show slots + 6 + 0 + 0 ≤ slots + 24; omega) ?_
    exact kk _ _ _ _ _ _ _ hJ hP hM ho hS (lv_sub hl [2, 3, 4, 5, 6] rfl)
  · skip
    have hrq := c2 c_z
    have hf0 := hf c_z
    refine lv_aload_n hx hb dL_law_1066 rfl (lv_at hl 5 rfl) ?_
    refine b_iconst hx hb dL_law_1067 ?_
    refine g_lald (n := 1) hx hb hG ho 0 ⟨rfl, by decide, by decide⟩ dL_law_1068 ?_
    refine lv_iload hx hb dL_law_1069 (lv_at hl 0 rfl) ?_
    refine lv_i2l (v := (z2 (q)).toInt64) hx hb dL_law_1071 rfl ?_
    refine W.lcmp hx hb dL_law_1072 ?_
    refine b_top (v := 0) (lg_self (hf0.trans (congrArg (fun z => (z2 z).toInt64) hrq))) ?_
    refine b_if_eq (tgt := 1078) hx hb dL_law_1073 (by decide) ⟨by omega, by omega⟩ (fun _ => ?_) (fun c => absurd rfl c)
    refine lv_goto (tgt := 1505) hx hb dL_law_1078 (by decide) ?_
    refine W.widen (k := cells + 4) (n := slots + 24) (by show cells + 1 + 0 + 0 ≤ cells + 4; omega) (by show slots + 6 + 0 + 0 ≤ slots + 24; omega) ?_
    exact kk _ _ _ _ _ _ _ hJ hP hM ho hS (lv_sub hl [2, 3, 4, 5, 6] rfl)
set_option maxHeartbeats 4000000 in
set_option maxRecDepth 100000 in
theorem c_isSound {p : Program} {e : Env} {s : State} {m : MethodId} {below : List Frame} {meth : Method} {c : Code} (l : Launch) (hst : l.stackTraces = false) {D : va_G} {ks : Nat → ClassId} {b bx nL k : Nat} {xs : Nat → Int32} {Q : State → Prop} (hx : p.tables.exec = Jvm.exec) (hb : c.code = cL_law) (hml : c.maxLocals = 8) (hown : s.vm.findClass RL = some m.cls) (hts : ∀ w ∈ wsL_law, w.before #[Value.ref b] s = true) (hX : va_X b nL xs s s.heap) (hbl : b < s.heap.size) (hG : GE D ks bx s) (hbA : ¬ AR (RC bx) s.heap.size b) (hL : nL ≤ 2560) (hk : 5 * k + 5 ≤ nL) {H : Heap} {locs : List Loc} {ls : Array Slot} {cells slots : Nat} (hcs : cells + 10 ≤ room_1.cells ∧ slots + 60 ≤ room_1.slots)
    {ml : Nat → Nat} {X S : Nat → Nat → Int} {fo : Nat → Int64} (hI : IV X S) (hP : PX D ks bx ml X H) (hM : PM D ks (bx + 55) S H) (ho : ca D (bx + 75) (jA (ks 1) 1 fo) H) (hS : va_S (AR (RC bx) s.heap.size) s.heap H locs) (hl : lv_has ls 8 [(0, .ref b), (1, .ref bx), (2, .ref (bx + 55)), (3, .ref (bx + 75)), (4, .int (z2 (5 * ((k : Nat) : Int))))])
    (kk : ∀ (ml1 : Nat → Nat) (X1 S1 : Nat → Nat → Int) (f1 : Nat → Int64) (H1 : Heap) (locs1 : List Loc) (ls1 : Array Slot), IV X1 S1 → PX D ks bx ml1 X1 H1 → PM D ks (bx + 55) S1 H1 → ca D (bx + 75) (jA (ks 1) 1 f1) H1 → va_S (AR (RC bx) s.heap.size) s.heap H1 locs1 → lv_has ls1 8 [(0, .ref b), (1, .ref bx), (2, .ref (bx + 55)), (3, .ref (bx + 75)), (4, .int (z2 (5 * ((k : Nat) : Int))))] → W p l e room_1 s m #[Value.ref b] below meth c H1 locs1 (cells + 4) (slots + 24) Q (F0 m 1505 ls1 [])) :
    W p l e room_1 s m #[Value.ref b] below meth c H locs cells slots Q (F0 m 1081 ls []) := by
  obtain ⟨u, hu, eu⟩ := z2_ex (xs (5 * k + 1))
  have b4 := hI.2.1
  refine lv_aload_n hx hb dL_law_1081 rfl (lv_at hl 1 rfl) ?_
  refine lv_aload_n hx hb dL_law_1082 rfl (lv_at hl 0 rfl) ?_
  refine lv_iload hx hb dL_law_1083 (lv_at hl 4 rfl) ?_
  refine b_iconst hx hb dL_law_1085 ?_
  refine b_iadd hx hb dL_law_1086 ?_
  refine g_scr hx hb hX hbl hbA hS (5 * k + 1) ⟨by omega, by omega, by omega⟩ eu dL_law_1087 ?_
  refine lv_aload_n hx hb dL_law_1088 rfl (lv_at hl 3 rfl) ?_
  refine g_run (vx_runSX (As := [.ref bx, .int (z2 (u)), .ref (bx + 75)]) (rest := []) ⟨hx, hb, hml, hown, hts⟩ (w_isSound l D ks bx ml X _ hP hI.2.1 hst ho (u) hu) (vx_cwSW 3 hts gL_law_L_isSound rfl rfl rfl (by decide +kernel) ⟨Nat.le_of_ble_eq_true rfl, Nat.le_of_ble_eq_true rfl⟩) (g_preS hG hS (fun _ h => h)) rfl rfl hl.1 rfl (lv_room (Nat.le_of_ble_eq_true rfl)) dL_law_1089 ⟨by show cells + 1 ≤ room_1.cells; omega, by show slots + 6 ≤ room_1.slots; omega⟩) hS (fun q h => rw_ge q h) (fun _ _ _ _ _ h => h.elim) (fun v H locs hp hz9 hk9 hS => ?_)
  obtain ⟨z, r, Y, hco, rfl, ⟨ml1, hP⟩, f1, ho, hf⟩ := hp
  have hM := hM.keep (fun q h1 h2 h3 => hk9 q h1 (fun h => h.elim (fun r => absurd r.2 (by omega)) (fun r => by omega)))
  have hz := z_isSound hco
  refine W.eq (g2 := F0 m 1092 ls [.int (z2 (z))]) rfl ?_
  refine lv_istore (lv' := [(5, .int (z2 (z))), (0, .ref b), (1, .ref bx), (2, .ref (bx + 55)), (3, .ref (bx + 75)), (4, .int (z2 (5 * ((k : Nat) : Int))))]) hx hb dL_law_1092 hl (by decide) rfl (fun ls hl => ?_)
  refine lv_aload_n hx hb dL_law_1094 rfl (lv_at hl 3 rfl) ?_
  refine lv_aload_n hx hb dL_law_1095 rfl (lv_at hl 1 rfl) ?_
  refine lv_iload hx hb dL_law_1096 (lv_at hl 5 rfl) ?_
  refine b_iconst hx hb dL_law_1098 ?_
  refine b_iadd hx hb dL_law_1099 ?_
  refine g_scr hx hb hX hbl hbA hS (5 * k + 1) ⟨by omega, by omega, by omega⟩ eu dL_law_1100 ?_
  refine g_run (vx_runV (As := [.int (z2 (u))]) (rest := []) ⟨hx, hb, hml, hown, hts⟩ (m_isSound l D ks bx (bx + 55) (by omega) S _ hM hI.2.2.2 (u) hu) (cwV 1 hts gL_law_X5_isSound rfl rfl rfl (by decide +kernel) ⟨Nat.le_of_ble_eq_true rfl, Nat.le_of_ble_eq_true rfl⟩) (g_preV (r := (RX5, TX5, 23)) hG hS (fun _ h => h) hM.1 rfl) rfl rfl hl.1 rfl (lv_room (Nat.le_of_ble_eq_true rfl)) dL_law_1101 ⟨by show cells + 1 + 0 ≤ room_1.cells; omega, by show slots + 6 + 0 ≤ room_1.slots; omega⟩) hS (fun q h => rm_ge (bx := bx) (by omega) q h) (fun _ _ _ _ _ h => h.elim) (fun v H locs hp hz9 hk9 hS => ?_)
  obtain ⟨q, T, hro, rfl, hM⟩ := hp
  have hP := hP.keep (fun q h1 h2 => hk9 q h1 (fun h => by have h3 := h.1; have h4 := h.2; omega))
  have ho := ho.kept (hk9 _ ho.lt (fun h => absurd h.2 (by omega)))
  obtain ⟨c1, c2, hJ⟩ := cs_isSound hI hco hro
  refine W.eq (g2 := F0 m 1104 ls [.int (z2 (q))]) rfl ?_
  refine lv_istore (lv' := [(6, .int (z2 (q))), (5, .int (z2 (z))), (0, .ref b), (1, .ref bx), (2, .ref (bx + 55)), (3, .ref (bx + 75)), (4, .int (z2 (5 * ((k : Nat) : Int))))]) hx hb dL_law_1104 hl (by decide) rfl (fun ls hl => ?_)
  refine lv_aload_n hx hb dL_law_1106 rfl (lv_at hl 4 rfl) ?_
  refine g_run (vx_runV (As := []) (rest := []) ⟨hx, hb, hml, hown, hts⟩ (m_thrown l D ks bx (bx + 55) (by omega) T _ hM hJ.2.2.2) (cwV 0 hts gL_law_X5_thrown rfl rfl rfl (by decide +kernel) ⟨Nat.le_of_ble_eq_true rfl, Nat.le_of_ble_eq_true rfl⟩) (g_preV (r := (RX5, TX5, 23)) hG hS (fun _ h => h) hM.1 rfl) rfl rfl hl.1 rfl (lv_room (Nat.le_of_ble_eq_true rfl)) dL_law_1107 ⟨by show cells + 1 + 0 + 0 ≤ room_1.cells; omega, by show slots + 6 + 0 + 0 ≤ room_1.slots; omega⟩) hS (fun q h => rm_ge (bx := bx) (by omega) q h) (fun _ _ _ _ _ h => h.elim) (fun v H locs hp hz9 hk9 hS => ?_)
  obtain ⟨rfl, hH9⟩ := hp
  obtain rfl := hH9.symm
  rw [c1]
  refine W.eq (g2 := F0 m 1110 ls [.int (z2 (z))]) rfl ?_
  refine lv_iload hx hb dL_law_1110 (lv_at hl 1 rfl) ?_
  refine lv_icmp_eq (tgt := 1117) hx hb dL_law_1112 (by decide) (fun _ => ?_) (fun c => absurd rfl c)
  refine lv_iload hx hb dL_law_1117 (lv_at hl 1 rfl) ?_
  refine b_if_ne (tgt := 1141) hx hb dL_law_1119 (by decide) ⟨by omega, by omega⟩ (fun c_z => ?_) (fun c_z => ?_)
  · skip
    refine lv_goto (tgt := 1505) hx hb dL_law_1141 (by decide) ?_
    refine W.widen (k := cells + 4) (n := slots + 24) (by show cells + 1 + 0 + 0 ≤ cells + 4; omega) (by show slots + 6 + 0 + 0 ≤ slots + 24; omega) ?_
    exact kk _ _ _ _ _ _ _ hJ hP hM ho hS (lv_sub hl [2, 3, 4, 5, 6] rfl)
  · skip
    have hrq := c2 c_z
    have hf0 := hf c_z
    have r01 := r_isSound hI.2.1 hco c_z
    refine lv_aload_n hx hb dL_law_1122 rfl (lv_at hl 5 rfl) ?_
    refine b_iconst hx hb dL_law_1123 ?_
    refine g_lald (n := 1) hx hb hG ho 0 ⟨rfl, by decide, by decide⟩ dL_law_1124 ?_
    refine lv_iload hx hb dL_law_1125 (lv_at hl 0 rfl) ?_
    refine b_if_eq (tgt := 1134) hx hb dL_law_1127 (by decide) ⟨by omega, by omega⟩ (fun c_b => ?_) (fun c_b => ?_)
    · skip
      refine lv_lconst (v := l2 0) hx hb dL_law_1134 (by decide +kernel) ?_
      refine W.lcmp hx hb dL_law_1135 ?_
      refine b_top (v := 0) (lg_self (hf0.trans (congrArg l2 (show r = 0 by omega)))) ?_
      refine b_if_eq (tgt := 1141) hx hb dL_law_1136 (by decide) ⟨by omega, by omega⟩ (fun _ => ?_) (fun c => absurd rfl c)
      refine lv_goto (tgt := 1505) hx hb dL_law_1141 (by decide) ?_
      refine W.widen (k := cells + 4) (n := slots + 24) (by show cells + 1 + 0 + 0 ≤ cells + 4; omega) (by show slots + 6 + 0 + 0 ≤ slots + 24; omega) ?_
      exact kk _ _ _ _ _ _ _ hJ hP hM ho hS (lv_sub hl [2, 3, 4, 5, 6] rfl)
    · skip
      refine lv_lconst (v := l2 1) hx hb dL_law_1130 (by decide +kernel) ?_
      refine lv_goto (tgt := 1135) hx hb dL_law_1131 (by decide) ?_
      refine W.lcmp hx hb dL_law_1135 ?_
      refine b_top (v := 0) (lg_self (hf0.trans (congrArg l2 (show r = 1 by omega)))) ?_
      refine b_if_eq (tgt := 1141) hx hb dL_law_1136 (by decide) ⟨by omega, by omega⟩ (fun _ => ?_) (fun c => absurd rfl c)
      refine lv_goto (tgt := 1505) hx hb dL_law_1141 (by decide) ?_
      refine W.widen (k := cells + 4) (n := slots + 24) (by show cells + 1 + 0 + 0 ≤ cells + 4; omega) (by show slots + 6 + 0 + 0 ≤ slots + 24; omega) ?_
      exact kk _ _ _ _ _ _ _ hJ hP hM ho hS (lv_sub hl [2, 3, 4, 5, 6] rfl)
set_option maxHeartbeats 4000000 in
set_option maxRecDepth 100000 in
theorem c_ringsLeft {p : Program} {e : Env} {s : State} {m : MethodId} {below : List Frame} {meth : Method} {c : Code} (l : Launch) (hst : l.stackTraces = false) {D : va_G} {ks : Nat → ClassId} {b bx nL k : Nat} {xs : Nat → Int32} {Q : State → Prop} (hx : p.tables.exec = Jvm.exec) (hb : c.code = cL_law) (hml : c.maxLocals = 8) (hown : s.vm.findClass RL = some m.cls) (hts : ∀ w ∈ wsL_law, w.before #[Value.ref b] s = true) (hX : va_X b nL xs s s.heap) (hbl : b < s.heap.size) (hG : GE D ks bx s) (hbA : ¬ AR (RC bx) s.heap.size b) (hL : nL ≤ 2560) (hk : 5 * k + 5 ≤ nL) {H : Heap} {locs : List Loc} {ls : Array Slot} {cells slots : Nat} (hcs : cells + 10 ≤ room_1.cells ∧ slots + 60 ≤ room_1.slots)
    {ml : Nat → Nat} {X S : Nat → Nat → Int} {fo : Nat → Int64} (hI : IV X S) (hP : PX D ks bx ml X H) (hM : PM D ks (bx + 55) S H) (ho : ca D (bx + 75) (jA (ks 1) 1 fo) H) (hS : va_S (AR (RC bx) s.heap.size) s.heap H locs) (hl : lv_has ls 8 [(0, .ref b), (1, .ref bx), (2, .ref (bx + 55)), (3, .ref (bx + 75)), (4, .int (z2 (5 * ((k : Nat) : Int))))])
    (kk : ∀ (ml1 : Nat → Nat) (X1 S1 : Nat → Nat → Int) (f1 : Nat → Int64) (H1 : Heap) (locs1 : List Loc) (ls1 : Array Slot), IV X1 S1 → PX D ks bx ml1 X1 H1 → PM D ks (bx + 55) S1 H1 → ca D (bx + 75) (jA (ks 1) 1 f1) H1 → va_S (AR (RC bx) s.heap.size) s.heap H1 locs1 → lv_has ls1 8 [(0, .ref b), (1, .ref bx), (2, .ref (bx + 55)), (3, .ref (bx + 75)), (4, .int (z2 (5 * ((k : Nat) : Int))))] → W p l e room_1 s m #[Value.ref b] below meth c H1 locs1 (cells + 4) (slots + 24) Q (F0 m 1505 ls1 [])) :
    W p l e room_1 s m #[Value.ref b] below meth c H locs cells slots Q (F0 m 1144 ls []) := by
  obtain ⟨u, hu, eu⟩ := z2_ex (xs (5 * k + 1))
  obtain ⟨v2, hv2, ev2⟩ := z2_ex (xs (5 * k + 2))
  have b4 := hI.2.1
  refine lv_aload_n hx hb dL_law_1144 rfl (lv_at hl 1 rfl) ?_
  refine lv_aload_n hx hb dL_law_1145 rfl (lv_at hl 0 rfl) ?_
  refine lv_iload hx hb dL_law_1146 (lv_at hl 4 rfl) ?_
  refine b_iconst hx hb dL_law_1148 ?_
  refine b_iadd hx hb dL_law_1149 ?_
  refine g_scr hx hb hX hbl hbA hS (5 * k + 1) ⟨by omega, by omega, by omega⟩ eu dL_law_1150 ?_
  refine lv_aload_n hx hb dL_law_1151 rfl (lv_at hl 0 rfl) ?_
  refine lv_iload hx hb dL_law_1152 (lv_at hl 4 rfl) ?_
  refine b_iconst hx hb dL_law_1154 ?_
  refine b_iadd hx hb dL_law_1155 ?_
  refine g_scr hx hb hX hbl hbA hS (5 * k + 2) ⟨by omega, by omega, by omega⟩ ev2 dL_law_1156 ?_
  refine lv_aload_n hx hb dL_law_1157 rfl (lv_at hl 3 rfl) ?_
  refine g_run (vx_runSX (As := [.ref bx, .int (z2 (u)), .int (z2 (v2)), .ref (bx + 75)]) (rest := []) ⟨hx, hb, hml, hown, hts⟩ (w_ringsLeft l D ks bx ml X _ hP hI.2.1 hst ho (u) (v2) hu hv2) (vx_cwSW 4 hts gL_law_L_ringsLeft rfl rfl rfl (by decide +kernel) ⟨Nat.le_of_ble_eq_true rfl, Nat.le_of_ble_eq_true rfl⟩) (g_preS hG hS (fun _ h => h)) rfl rfl hl.1 rfl (lv_room (Nat.le_of_ble_eq_true rfl)) dL_law_1158 ⟨by show cells + 2 ≤ room_1.cells; omega, by show slots + 12 ≤ room_1.slots; omega⟩) hS (fun q h => rw_ge q h) (fun _ _ _ _ _ h => h.elim) (fun v H locs hp hz9 hk9 hS => ?_)
  obtain ⟨z, r, Y, hco, rfl, ⟨ml1, hP⟩, f1, ho, hf⟩ := hp
  have hM := hM.keep (fun q h1 h2 h3 => hk9 q h1 (fun h => h.elim (fun r => absurd r.2 (by omega)) (fun r => by omega)))
  have hz := z_ringsLeft hco
  refine W.eq (g2 := F0 m 1161 ls [.int (z2 (z))]) rfl ?_
  refine lv_istore (lv' := [(5, .int (z2 (z))), (0, .ref b), (1, .ref bx), (2, .ref (bx + 55)), (3, .ref (bx + 75)), (4, .int (z2 (5 * ((k : Nat) : Int))))]) hx hb dL_law_1161 hl (by decide) rfl (fun ls hl => ?_)
  refine lv_aload_n hx hb dL_law_1163 rfl (lv_at hl 3 rfl) ?_
  refine lv_aload_n hx hb dL_law_1164 rfl (lv_at hl 1 rfl) ?_
  refine lv_iload hx hb dL_law_1165 (lv_at hl 5 rfl) ?_
  refine b_iconst hx hb dL_law_1167 ?_
  refine b_iadd hx hb dL_law_1168 ?_
  refine g_scr hx hb hX hbl hbA hS (5 * k + 1) ⟨by omega, by omega, by omega⟩ eu dL_law_1169 ?_
  refine lv_aload_n hx hb dL_law_1170 rfl (lv_at hl 1 rfl) ?_
  refine lv_iload hx hb dL_law_1171 (lv_at hl 5 rfl) ?_
  refine b_iconst hx hb dL_law_1173 ?_
  refine b_iadd hx hb dL_law_1174 ?_
  refine g_scr hx hb hX hbl hbA hS (5 * k + 2) ⟨by omega, by omega, by omega⟩ ev2 dL_law_1175 ?_
  refine g_run (vx_runV (As := [.int (z2 (u)), .int (z2 (v2))]) (rest := []) ⟨hx, hb, hml, hown, hts⟩ (m_ringsLeft l D ks bx (bx + 55) (by omega) S _ hM hI.2.2.2 (u) (v2) hu hv2) (cwV 2 hts gL_law_X5_ringsLeft rfl rfl rfl (by decide +kernel) ⟨Nat.le_of_ble_eq_true rfl, Nat.le_of_ble_eq_true rfl⟩) (g_preV (r := (RX5, TX5, 23)) hG hS (fun _ h => h) hM.1 rfl) rfl rfl hl.1 rfl (lv_room (Nat.le_of_ble_eq_true rfl)) dL_law_1176 ⟨by show cells + 2 + 0 ≤ room_1.cells; omega, by show slots + 12 + 0 ≤ room_1.slots; omega⟩) hS (fun q h => rm_ge (bx := bx) (by omega) q h) (fun _ _ _ _ _ h => h.elim) (fun v H locs hp hz9 hk9 hS => ?_)
  obtain ⟨q, T, hro, rfl, hM⟩ := hp
  have hP := hP.keep (fun q h1 h2 => hk9 q h1 (fun h => by have h3 := h.1; have h4 := h.2; omega))
  have ho := ho.kept (hk9 _ ho.lt (fun h => absurd h.2 (by omega)))
  obtain ⟨c1, c2, hJ⟩ := cs_ringsLeft hI hco hro
  refine W.eq (g2 := F0 m 1179 ls [.int (z2 (q))]) rfl ?_
  refine lv_istore (lv' := [(6, .int (z2 (q))), (5, .int (z2 (z))), (0, .ref b), (1, .ref bx), (2, .ref (bx + 55)), (3, .ref (bx + 75)), (4, .int (z2 (5 * ((k : Nat) : Int))))]) hx hb dL_law_1179 hl (by decide) rfl (fun ls hl => ?_)
  refine lv_aload_n hx hb dL_law_1181 rfl (lv_at hl 4 rfl) ?_
  refine g_run (vx_runV (As := []) (rest := []) ⟨hx, hb, hml, hown, hts⟩ (m_thrown l D ks bx (bx + 55) (by omega) T _ hM hJ.2.2.2) (cwV 0 hts gL_law_X5_thrown rfl rfl rfl (by decide +kernel) ⟨Nat.le_of_ble_eq_true rfl, Nat.le_of_ble_eq_true rfl⟩) (g_preV (r := (RX5, TX5, 23)) hG hS (fun _ h => h) hM.1 rfl) rfl rfl hl.1 rfl (lv_room (Nat.le_of_ble_eq_true rfl)) dL_law_1182 ⟨by show cells + 2 + 0 + 0 ≤ room_1.cells; omega, by show slots + 12 + 0 + 0 ≤ room_1.slots; omega⟩) hS (fun q h => rm_ge (bx := bx) (by omega) q h) (fun _ _ _ _ _ h => h.elim) (fun v H locs hp hz9 hk9 hS => ?_)
  obtain ⟨rfl, hH9⟩ := hp
  obtain rfl := hH9.symm
  rw [c1]
  refine W.eq (g2 := F0 m 1185 ls [.int (z2 (z))]) rfl ?_
  refine lv_iload hx hb dL_law_1185 (lv_at hl 1 rfl) ?_
  refine lv_icmp_eq (tgt := 1192) hx hb dL_law_1187 (by decide) (fun _ => ?_) (fun c => absurd rfl c)
  refine lv_iload hx hb dL_law_1192 (lv_at hl 1 rfl) ?_
  refine b_if_ne (tgt := 1209) hx hb dL_law_1194 (by decide) ⟨by omega, by omega⟩ (fun c_z => ?_) (fun c_z => ?_)
  · skip
    refine lv_goto (tgt := 1505) hx hb dL_law_1209 (by decide) ?_
    refine W.widen (k := cells + 4) (n := slots + 24) (by show cells + 2 + 0 + 0 ≤ cells + 4; omega) (by show slots + 12 + 0 + 0 ≤ slots + 24; omega) ?_
    exact kk _ _ _ _ _ _ _ hJ hP hM ho hS (lv_sub hl [2, 3, 4, 5, 6] rfl)
  · skip
    have hrq := c2 c_z
    have hf0 := hf c_z
    refine lv_aload_n hx hb dL_law_1197 rfl (lv_at hl 5 rfl) ?_
    refine b_iconst hx hb dL_law_1198 ?_
    refine g_lald (n := 1) hx hb hG ho 0 ⟨rfl, by decide, by decide⟩ dL_law_1199 ?_
    refine lv_iload hx hb dL_law_1200 (lv_at hl 0 rfl) ?_
    refine lv_i2l (v := (z2 (q)).toInt64) hx hb dL_law_1202 rfl ?_
    refine W.lcmp hx hb dL_law_1203 ?_
    refine b_top (v := 0) (lg_self (hf0.trans (congrArg (fun z => (z2 z).toInt64) hrq))) ?_
    refine b_if_eq (tgt := 1209) hx hb dL_law_1204 (by decide) ⟨by omega, by omega⟩ (fun _ => ?_) (fun c => absurd rfl c)
    refine lv_goto (tgt := 1505) hx hb dL_law_1209 (by decide) ?_
    refine W.widen (k := cells + 4) (n := slots + 24) (by show cells + 2 + 0 + 0 ≤ cells + 4; omega) (by show slots + 12 + 0 + 0 ≤ slots + 24; omega) ?_
    exact kk _ _ _ _ _ _ _ hJ hP hM ho hS (lv_sub hl [2, 3, 4, 5, 6] rfl)
set_option maxHeartbeats 4000000 in
set_option maxRecDepth 100000 in
theorem c_points {p : Program} {e : Env} {s : State} {m : MethodId} {below : List Frame} {meth : Method} {c : Code} (l : Launch) (hst : l.stackTraces = false) {D : va_G} {ks : Nat → ClassId} {b bx nL k : Nat} {xs : Nat → Int32} {Q : State → Prop} (hx : p.tables.exec = Jvm.exec) (hb : c.code = cL_law) (hml : c.maxLocals = 8) (hown : s.vm.findClass RL = some m.cls) (hts : ∀ w ∈ wsL_law, w.before #[Value.ref b] s = true) (hX : va_X b nL xs s s.heap) (hbl : b < s.heap.size) (hG : GE D ks bx s) (hbA : ¬ AR (RC bx) s.heap.size b) (hL : nL ≤ 2560) (hk : 5 * k + 5 ≤ nL) {H : Heap} {locs : List Loc} {ls : Array Slot} {cells slots : Nat} (hcs : cells + 10 ≤ room_1.cells ∧ slots + 60 ≤ room_1.slots)
    {ml : Nat → Nat} {X S : Nat → Nat → Int} {fo : Nat → Int64} (hI : IV X S) (hP : PX D ks bx ml X H) (hM : PM D ks (bx + 55) S H) (ho : ca D (bx + 75) (jA (ks 1) 1 fo) H) (hS : va_S (AR (RC bx) s.heap.size) s.heap H locs) (hl : lv_has ls 8 [(0, .ref b), (1, .ref bx), (2, .ref (bx + 55)), (3, .ref (bx + 75)), (4, .int (z2 (5 * ((k : Nat) : Int))))])
    (kk : ∀ (ml1 : Nat → Nat) (X1 S1 : Nat → Nat → Int) (f1 : Nat → Int64) (H1 : Heap) (locs1 : List Loc) (ls1 : Array Slot), IV X1 S1 → PX D ks bx ml1 X1 H1 → PM D ks (bx + 55) S1 H1 → ca D (bx + 75) (jA (ks 1) 1 f1) H1 → va_S (AR (RC bx) s.heap.size) s.heap H1 locs1 → lv_has ls1 8 [(0, .ref b), (1, .ref bx), (2, .ref (bx + 55)), (3, .ref (bx + 75)), (4, .int (z2 (5 * ((k : Nat) : Int))))] → W p l e room_1 s m #[Value.ref b] below meth c H1 locs1 (cells + 4) (slots + 24) Q (F0 m 1505 ls1 [])) :
    W p l e room_1 s m #[Value.ref b] below meth c H locs cells slots Q (F0 m 1212 ls []) := by
  obtain ⟨u, hu, eu⟩ := z2_ex (xs (5 * k + 1))
  have b4 := hI.2.1
  refine lv_aload_n hx hb dL_law_1212 rfl (lv_at hl 1 rfl) ?_
  refine lv_aload_n hx hb dL_law_1213 rfl (lv_at hl 0 rfl) ?_
  refine lv_iload hx hb dL_law_1214 (lv_at hl 4 rfl) ?_
  refine b_iconst hx hb dL_law_1216 ?_
  refine b_iadd hx hb dL_law_1217 ?_
  refine g_scr hx hb hX hbl hbA hS (5 * k + 1) ⟨by omega, by omega, by omega⟩ eu dL_law_1218 ?_
  refine lv_aload_n hx hb dL_law_1219 rfl (lv_at hl 3 rfl) ?_
  refine g_run (vx_runSX (As := [.ref bx, .int (z2 (u)), .ref (bx + 75)]) (rest := []) ⟨hx, hb, hml, hown, hts⟩ (w_points l D ks bx ml X _ hP hI.2.1 hst ho (u) hu) (vx_cwSW 3 hts gL_law_L_points rfl rfl rfl (by decide +kernel) ⟨Nat.le_of_ble_eq_true rfl, Nat.le_of_ble_eq_true rfl⟩) (g_preS hG hS (fun _ h => h)) rfl rfl hl.1 rfl (lv_room (Nat.le_of_ble_eq_true rfl)) dL_law_1220 ⟨by show cells + 1 ≤ room_1.cells; omega, by show slots + 6 ≤ room_1.slots; omega⟩) hS (fun q h => rw_ge q h) (fun _ _ _ _ _ h => h.elim) (fun v H locs hp hz9 hk9 hS => ?_)
  obtain ⟨z, r, Y, hco, rfl, ⟨ml1, hP⟩, f1, ho, hf⟩ := hp
  have hM := hM.keep (fun q h1 h2 h3 => hk9 q h1 (fun h => h.elim (fun r => absurd r.2 (by omega)) (fun r => by omega)))
  have hz := z_points hco
  refine W.eq (g2 := F0 m 1223 ls [.int (z2 (z))]) rfl ?_
  refine lv_istore (lv' := [(5, .int (z2 (z))), (0, .ref b), (1, .ref bx), (2, .ref (bx + 55)), (3, .ref (bx + 75)), (4, .int (z2 (5 * ((k : Nat) : Int))))]) hx hb dL_law_1223 hl (by decide) rfl (fun ls hl => ?_)
  refine lv_aload_n hx hb dL_law_1225 rfl (lv_at hl 3 rfl) ?_
  refine lv_aload_n hx hb dL_law_1226 rfl (lv_at hl 1 rfl) ?_
  refine lv_iload hx hb dL_law_1227 (lv_at hl 5 rfl) ?_
  refine b_iconst hx hb dL_law_1229 ?_
  refine b_iadd hx hb dL_law_1230 ?_
  refine g_scr hx hb hX hbl hbA hS (5 * k + 1) ⟨by omega, by omega, by omega⟩ eu dL_law_1231 ?_
  refine g_run (vx_runV (As := [.int (z2 (u))]) (rest := []) ⟨hx, hb, hml, hown, hts⟩ (m_points l D ks bx (bx + 55) (by omega) S _ hM hI.2.2.2 (u) hu) (cwV 1 hts gL_law_X5_points rfl rfl rfl (by decide +kernel) ⟨Nat.le_of_ble_eq_true rfl, Nat.le_of_ble_eq_true rfl⟩) (g_preV (r := (RX5, TX5, 23)) hG hS (fun _ h => h) hM.1 rfl) rfl rfl hl.1 rfl (lv_room (Nat.le_of_ble_eq_true rfl)) dL_law_1232 ⟨by show cells + 1 + 0 ≤ room_1.cells; omega, by show slots + 6 + 0 ≤ room_1.slots; omega⟩) hS (fun q h => rm_ge (bx := bx) (by omega) q h) (fun _ _ _ _ _ h => h.elim) (fun v H locs hp hz9 hk9 hS => ?_)
  obtain ⟨q, T, hro, rfl, hM⟩ := hp
  have hP := hP.keep (fun q h1 h2 => hk9 q h1 (fun h => by have h3 := h.1; have h4 := h.2; omega))
  have ho := ho.kept (hk9 _ ho.lt (fun h => absurd h.2 (by omega)))
  obtain ⟨c1, c2, hJ⟩ := cs_points hI hco hro
  refine W.eq (g2 := F0 m 1235 ls [.int (z2 (q))]) rfl ?_
  refine lv_istore (lv' := [(6, .int (z2 (q))), (5, .int (z2 (z))), (0, .ref b), (1, .ref bx), (2, .ref (bx + 55)), (3, .ref (bx + 75)), (4, .int (z2 (5 * ((k : Nat) : Int))))]) hx hb dL_law_1235 hl (by decide) rfl (fun ls hl => ?_)
  refine lv_aload_n hx hb dL_law_1237 rfl (lv_at hl 4 rfl) ?_
  refine g_run (vx_runV (As := []) (rest := []) ⟨hx, hb, hml, hown, hts⟩ (m_thrown l D ks bx (bx + 55) (by omega) T _ hM hJ.2.2.2) (cwV 0 hts gL_law_X5_thrown rfl rfl rfl (by decide +kernel) ⟨Nat.le_of_ble_eq_true rfl, Nat.le_of_ble_eq_true rfl⟩) (g_preV (r := (RX5, TX5, 23)) hG hS (fun _ h => h) hM.1 rfl) rfl rfl hl.1 rfl (lv_room (Nat.le_of_ble_eq_true rfl)) dL_law_1238 ⟨by show cells + 1 + 0 + 0 ≤ room_1.cells; omega, by show slots + 6 + 0 + 0 ≤ room_1.slots; omega⟩) hS (fun q h => rm_ge (bx := bx) (by omega) q h) (fun _ _ _ _ _ h => h.elim) (fun v H locs hp hz9 hk9 hS => ?_)
  obtain ⟨rfl, hH9⟩ := hp
  obtain rfl := hH9.symm
  rw [c1]
  refine W.eq (g2 := F0 m 1241 ls [.int (z2 (z))]) rfl ?_
  refine lv_iload hx hb dL_law_1241 (lv_at hl 1 rfl) ?_
  refine lv_icmp_eq (tgt := 1248) hx hb dL_law_1243 (by decide) (fun _ => ?_) (fun c => absurd rfl c)
  refine lv_iload hx hb dL_law_1248 (lv_at hl 1 rfl) ?_
  refine b_if_ne (tgt := 1265) hx hb dL_law_1250 (by decide) ⟨by omega, by omega⟩ (fun c_z => ?_) (fun c_z => ?_)
  · skip
    refine lv_goto (tgt := 1505) hx hb dL_law_1265 (by decide) ?_
    refine W.widen (k := cells + 4) (n := slots + 24) (by show cells + 1 + 0 + 0 ≤ cells + 4; omega) (by show slots + 6 + 0 + 0 ≤ slots + 24; omega) ?_
    exact kk _ _ _ _ _ _ _ hJ hP hM ho hS (lv_sub hl [2, 3, 4, 5, 6] rfl)
  · skip
    have hrq := c2 c_z
    have hf0 := hf c_z
    refine lv_aload_n hx hb dL_law_1253 rfl (lv_at hl 5 rfl) ?_
    refine b_iconst hx hb dL_law_1254 ?_
    refine g_lald (n := 1) hx hb hG ho 0 ⟨rfl, by decide, by decide⟩ dL_law_1255 ?_
    refine lv_iload hx hb dL_law_1256 (lv_at hl 0 rfl) ?_
    refine lv_i2l (v := (z2 (q)).toInt64) hx hb dL_law_1258 rfl ?_
    refine W.lcmp hx hb dL_law_1259 ?_
    refine b_top (v := 0) (lg_self (hf0.trans (congrArg (fun z => (z2 z).toInt64) hrq))) ?_
    refine b_if_eq (tgt := 1265) hx hb dL_law_1260 (by decide) ⟨by omega, by omega⟩ (fun _ => ?_) (fun c => absurd rfl c)
    refine lv_goto (tgt := 1505) hx hb dL_law_1265 (by decide) ?_
    refine W.widen (k := cells + 4) (n := slots + 24) (by show cells + 1 + 0 + 0 ≤ cells + 4; omega) (by show slots + 6 + 0 + 0 ≤ slots + 24; omega) ?_
    exact kk _ _ _ _ _ _ _ hJ hP hM ho hS (lv_sub hl [2, 3, 4, 5, 6] rfl)
set_option maxHeartbeats 4000000 in
set_option maxRecDepth 100000 in
theorem c_secondsRung {p : Program} {e : Env} {s : State} {m : MethodId} {below : List Frame} {meth : Method} {c : Code} (l : Launch) (hst : l.stackTraces = false) {D : va_G} {ks : Nat → ClassId} {b bx nL k : Nat} {xs : Nat → Int32} {Q : State → Prop} (hx : p.tables.exec = Jvm.exec) (hb : c.code = cL_law) (hml : c.maxLocals = 8) (hown : s.vm.findClass RL = some m.cls) (hts : ∀ w ∈ wsL_law, w.before #[Value.ref b] s = true) (hX : va_X b nL xs s s.heap) (hbl : b < s.heap.size) (hG : GE D ks bx s) (hbA : ¬ AR (RC bx) s.heap.size b) (hL : nL ≤ 2560) (hk : 5 * k + 5 ≤ nL) {H : Heap} {locs : List Loc} {ls : Array Slot} {cells slots : Nat} (hcs : cells + 10 ≤ room_1.cells ∧ slots + 60 ≤ room_1.slots)
    {ml : Nat → Nat} {X S : Nat → Nat → Int} {fo : Nat → Int64} (hI : IV X S) (hP : PX D ks bx ml X H) (hM : PM D ks (bx + 55) S H) (ho : ca D (bx + 75) (jA (ks 1) 1 fo) H) (hS : va_S (AR (RC bx) s.heap.size) s.heap H locs) (hl : lv_has ls 8 [(0, .ref b), (1, .ref bx), (2, .ref (bx + 55)), (3, .ref (bx + 75)), (4, .int (z2 (5 * ((k : Nat) : Int))))])
    (kk : ∀ (ml1 : Nat → Nat) (X1 S1 : Nat → Nat → Int) (f1 : Nat → Int64) (H1 : Heap) (locs1 : List Loc) (ls1 : Array Slot), IV X1 S1 → PX D ks bx ml1 X1 H1 → PM D ks (bx + 55) S1 H1 → ca D (bx + 75) (jA (ks 1) 1 f1) H1 → va_S (AR (RC bx) s.heap.size) s.heap H1 locs1 → lv_has ls1 8 [(0, .ref b), (1, .ref bx), (2, .ref (bx + 55)), (3, .ref (bx + 75)), (4, .int (z2 (5 * ((k : Nat) : Int))))] → W p l e room_1 s m #[Value.ref b] below meth c H1 locs1 (cells + 4) (slots + 24) Q (F0 m 1505 ls1 [])) :
    W p l e room_1 s m #[Value.ref b] below meth c H locs cells slots Q (F0 m 1268 ls []) := by
  obtain ⟨u, hu, eu⟩ := z2_ex (xs (5 * k + 1))
  have b4 := hI.2.1
  refine lv_aload_n hx hb dL_law_1268 rfl (lv_at hl 1 rfl) ?_
  refine lv_aload_n hx hb dL_law_1269 rfl (lv_at hl 0 rfl) ?_
  refine lv_iload hx hb dL_law_1270 (lv_at hl 4 rfl) ?_
  refine b_iconst hx hb dL_law_1272 ?_
  refine b_iadd hx hb dL_law_1273 ?_
  refine g_scr hx hb hX hbl hbA hS (5 * k + 1) ⟨by omega, by omega, by omega⟩ eu dL_law_1274 ?_
  refine lv_aload_n hx hb dL_law_1275 rfl (lv_at hl 3 rfl) ?_
  refine g_run (vx_runSX (As := [.ref bx, .int (z2 (u)), .ref (bx + 75)]) (rest := []) ⟨hx, hb, hml, hown, hts⟩ (w_secondsRung l D ks bx ml X _ hP hI.2.1 hst ho (u) hu) (vx_cwSW 3 hts gL_law_L_secondsRung rfl rfl rfl (by decide +kernel) ⟨Nat.le_of_ble_eq_true rfl, Nat.le_of_ble_eq_true rfl⟩) (g_preS hG hS (fun _ h => h)) rfl rfl hl.1 rfl (lv_room (Nat.le_of_ble_eq_true rfl)) dL_law_1276 ⟨by show cells + 1 ≤ room_1.cells; omega, by show slots + 6 ≤ room_1.slots; omega⟩) hS (fun q h => rw_ge q h) (fun _ _ _ _ _ h => h.elim) (fun v H locs hp hz9 hk9 hS => ?_)
  obtain ⟨z, r, Y, hco, rfl, ⟨ml1, hP⟩, f1, ho, hf⟩ := hp
  have hM := hM.keep (fun q h1 h2 h3 => hk9 q h1 (fun h => h.elim (fun r => absurd r.2 (by omega)) (fun r => by omega)))
  have hz := z_secondsRung hco
  refine W.eq (g2 := F0 m 1279 ls [.int (z2 (z))]) rfl ?_
  refine lv_istore (lv' := [(5, .int (z2 (z))), (0, .ref b), (1, .ref bx), (2, .ref (bx + 55)), (3, .ref (bx + 75)), (4, .int (z2 (5 * ((k : Nat) : Int))))]) hx hb dL_law_1279 hl (by decide) rfl (fun ls hl => ?_)
  refine lv_aload_n hx hb dL_law_1281 rfl (lv_at hl 3 rfl) ?_
  refine lv_aload_n hx hb dL_law_1282 rfl (lv_at hl 1 rfl) ?_
  refine lv_iload hx hb dL_law_1283 (lv_at hl 5 rfl) ?_
  refine b_iconst hx hb dL_law_1285 ?_
  refine b_iadd hx hb dL_law_1286 ?_
  refine g_scr hx hb hX hbl hbA hS (5 * k + 1) ⟨by omega, by omega, by omega⟩ eu dL_law_1287 ?_
  refine g_run (vx_runV (As := [.int (z2 (u))]) (rest := []) ⟨hx, hb, hml, hown, hts⟩ (m_secondsRung l D ks bx (bx + 55) (by omega) S _ hM hI.2.2.2 (u) hu) (cwV 1 hts gL_law_X5_secondsRung rfl rfl rfl (by decide +kernel) ⟨Nat.le_of_ble_eq_true rfl, Nat.le_of_ble_eq_true rfl⟩) (g_preV (r := (RX5, TX5, 23)) hG hS (fun _ h => h) hM.1 rfl) rfl rfl hl.1 rfl (lv_room (Nat.le_of_ble_eq_true rfl)) dL_law_1288 ⟨by show cells + 1 + 0 ≤ room_1.cells; omega, by show slots + 6 + 0 ≤ room_1.slots; omega⟩) hS (fun q h => rm_ge (bx := bx) (by omega) q h) (fun _ _ _ _ _ h => h.elim) (fun v H locs hp hz9 hk9 hS => ?_)
  obtain ⟨q, T, hro, rfl, hM⟩ := hp
  have hP := hP.keep (fun q h1 h2 => hk9 q h1 (fun h => by have h3 := h.1; have h4 := h.2; omega))
  have ho := ho.kept (hk9 _ ho.lt (fun h => absurd h.2 (by omega)))
  obtain ⟨c1, c2, hJ⟩ := cs_secondsRung hI hco hro
  refine W.eq (g2 := F0 m 1291 ls [.int (z2 (q))]) rfl ?_
  refine lv_istore (lv' := [(6, .int (z2 (q))), (5, .int (z2 (z))), (0, .ref b), (1, .ref bx), (2, .ref (bx + 55)), (3, .ref (bx + 75)), (4, .int (z2 (5 * ((k : Nat) : Int))))]) hx hb dL_law_1291 hl (by decide) rfl (fun ls hl => ?_)
  refine lv_aload_n hx hb dL_law_1293 rfl (lv_at hl 4 rfl) ?_
  refine g_run (vx_runV (As := []) (rest := []) ⟨hx, hb, hml, hown, hts⟩ (m_thrown l D ks bx (bx + 55) (by omega) T _ hM hJ.2.2.2) (cwV 0 hts gL_law_X5_thrown rfl rfl rfl (by decide +kernel) ⟨Nat.le_of_ble_eq_true rfl, Nat.le_of_ble_eq_true rfl⟩) (g_preV (r := (RX5, TX5, 23)) hG hS (fun _ h => h) hM.1 rfl) rfl rfl hl.1 rfl (lv_room (Nat.le_of_ble_eq_true rfl)) dL_law_1294 ⟨by show cells + 1 + 0 + 0 ≤ room_1.cells; omega, by show slots + 6 + 0 + 0 ≤ room_1.slots; omega⟩) hS (fun q h => rm_ge (bx := bx) (by omega) q h) (fun _ _ _ _ _ h => h.elim) (fun v H locs hp hz9 hk9 hS => ?_)
  obtain ⟨rfl, hH9⟩ := hp
  obtain rfl := hH9.symm
  rw [c1]
  refine W.eq (g2 := F0 m 1297 ls [.int (z2 (z))]) rfl ?_
  refine lv_iload hx hb dL_law_1297 (lv_at hl 1 rfl) ?_
  refine lv_icmp_eq (tgt := 1304) hx hb dL_law_1299 (by decide) (fun _ => ?_) (fun c => absurd rfl c)
  refine lv_iload hx hb dL_law_1304 (lv_at hl 1 rfl) ?_
  refine b_if_ne (tgt := 1321) hx hb dL_law_1306 (by decide) ⟨by omega, by omega⟩ (fun c_z => ?_) (fun c_z => ?_)
  · skip
    refine lv_goto (tgt := 1505) hx hb dL_law_1321 (by decide) ?_
    refine W.widen (k := cells + 4) (n := slots + 24) (by show cells + 1 + 0 + 0 ≤ cells + 4; omega) (by show slots + 6 + 0 + 0 ≤ slots + 24; omega) ?_
    exact kk _ _ _ _ _ _ _ hJ hP hM ho hS (lv_sub hl [2, 3, 4, 5, 6] rfl)
  · skip
    have hrq := c2 c_z
    have hf0 := hf c_z
    refine lv_aload_n hx hb dL_law_1309 rfl (lv_at hl 5 rfl) ?_
    refine b_iconst hx hb dL_law_1310 ?_
    refine g_lald (n := 1) hx hb hG ho 0 ⟨rfl, by decide, by decide⟩ dL_law_1311 ?_
    refine lv_iload hx hb dL_law_1312 (lv_at hl 0 rfl) ?_
    refine lv_i2l (v := (z2 (q)).toInt64) hx hb dL_law_1314 rfl ?_
    refine W.lcmp hx hb dL_law_1315 ?_
    refine b_top (v := 0) (lg_self (hf0.trans (congrArg (fun z => (z2 z).toInt64) hrq))) ?_
    refine b_if_eq (tgt := 1321) hx hb dL_law_1316 (by decide) ⟨by omega, by omega⟩ (fun _ => ?_) (fun c => absurd rfl c)
    refine lv_goto (tgt := 1505) hx hb dL_law_1321 (by decide) ?_
    refine W.widen (k := cells + 4) (n := slots + 24) (by show cells + 1 + 0 + 0 ≤ cells + 4; omega) (by show slots + 6 + 0 + 0 ≤ slots + 24; omega) ?_
    exact kk _ _ _ _ _ _ _ hJ hP hM ho hS (lv_sub hl [2, 3, 4, 5, 6] rfl)
set_option maxHeartbeats 4000000 in
set_option maxRecDepth 100000 in
theorem c_quietBroken {p : Program} {e : Env} {s : State} {m : MethodId} {below : List Frame} {meth : Method} {c : Code} (l : Launch) (hst : l.stackTraces = false) {D : va_G} {ks : Nat → ClassId} {b bx nL k : Nat} {xs : Nat → Int32} {Q : State → Prop} (hx : p.tables.exec = Jvm.exec) (hb : c.code = cL_law) (hml : c.maxLocals = 8) (hown : s.vm.findClass RL = some m.cls) (hts : ∀ w ∈ wsL_law, w.before #[Value.ref b] s = true) (hX : va_X b nL xs s s.heap) (hbl : b < s.heap.size) (hG : GE D ks bx s) (hbA : ¬ AR (RC bx) s.heap.size b) (hL : nL ≤ 2560) (hk : 5 * k + 5 ≤ nL) {H : Heap} {locs : List Loc} {ls : Array Slot} {cells slots : Nat} (hcs : cells + 10 ≤ room_1.cells ∧ slots + 60 ≤ room_1.slots)
    {ml : Nat → Nat} {X S : Nat → Nat → Int} {fo : Nat → Int64} (hI : IV X S) (hP : PX D ks bx ml X H) (hM : PM D ks (bx + 55) S H) (ho : ca D (bx + 75) (jA (ks 1) 1 fo) H) (hS : va_S (AR (RC bx) s.heap.size) s.heap H locs) (hl : lv_has ls 8 [(0, .ref b), (1, .ref bx), (2, .ref (bx + 55)), (3, .ref (bx + 75)), (4, .int (z2 (5 * ((k : Nat) : Int))))])
    (kk : ∀ (ml1 : Nat → Nat) (X1 S1 : Nat → Nat → Int) (f1 : Nat → Int64) (H1 : Heap) (locs1 : List Loc) (ls1 : Array Slot), IV X1 S1 → PX D ks bx ml1 X1 H1 → PM D ks (bx + 55) S1 H1 → ca D (bx + 75) (jA (ks 1) 1 f1) H1 → va_S (AR (RC bx) s.heap.size) s.heap H1 locs1 → lv_has ls1 8 [(0, .ref b), (1, .ref bx), (2, .ref (bx + 55)), (3, .ref (bx + 75)), (4, .int (z2 (5 * ((k : Nat) : Int))))] → W p l e room_1 s m #[Value.ref b] below meth c H1 locs1 (cells + 4) (slots + 24) Q (F0 m 1505 ls1 [])) :
    W p l e room_1 s m #[Value.ref b] below meth c H locs cells slots Q (F0 m 1324 ls []) := by
  obtain ⟨u, hu, eu⟩ := z2_ex (xs (5 * k + 1))
  have b4 := hI.2.1
  refine lv_aload_n hx hb dL_law_1324 rfl (lv_at hl 1 rfl) ?_
  refine lv_aload_n hx hb dL_law_1325 rfl (lv_at hl 0 rfl) ?_
  refine lv_iload hx hb dL_law_1326 (lv_at hl 4 rfl) ?_
  refine b_iconst hx hb dL_law_1328 ?_
  refine b_iadd hx hb dL_law_1329 ?_
  refine g_scr hx hb hX hbl hbA hS (5 * k + 1) ⟨by omega, by omega, by omega⟩ eu dL_law_1330 ?_
  refine lv_aload_n hx hb dL_law_1331 rfl (lv_at hl 3 rfl) ?_
  refine g_run (vx_runSX (As := [.ref bx, .int (z2 (u)), .ref (bx + 75)]) (rest := []) ⟨hx, hb, hml, hown, hts⟩ (w_quietBroken l D ks bx ml X _ hP hI.2.1 hst ho (u) hu) (vx_cwSW 3 hts gL_law_L_quietBroken rfl rfl rfl (by decide +kernel) ⟨Nat.le_of_ble_eq_true rfl, Nat.le_of_ble_eq_true rfl⟩) (g_preS hG hS (fun _ h => h)) rfl rfl hl.1 rfl (lv_room (Nat.le_of_ble_eq_true rfl)) dL_law_1332 ⟨by show cells + 1 ≤ room_1.cells; omega, by show slots + 6 ≤ room_1.slots; omega⟩) hS (fun q h => rw_ge q h) (fun _ _ _ _ _ h => h.elim) (fun v H locs hp hz9 hk9 hS => ?_)
  obtain ⟨z, r, Y, hco, rfl, ⟨ml1, hP⟩, f1, ho, hf⟩ := hp
  have hM := hM.keep (fun q h1 h2 h3 => hk9 q h1 (fun h => h.elim (fun r => absurd r.2 (by omega)) (fun r => by omega)))
  have hz := z_quietBroken hco
  refine W.eq (g2 := F0 m 1335 ls [.int (z2 (z))]) rfl ?_
  refine lv_istore (lv' := [(5, .int (z2 (z))), (0, .ref b), (1, .ref bx), (2, .ref (bx + 55)), (3, .ref (bx + 75)), (4, .int (z2 (5 * ((k : Nat) : Int))))]) hx hb dL_law_1335 hl (by decide) rfl (fun ls hl => ?_)
  refine lv_aload_n hx hb dL_law_1337 rfl (lv_at hl 3 rfl) ?_
  refine lv_aload_n hx hb dL_law_1338 rfl (lv_at hl 1 rfl) ?_
  refine lv_iload hx hb dL_law_1339 (lv_at hl 5 rfl) ?_
  refine b_iconst hx hb dL_law_1341 ?_
  refine b_iadd hx hb dL_law_1342 ?_
  refine g_scr hx hb hX hbl hbA hS (5 * k + 1) ⟨by omega, by omega, by omega⟩ eu dL_law_1343 ?_
  refine g_run (vx_runV (As := [.int (z2 (u))]) (rest := []) ⟨hx, hb, hml, hown, hts⟩ (m_quietBroken l D ks bx (bx + 55) (by omega) S _ hM hI.2.2.2 (u) hu) (cwV 1 hts gL_law_X5_quietBroken rfl rfl rfl (by decide +kernel) ⟨Nat.le_of_ble_eq_true rfl, Nat.le_of_ble_eq_true rfl⟩) (g_preV (r := (RX5, TX5, 23)) hG hS (fun _ h => h) hM.1 rfl) rfl rfl hl.1 rfl (lv_room (Nat.le_of_ble_eq_true rfl)) dL_law_1344 ⟨by show cells + 1 + 0 ≤ room_1.cells; omega, by show slots + 6 + 0 ≤ room_1.slots; omega⟩) hS (fun q h => rm_ge (bx := bx) (by omega) q h) (fun _ _ _ _ _ h => h.elim) (fun v H locs hp hz9 hk9 hS => ?_)
  obtain ⟨q, T, hro, rfl, hM⟩ := hp
  have hP := hP.keep (fun q h1 h2 => hk9 q h1 (fun h => by have h3 := h.1; have h4 := h.2; omega))
  have ho := ho.kept (hk9 _ ho.lt (fun h => absurd h.2 (by omega)))
  obtain ⟨c1, c2, hJ⟩ := cs_quietBroken hI hco hro
  refine W.eq (g2 := F0 m 1347 ls [.int (z2 (q))]) rfl ?_
  refine lv_istore (lv' := [(6, .int (z2 (q))), (5, .int (z2 (z))), (0, .ref b), (1, .ref bx), (2, .ref (bx + 55)), (3, .ref (bx + 75)), (4, .int (z2 (5 * ((k : Nat) : Int))))]) hx hb dL_law_1347 hl (by decide) rfl (fun ls hl => ?_)
  refine lv_aload_n hx hb dL_law_1349 rfl (lv_at hl 4 rfl) ?_
  refine g_run (vx_runV (As := []) (rest := []) ⟨hx, hb, hml, hown, hts⟩ (m_thrown l D ks bx (bx + 55) (by omega) T _ hM hJ.2.2.2) (cwV 0 hts gL_law_X5_thrown rfl rfl rfl (by decide +kernel) ⟨Nat.le_of_ble_eq_true rfl, Nat.le_of_ble_eq_true rfl⟩) (g_preV (r := (RX5, TX5, 23)) hG hS (fun _ h => h) hM.1 rfl) rfl rfl hl.1 rfl (lv_room (Nat.le_of_ble_eq_true rfl)) dL_law_1350 ⟨by show cells + 1 + 0 + 0 ≤ room_1.cells; omega, by show slots + 6 + 0 + 0 ≤ room_1.slots; omega⟩) hS (fun q h => rm_ge (bx := bx) (by omega) q h) (fun _ _ _ _ _ h => h.elim) (fun v H locs hp hz9 hk9 hS => ?_)
  obtain ⟨rfl, hH9⟩ := hp
  obtain rfl := hH9.symm
  rw [c1]
  refine W.eq (g2 := F0 m 1353 ls [.int (z2 (z))]) rfl ?_
  refine lv_iload hx hb dL_law_1353 (lv_at hl 1 rfl) ?_
  refine lv_icmp_eq (tgt := 1360) hx hb dL_law_1355 (by decide) (fun _ => ?_) (fun c => absurd rfl c)
  refine lv_iload hx hb dL_law_1360 (lv_at hl 1 rfl) ?_
  refine b_if_ne (tgt := 1377) hx hb dL_law_1362 (by decide) ⟨by omega, by omega⟩ (fun c_z => ?_) (fun c_z => ?_)
  · skip
    refine lv_goto (tgt := 1505) hx hb dL_law_1377 (by decide) ?_
    refine W.widen (k := cells + 4) (n := slots + 24) (by show cells + 1 + 0 + 0 ≤ cells + 4; omega) (by show slots + 6 + 0 + 0 ≤ slots + 24; omega) ?_
    exact kk _ _ _ _ _ _ _ hJ hP hM ho hS (lv_sub hl [2, 3, 4, 5, 6] rfl)
  · skip
    have hrq := c2 c_z
    have hf0 := hf c_z
    refine lv_aload_n hx hb dL_law_1365 rfl (lv_at hl 5 rfl) ?_
    refine b_iconst hx hb dL_law_1366 ?_
    refine g_lald (n := 1) hx hb hG ho 0 ⟨rfl, by decide, by decide⟩ dL_law_1367 ?_
    refine lv_iload hx hb dL_law_1368 (lv_at hl 0 rfl) ?_
    refine lv_i2l (v := (z2 (q)).toInt64) hx hb dL_law_1370 rfl ?_
    refine W.lcmp hx hb dL_law_1371 ?_
    refine b_top (v := 0) (lg_self (hf0.trans (congrArg (fun z => (z2 z).toInt64) hrq))) ?_
    refine b_if_eq (tgt := 1377) hx hb dL_law_1372 (by decide) ⟨by omega, by omega⟩ (fun _ => ?_) (fun c => absurd rfl c)
    refine lv_goto (tgt := 1505) hx hb dL_law_1377 (by decide) ?_
    refine W.widen (k := cells + 4) (n := slots + 24) (by show cells + 1 + 0 + 0 ≤ cells + 4; omega) (by show slots + 6 + 0 + 0 ≤ slots + 24; omega) ?_
    exact kk _ _ _ _ _ _ _ hJ hP hM ho hS (lv_sub hl [2, 3, 4, 5, 6] rfl)
set_option maxHeartbeats 4000000 in
set_option maxRecDepth 100000 in
theorem c_hushed {p : Program} {e : Env} {s : State} {m : MethodId} {below : List Frame} {meth : Method} {c : Code} (l : Launch) (hst : l.stackTraces = false) {D : va_G} {ks : Nat → ClassId} {b bx nL k : Nat} {xs : Nat → Int32} {Q : State → Prop} (hx : p.tables.exec = Jvm.exec) (hb : c.code = cL_law) (hml : c.maxLocals = 8) (hown : s.vm.findClass RL = some m.cls) (hts : ∀ w ∈ wsL_law, w.before #[Value.ref b] s = true) (hX : va_X b nL xs s s.heap) (hbl : b < s.heap.size) (hG : GE D ks bx s) (hbA : ¬ AR (RC bx) s.heap.size b) (hL : nL ≤ 2560) (hk : 5 * k + 5 ≤ nL) {H : Heap} {locs : List Loc} {ls : Array Slot} {cells slots : Nat} (hcs : cells + 10 ≤ room_1.cells ∧ slots + 60 ≤ room_1.slots)
    {ml : Nat → Nat} {X S : Nat → Nat → Int} {fo : Nat → Int64} (hI : IV X S) (hP : PX D ks bx ml X H) (hM : PM D ks (bx + 55) S H) (ho : ca D (bx + 75) (jA (ks 1) 1 fo) H) (hS : va_S (AR (RC bx) s.heap.size) s.heap H locs) (hl : lv_has ls 8 [(0, .ref b), (1, .ref bx), (2, .ref (bx + 55)), (3, .ref (bx + 75)), (4, .int (z2 (5 * ((k : Nat) : Int))))])
    (kk : ∀ (ml1 : Nat → Nat) (X1 S1 : Nat → Nat → Int) (f1 : Nat → Int64) (H1 : Heap) (locs1 : List Loc) (ls1 : Array Slot), IV X1 S1 → PX D ks bx ml1 X1 H1 → PM D ks (bx + 55) S1 H1 → ca D (bx + 75) (jA (ks 1) 1 f1) H1 → va_S (AR (RC bx) s.heap.size) s.heap H1 locs1 → lv_has ls1 8 [(0, .ref b), (1, .ref bx), (2, .ref (bx + 55)), (3, .ref (bx + 75)), (4, .int (z2 (5 * ((k : Nat) : Int))))] → W p l e room_1 s m #[Value.ref b] below meth c H1 locs1 (cells + 4) (slots + 24) Q (F0 m 1505 ls1 [])) :
    W p l e room_1 s m #[Value.ref b] below meth c H locs cells slots Q (F0 m 1380 ls []) := by
  obtain ⟨u, hu, eu⟩ := z2_ex (xs (5 * k + 1))
  have b4 := hI.2.1
  refine lv_aload_n hx hb dL_law_1380 rfl (lv_at hl 1 rfl) ?_
  refine lv_aload_n hx hb dL_law_1381 rfl (lv_at hl 0 rfl) ?_
  refine lv_iload hx hb dL_law_1382 (lv_at hl 4 rfl) ?_
  refine b_iconst hx hb dL_law_1384 ?_
  refine b_iadd hx hb dL_law_1385 ?_
  refine g_scr hx hb hX hbl hbA hS (5 * k + 1) ⟨by omega, by omega, by omega⟩ eu dL_law_1386 ?_
  refine lv_aload_n hx hb dL_law_1387 rfl (lv_at hl 3 rfl) ?_
  refine g_run (vx_runSX (As := [.ref bx, .int (z2 (u)), .ref (bx + 75)]) (rest := []) ⟨hx, hb, hml, hown, hts⟩ (w_hushed l D ks bx ml X _ hP hI.2.1 hst ho (u) hu) (vx_cwSW 3 hts gL_law_L_hushed rfl rfl rfl (by decide +kernel) ⟨Nat.le_of_ble_eq_true rfl, Nat.le_of_ble_eq_true rfl⟩) (g_preS hG hS (fun _ h => h)) rfl rfl hl.1 rfl (lv_room (Nat.le_of_ble_eq_true rfl)) dL_law_1388 ⟨by show cells + 1 ≤ room_1.cells; omega, by show slots + 6 ≤ room_1.slots; omega⟩) hS (fun q h => rw_ge q h) (fun _ _ _ _ _ h => h.elim) (fun v H locs hp hz9 hk9 hS => ?_)
  obtain ⟨z, r, Y, hco, rfl, ⟨ml1, hP⟩, f1, ho, hf⟩ := hp
  have hM := hM.keep (fun q h1 h2 h3 => hk9 q h1 (fun h => h.elim (fun r => absurd r.2 (by omega)) (fun r => by omega)))
  have hz := z_hushed hco
  refine W.eq (g2 := F0 m 1391 ls [.int (z2 (z))]) rfl ?_
  refine lv_istore (lv' := [(5, .int (z2 (z))), (0, .ref b), (1, .ref bx), (2, .ref (bx + 55)), (3, .ref (bx + 75)), (4, .int (z2 (5 * ((k : Nat) : Int))))]) hx hb dL_law_1391 hl (by decide) rfl (fun ls hl => ?_)
  refine lv_aload_n hx hb dL_law_1393 rfl (lv_at hl 3 rfl) ?_
  refine lv_aload_n hx hb dL_law_1394 rfl (lv_at hl 1 rfl) ?_
  refine lv_iload hx hb dL_law_1395 (lv_at hl 5 rfl) ?_
  refine b_iconst hx hb dL_law_1397 ?_
  refine b_iadd hx hb dL_law_1398 ?_
  refine g_scr hx hb hX hbl hbA hS (5 * k + 1) ⟨by omega, by omega, by omega⟩ eu dL_law_1399 ?_
  refine g_run (vx_runV (As := [.int (z2 (u))]) (rest := []) ⟨hx, hb, hml, hown, hts⟩ (m_hushed l D ks bx (bx + 55) (by omega) S _ hM hI.2.2.2 (u) hu) (cwV 1 hts gL_law_X5_hushed rfl rfl rfl (by decide +kernel) ⟨Nat.le_of_ble_eq_true rfl, Nat.le_of_ble_eq_true rfl⟩) (g_preV (r := (RX5, TX5, 23)) hG hS (fun _ h => h) hM.1 rfl) rfl rfl hl.1 rfl (lv_room (Nat.le_of_ble_eq_true rfl)) dL_law_1400 ⟨by show cells + 1 + 0 ≤ room_1.cells; omega, by show slots + 6 + 0 ≤ room_1.slots; omega⟩) hS (fun q h => rm_ge (bx := bx) (by omega) q h) (fun _ _ _ _ _ h => h.elim) (fun v H locs hp hz9 hk9 hS => ?_)
  obtain ⟨q, T, hro, rfl, hM⟩ := hp
  have hP := hP.keep (fun q h1 h2 => hk9 q h1 (fun h => by have h3 := h.1; have h4 := h.2; omega))
  have ho := ho.kept (hk9 _ ho.lt (fun h => absurd h.2 (by omega)))
  obtain ⟨c1, c2, hJ⟩ := cs_hushed hI hco hro
  refine W.eq (g2 := F0 m 1403 ls [.int (z2 (q))]) rfl ?_
  refine lv_istore (lv' := [(6, .int (z2 (q))), (5, .int (z2 (z))), (0, .ref b), (1, .ref bx), (2, .ref (bx + 55)), (3, .ref (bx + 75)), (4, .int (z2 (5 * ((k : Nat) : Int))))]) hx hb dL_law_1403 hl (by decide) rfl (fun ls hl => ?_)
  refine lv_aload_n hx hb dL_law_1405 rfl (lv_at hl 4 rfl) ?_
  refine g_run (vx_runV (As := []) (rest := []) ⟨hx, hb, hml, hown, hts⟩ (m_thrown l D ks bx (bx + 55) (by omega) T _ hM hJ.2.2.2) (cwV 0 hts gL_law_X5_thrown rfl rfl rfl (by decide +kernel) ⟨Nat.le_of_ble_eq_true rfl, Nat.le_of_ble_eq_true rfl⟩) (g_preV (r := (RX5, TX5, 23)) hG hS (fun _ h => h) hM.1 rfl) rfl rfl hl.1 rfl (lv_room (Nat.le_of_ble_eq_true rfl)) dL_law_1406 ⟨by show cells + 1 + 0 + 0 ≤ room_1.cells; omega, by show slots + 6 + 0 + 0 ≤ room_1.slots; omega⟩) hS (fun q h => rm_ge (bx := bx) (by omega) q h) (fun _ _ _ _ _ h => h.elim) (fun v H locs hp hz9 hk9 hS => ?_)
  obtain ⟨rfl, hH9⟩ := hp
  obtain rfl := hH9.symm
  rw [c1]
  refine W.eq (g2 := F0 m 1409 ls [.int (z2 (z))]) rfl ?_
  refine lv_iload hx hb dL_law_1409 (lv_at hl 1 rfl) ?_
  refine lv_icmp_eq (tgt := 1416) hx hb dL_law_1411 (by decide) (fun _ => ?_) (fun c => absurd rfl c)
  refine lv_iload hx hb dL_law_1416 (lv_at hl 1 rfl) ?_
  refine b_if_ne (tgt := 1433) hx hb dL_law_1418 (by decide) ⟨by omega, by omega⟩ (fun c_z => ?_) (fun c_z => ?_)
  · skip
    refine lv_goto (tgt := 1505) hx hb dL_law_1433 (by decide) ?_
    refine W.widen (k := cells + 4) (n := slots + 24) (by show cells + 1 + 0 + 0 ≤ cells + 4; omega) (by show slots + 6 + 0 + 0 ≤ slots + 24; omega) ?_
    exact kk _ _ _ _ _ _ _ hJ hP hM ho hS (lv_sub hl [2, 3, 4, 5, 6] rfl)
  · skip
    have hrq := c2 c_z
    have hf0 := hf c_z
    refine lv_aload_n hx hb dL_law_1421 rfl (lv_at hl 5 rfl) ?_
    refine b_iconst hx hb dL_law_1422 ?_
    refine g_lald (n := 1) hx hb hG ho 0 ⟨rfl, by decide, by decide⟩ dL_law_1423 ?_
    refine lv_iload hx hb dL_law_1424 (lv_at hl 0 rfl) ?_
    refine lv_i2l (v := (z2 (q)).toInt64) hx hb dL_law_1426 rfl ?_
    refine W.lcmp hx hb dL_law_1427 ?_
    refine b_top (v := 0) (lg_self (hf0.trans (congrArg (fun z => (z2 z).toInt64) hrq))) ?_
    refine b_if_eq (tgt := 1433) hx hb dL_law_1428 (by decide) ⟨by omega, by omega⟩ (fun _ => ?_) (fun c => absurd rfl c)
    refine lv_goto (tgt := 1505) hx hb dL_law_1433 (by decide) ?_
    refine W.widen (k := cells + 4) (n := slots + 24) (by show cells + 1 + 0 + 0 ≤ cells + 4; omega) (by show slots + 6 + 0 + 0 ≤ slots + 24; omega) ?_
    exact kk _ _ _ _ _ _ _ hJ hP hM ho hS (lv_sub hl [2, 3, 4, 5, 6] rfl)
set_option maxHeartbeats 4000000 in
set_option maxRecDepth 100000 in
theorem c_faults {p : Program} {e : Env} {s : State} {m : MethodId} {below : List Frame} {meth : Method} {c : Code} (l : Launch) (hst : l.stackTraces = false) {D : va_G} {ks : Nat → ClassId} {b bx nL k : Nat} {xs : Nat → Int32} {Q : State → Prop} (hx : p.tables.exec = Jvm.exec) (hb : c.code = cL_law) (hml : c.maxLocals = 8) (hown : s.vm.findClass RL = some m.cls) (hts : ∀ w ∈ wsL_law, w.before #[Value.ref b] s = true) (hX : va_X b nL xs s s.heap) (hbl : b < s.heap.size) (hG : GE D ks bx s) (hbA : ¬ AR (RC bx) s.heap.size b) (hL : nL ≤ 2560) (hk : 5 * k + 5 ≤ nL) {H : Heap} {locs : List Loc} {ls : Array Slot} {cells slots : Nat} (hcs : cells + 10 ≤ room_1.cells ∧ slots + 60 ≤ room_1.slots)
    {ml : Nat → Nat} {X S : Nat → Nat → Int} {fo : Nat → Int64} (hI : IV X S) (hP : PX D ks bx ml X H) (hM : PM D ks (bx + 55) S H) (ho : ca D (bx + 75) (jA (ks 1) 1 fo) H) (hS : va_S (AR (RC bx) s.heap.size) s.heap H locs) (hl : lv_has ls 8 [(0, .ref b), (1, .ref bx), (2, .ref (bx + 55)), (3, .ref (bx + 75)), (4, .int (z2 (5 * ((k : Nat) : Int))))])
    (kk : ∀ (ml1 : Nat → Nat) (X1 S1 : Nat → Nat → Int) (f1 : Nat → Int64) (H1 : Heap) (locs1 : List Loc) (ls1 : Array Slot), IV X1 S1 → PX D ks bx ml1 X1 H1 → PM D ks (bx + 55) S1 H1 → ca D (bx + 75) (jA (ks 1) 1 f1) H1 → va_S (AR (RC bx) s.heap.size) s.heap H1 locs1 → lv_has ls1 8 [(0, .ref b), (1, .ref bx), (2, .ref (bx + 55)), (3, .ref (bx + 75)), (4, .int (z2 (5 * ((k : Nat) : Int))))] → W p l e room_1 s m #[Value.ref b] below meth c H1 locs1 (cells + 4) (slots + 24) Q (F0 m 1505 ls1 [])) :
    W p l e room_1 s m #[Value.ref b] below meth c H locs cells slots Q (F0 m 1436 ls []) := by
  have b4 := hI.2.1
  refine lv_aload_n hx hb dL_law_1436 rfl (lv_at hl 1 rfl) ?_
  refine g_run (vx_runV (As := []) (rest := []) ⟨hx, hb, hml, hown, hts⟩ (k_faults l D ks bx ml X _ hP hI.2.1) (cwV 0 hts gL_law_X4_faults rfl rfl rfl (by decide +kernel) ⟨Nat.le_of_ble_eq_true rfl, Nat.le_of_ble_eq_true rfl⟩) (g_preV (r := (RX4, TX4, 7)) hG hS (fun _ h => h) hP.1 rfl) rfl rfl hl.1 rfl (lv_room (Nat.le_of_ble_eq_true rfl)) dL_law_1437 ⟨by show cells + 0 ≤ room_1.cells; omega, by show slots + 0 ≤ room_1.slots; omega⟩) hS (fun q h => rx_ge q h) (fun _ _ _ _ _ h => h.elim) (fun v H locs hp hz9 hk9 hS => ?_)
  obtain ⟨rfl, hH9⟩ := hp
  obtain rfl := hH9.symm
  refine W.eq (g2 := F0 m 1440 ls [.int (z2 (X 5 0))]) rfl ?_
  refine lv_aload_n hx hb dL_law_1440 rfl (lv_at hl 2 rfl) ?_
  refine g_run (vx_runV (As := []) (rest := [.int (z2 (X 5 0))]) ⟨hx, hb, hml, hown, hts⟩ (m_faults l D ks bx (bx + 55) (by omega) S _ hM hI.2.2.2) (cwV 0 hts gL_law_X5_faults rfl rfl rfl (by decide +kernel) ⟨Nat.le_of_ble_eq_true rfl, Nat.le_of_ble_eq_true rfl⟩) (g_preV (r := (RX5, TX5, 23)) hG hS (fun _ h => h) hM.1 rfl) rfl rfl hl.1 rfl (lv_room (Nat.le_of_ble_eq_true rfl)) dL_law_1441 ⟨by show cells + 0 + 0 ≤ room_1.cells; omega, by show slots + 0 + 0 ≤ room_1.slots; omega⟩) hS (fun q h => rm_ge (bx := bx) (by omega) q h) (fun _ _ _ _ _ h => h.elim) (fun v H locs hp hz9 hk9 hS => ?_)
  obtain ⟨rfl, hM⟩ := hp
  have hP := hP.keep (fun q h1 h2 => hk9 q h1 (fun h => by have h3 := h.1; have h4 := h.2; omega))
  have ho := ho.kept (hk9 _ ho.lt (fun h => absurd h.2 (by omega)))
  have hJ := inv22 hI 0
  rw [show S 20 0 = X 5 0 from hI.1.1.2.2]
  refine W.eq (g2 := F0 m 1444 ls [.int (z2 (X 5 0)), .int (z2 (X 5 0))]) rfl ?_
  refine lv_icmp_eq (tgt := 1505) hx hb dL_law_1444 (by decide) (fun _ => ?_) (fun c => absurd rfl c)
  refine W.widen (k := cells + 4) (n := slots + 24) (by show cells + 0 + 0 ≤ cells + 4; omega) (by show slots + 0 + 0 ≤ slots + 24; omega) ?_
  exact kk _ _ _ _ _ _ _ hJ hP hM ho hS (lv_sub hl [0, 1, 2, 3, 4] rfl)
set_option maxHeartbeats 4000000 in
set_option maxRecDepth 100000 in
theorem c_faultAt {p : Program} {e : Env} {s : State} {m : MethodId} {below : List Frame} {meth : Method} {c : Code} (l : Launch) (hst : l.stackTraces = false) {D : va_G} {ks : Nat → ClassId} {b bx nL k : Nat} {xs : Nat → Int32} {Q : State → Prop} (hx : p.tables.exec = Jvm.exec) (hb : c.code = cL_law) (hml : c.maxLocals = 8) (hown : s.vm.findClass RL = some m.cls) (hts : ∀ w ∈ wsL_law, w.before #[Value.ref b] s = true) (hX : va_X b nL xs s s.heap) (hbl : b < s.heap.size) (hG : GE D ks bx s) (hbA : ¬ AR (RC bx) s.heap.size b) (hL : nL ≤ 2560) (hk : 5 * k + 5 ≤ nL) {H : Heap} {locs : List Loc} {ls : Array Slot} {cells slots : Nat} (hcs : cells + 10 ≤ room_1.cells ∧ slots + 60 ≤ room_1.slots)
    {ml : Nat → Nat} {X S : Nat → Nat → Int} {fo : Nat → Int64} (hI : IV X S) (hP : PX D ks bx ml X H) (hM : PM D ks (bx + 55) S H) (ho : ca D (bx + 75) (jA (ks 1) 1 fo) H) (hS : va_S (AR (RC bx) s.heap.size) s.heap H locs) (hl : lv_has ls 8 [(0, .ref b), (1, .ref bx), (2, .ref (bx + 55)), (3, .ref (bx + 75)), (4, .int (z2 (5 * ((k : Nat) : Int))))])
    (kk : ∀ (ml1 : Nat → Nat) (X1 S1 : Nat → Nat → Int) (f1 : Nat → Int64) (H1 : Heap) (locs1 : List Loc) (ls1 : Array Slot), IV X1 S1 → PX D ks bx ml1 X1 H1 → PM D ks (bx + 55) S1 H1 → ca D (bx + 75) (jA (ks 1) 1 f1) H1 → va_S (AR (RC bx) s.heap.size) s.heap H1 locs1 → lv_has ls1 8 [(0, .ref b), (1, .ref bx), (2, .ref (bx + 55)), (3, .ref (bx + 75)), (4, .int (z2 (5 * ((k : Nat) : Int))))] → W p l e room_1 s m #[Value.ref b] below meth c H1 locs1 (cells + 4) (slots + 24) Q (F0 m 1505 ls1 [])) :
    W p l e room_1 s m #[Value.ref b] below meth c H locs cells slots Q (F0 m 1449 ls []) := by
  obtain ⟨u, hu, eu⟩ := z2_ex (xs (5 * k + 1))
  have b4 := hI.2.1
  refine lv_aload_n hx hb dL_law_1449 rfl (lv_at hl 1 rfl) ?_
  refine lv_aload_n hx hb dL_law_1450 rfl (lv_at hl 0 rfl) ?_
  refine lv_iload hx hb dL_law_1451 (lv_at hl 4 rfl) ?_
  refine b_iconst hx hb dL_law_1453 ?_
  refine b_iadd hx hb dL_law_1454 ?_
  refine g_scr hx hb hX hbl hbA hS (5 * k + 1) ⟨by omega, by omega, by omega⟩ eu dL_law_1455 ?_
  refine lv_aload_n hx hb dL_law_1456 rfl (lv_at hl 3 rfl) ?_
  refine g_run (vx_runSX (As := [.ref bx, .int (z2 (u)), .ref (bx + 75)]) (rest := []) ⟨hx, hb, hml, hown, hts⟩ (w_faultAt l D ks bx ml X _ hP hI.2.1 hst ho (u) hu) (vx_cwSW 3 hts gL_law_L_faultAt rfl rfl rfl (by decide +kernel) ⟨Nat.le_of_ble_eq_true rfl, Nat.le_of_ble_eq_true rfl⟩) (g_preS hG hS (fun _ h => h)) rfl rfl hl.1 rfl (lv_room (Nat.le_of_ble_eq_true rfl)) dL_law_1457 ⟨by show cells + 1 ≤ room_1.cells; omega, by show slots + 6 ≤ room_1.slots; omega⟩) hS (fun q h => rw_ge q h) (fun _ _ _ _ _ h => h.elim) (fun v H locs hp hz9 hk9 hS => ?_)
  obtain ⟨z, r, Y, hco, rfl, ⟨ml1, hP⟩, f1, ho, hf⟩ := hp
  have hM := hM.keep (fun q h1 h2 h3 => hk9 q h1 (fun h => h.elim (fun r => absurd r.2 (by omega)) (fun r => by omega)))
  have hz := z_faultAt hco
  refine W.eq (g2 := F0 m 1460 ls [.int (z2 (z))]) rfl ?_
  refine lv_istore (lv' := [(5, .int (z2 (z))), (0, .ref b), (1, .ref bx), (2, .ref (bx + 55)), (3, .ref (bx + 75)), (4, .int (z2 (5 * ((k : Nat) : Int))))]) hx hb dL_law_1460 hl (by decide) rfl (fun ls hl => ?_)
  refine lv_aload_n hx hb dL_law_1462 rfl (lv_at hl 3 rfl) ?_
  refine lv_aload_n hx hb dL_law_1463 rfl (lv_at hl 1 rfl) ?_
  refine lv_iload hx hb dL_law_1464 (lv_at hl 5 rfl) ?_
  refine b_iconst hx hb dL_law_1466 ?_
  refine b_iadd hx hb dL_law_1467 ?_
  refine g_scr hx hb hX hbl hbA hS (5 * k + 1) ⟨by omega, by omega, by omega⟩ eu dL_law_1468 ?_
  refine g_run (vx_runV (As := [.int (z2 (u))]) (rest := []) ⟨hx, hb, hml, hown, hts⟩ (m_faultAt l D ks bx (bx + 55) (by omega) S _ hM hI.2.2.2 (u) hu) (cwV 1 hts gL_law_X5_faultAt rfl rfl rfl (by decide +kernel) ⟨Nat.le_of_ble_eq_true rfl, Nat.le_of_ble_eq_true rfl⟩) (g_preV (r := (RX5, TX5, 23)) hG hS (fun _ h => h) hM.1 rfl) rfl rfl hl.1 rfl (lv_room (Nat.le_of_ble_eq_true rfl)) dL_law_1469 ⟨by show cells + 1 + 0 ≤ room_1.cells; omega, by show slots + 6 + 0 ≤ room_1.slots; omega⟩) hS (fun q h => rm_ge (bx := bx) (by omega) q h) (fun _ _ _ _ _ h => h.elim) (fun v H locs hp hz9 hk9 hS => ?_)
  obtain ⟨q, T, hro, rfl, hM⟩ := hp
  have hP := hP.keep (fun q h1 h2 => hk9 q h1 (fun h => by have h3 := h.1; have h4 := h.2; omega))
  have ho := ho.kept (hk9 _ ho.lt (fun h => absurd h.2 (by omega)))
  obtain ⟨c1, c2, hJ⟩ := cs_faultAt hI hco hro
  refine W.eq (g2 := F0 m 1472 ls [.int (z2 (q))]) rfl ?_
  refine lv_istore (lv' := [(6, .int (z2 (q))), (5, .int (z2 (z))), (0, .ref b), (1, .ref bx), (2, .ref (bx + 55)), (3, .ref (bx + 75)), (4, .int (z2 (5 * ((k : Nat) : Int))))]) hx hb dL_law_1472 hl (by decide) rfl (fun ls hl => ?_)
  refine lv_aload_n hx hb dL_law_1474 rfl (lv_at hl 4 rfl) ?_
  refine g_run (vx_runV (As := []) (rest := []) ⟨hx, hb, hml, hown, hts⟩ (m_thrown l D ks bx (bx + 55) (by omega) T _ hM hJ.2.2.2) (cwV 0 hts gL_law_X5_thrown rfl rfl rfl (by decide +kernel) ⟨Nat.le_of_ble_eq_true rfl, Nat.le_of_ble_eq_true rfl⟩) (g_preV (r := (RX5, TX5, 23)) hG hS (fun _ h => h) hM.1 rfl) rfl rfl hl.1 rfl (lv_room (Nat.le_of_ble_eq_true rfl)) dL_law_1475 ⟨by show cells + 1 + 0 + 0 ≤ room_1.cells; omega, by show slots + 6 + 0 + 0 ≤ room_1.slots; omega⟩) hS (fun q h => rm_ge (bx := bx) (by omega) q h) (fun _ _ _ _ _ h => h.elim) (fun v H locs hp hz9 hk9 hS => ?_)
  obtain ⟨rfl, hH9⟩ := hp
  obtain rfl := hH9.symm
  rw [c1]
  refine W.eq (g2 := F0 m 1478 ls [.int (z2 (z))]) rfl ?_
  refine lv_iload hx hb dL_law_1478 (lv_at hl 1 rfl) ?_
  refine lv_icmp_eq (tgt := 1485) hx hb dL_law_1480 (by decide) (fun _ => ?_) (fun c => absurd rfl c)
  refine lv_iload hx hb dL_law_1485 (lv_at hl 1 rfl) ?_
  refine b_if_ne (tgt := 1502) hx hb dL_law_1487 (by decide) ⟨by omega, by omega⟩ (fun c_z => ?_) (fun c_z => ?_)
  · skip
    refine lv_goto (tgt := 1505) hx hb dL_law_1502 (by decide) ?_
    refine W.widen (k := cells + 4) (n := slots + 24) (by show cells + 1 + 0 + 0 ≤ cells + 4; omega) (by show slots + 6 + 0 + 0 ≤ slots + 24; omega) ?_
    exact kk _ _ _ _ _ _ _ hJ hP hM ho hS (lv_sub hl [2, 3, 4, 5, 6] rfl)
  · skip
    have hrq := c2 c_z
    have hf0 := hf c_z
    refine lv_aload_n hx hb dL_law_1490 rfl (lv_at hl 5 rfl) ?_
    refine b_iconst hx hb dL_law_1491 ?_
    refine g_lald (n := 1) hx hb hG ho 0 ⟨rfl, by decide, by decide⟩ dL_law_1492 ?_
    refine lv_iload hx hb dL_law_1493 (lv_at hl 0 rfl) ?_
    refine lv_i2l (v := (z2 (q)).toInt64) hx hb dL_law_1495 rfl ?_
    refine W.lcmp hx hb dL_law_1496 ?_
    refine b_top (v := 0) (lg_self (hf0.trans (congrArg (fun z => (z2 z).toInt64) hrq))) ?_
    refine b_if_eq (tgt := 1502) hx hb dL_law_1497 (by decide) ⟨by omega, by omega⟩ (fun _ => ?_) (fun c => absurd rfl c)
    refine lv_goto (tgt := 1505) hx hb dL_law_1502 (by decide) ?_
    refine W.widen (k := cells + 4) (n := slots + 24) (by show cells + 1 + 0 + 0 ≤ cells + 4; omega) (by show slots + 6 + 0 + 0 ≤ slots + 24; omega) ?_
    exact kk _ _ _ _ _ _ _ hJ hP hM ho hS (lv_sub hl [2, 3, 4, 5, 6] rfl)
