/-! THE LAW, from its entry. -/
def X0 : Nat → Nat → Int := fun f _ => if f = 14 ∨ f = 22 ∨ f = 31 ∨ f = 37 then 1 else if f = 30 ∨ f = 34 then -1 else 0
theorem px_new {D : va_G} {ks : Nat → ClassId} {bx : Nat} {ml : Nat → Nat} {H : Heap} (h : BB D ks bx H) : PX D ks bx ml X0 H := by
  obtain ⟨p1, p2, p3, p4, p5, p6, p7⟩ := h
  refine ⟨p1, p2, p3, qa_cong p4 (fun j hj => if_neg (by show ¬ ((j : Nat) : Int) < 0; omega)), p5, fun h hh => ⟨(p6 h hh).1, (p6 h hh).2.1, (p6 h hh).2.2.1⟩, fun h b hh hb => ?_, fun k hk => p7 k hk, fun k hk => ?_⟩
  · rcases b with _ | _ | _ | b
    · exact (p6 h hh).2.2.2.1
    · exact (p6 h hh).2.2.2.2.1
    · exact (p6 h hh).2.2.2.2.2
    · omega
  · have : ((k : Nat) : Int) < 0 := hk
    omega
theorem iv_new : IV X0 S0 := by
  refine ⟨⟨⟨rfl, rfl, rfl⟩, fun k hk => ?_, fun i => ⟨rfl, rfl, fun _ => rfl⟩, fun i => ⟨rfl, rfl⟩, fun h => ⟨rfl, rfl, rfl, rfl, rfl, rfl, rfl, rfl, rfl⟩, fun k => ⟨rfl, fun h => absurd h (show ¬ ((0 : Int) ≤ -1) by decide)⟩⟩, ⟨fun f i hf => ?_, fun i => (show (-1 : Int) < 0 by decide), fun k => (show (0 : Int) ≤ 0 ∧ (0 : Int) < 16 ^ 1 by decide)⟩, ⟨fun i h => absurd rfl h, fun k h => absurd h (show ¬ ((0 : Int) ≤ -1) by decide)⟩, fun f i hf hf2 => ?_, fun i => (show (0 : Int) ≤ 0 by decide), fun k => (show (0 : Int) ≤ 0 ∧ (0 : Int) < 16 ^ 0 by decide)⟩
  · have : ((k : Nat) : Int) < 0 := hk
    omega
  · unfold X0
    by_cases h1 : f = 14 ∨ f = 22 ∨ f = 31 ∨ f = 37
    · rw [if_pos h1]
      rcases h1 with rfl | rfl | rfl | rfl <;> decide
    · rw [if_neg h1]
      by_cases h2 : f = 30 ∨ f = 34
      · rw [if_pos h2]
        rcases h2 with rfl | rfl <;> decide
      · rw [if_neg h2]
        by_cases h3 : f ≤ 38
        · have h4 : f = 0 ∨ f = 1 ∨ f = 2 ∨ f = 3 ∨ f = 4 ∨ f = 5 ∨ f = 6 ∨ f = 7 ∨ f = 8 ∨ f = 9 ∨ f = 10 ∨ f = 11 ∨ f = 12 ∨ f = 13 ∨ f = 14 ∨ f = 15 ∨ f = 16 ∨ f = 17 ∨ f = 18 ∨ f = 19 ∨ f = 20 ∨ f = 21 ∨ f = 22 ∨ f = 23 ∨ f = 24 ∨ f = 25 ∨ f = 26 ∨ f = 27 ∨ f = 28 ∨ f = 29 ∨ f = 30 ∨ f = 31 ∨ f = 32 ∨ f = 33 ∨ f = 34 ∨ f = 35 ∨ f = 36 ∨ f = 37 ∨ f = 38 := by omega
          rcases h4 with rfl | rfl | rfl | rfl | rfl | rfl | rfl | rfl | rfl | rfl | rfl | rfl | rfl | rfl | rfl | rfl | rfl | rfl | rfl | rfl | rfl | rfl | rfl | rfl | rfl | rfl | rfl | rfl | rfl | rfl | rfl | rfl | rfl | rfl | rfl | rfl | rfl | rfl | rfl <;> first | decide | exact absurd hf (by decide) | exact absurd h1 (by decide) | exact absurd h2 (by decide)
        · obtain ⟨g, rfl⟩ : ∃ g : Nat, f = g + 39 := ⟨f - 39, by omega⟩
          exact (show (0 : Int) ≤ 0 ∧ (0 : Int) ≤ 0 by decide)
  · unfold S0
    by_cases h1 : f = 6
    · rw [if_pos h1, h1]
      decide
    · rw [if_neg h1]
      have h3 : f = 0 ∨ f = 1 ∨ f = 2 ∨ f = 3 ∨ f = 4 ∨ f = 5 ∨ f = 6 ∨ f = 7 ∨ f = 8 ∨ f = 9 ∨ f = 10 ∨ f = 11 ∨ f = 12 ∨ f = 13 ∨ f = 14 ∨ f = 15 ∨ f = 16 ∨ f = 17 ∨ f = 18 ∨ f = 19 ∨ f = 20 ∨ f = 21 := by omega
      rcases h3 with rfl | rfl | rfl | rfl | rfl | rfl | rfl | rfl | rfl | rfl | rfl | rfl | rfl | rfl | rfl | rfl | rfl | rfl | rfl | rfl | rfl | rfl <;> first | exact absurd rfl h1 | decide
theorem z2_and31 (x : Int) : z2 x &&& z2 31 = z2 (x % 32) := by
  apply Int32.toBitVec_inj.mp
  have e1 : (z2 x).toBitVec = BitVec.ofInt 32 x := rfl
  have e2 : (z2 (x % 32)).toBitVec = BitVec.ofInt 32 (x % 32) := rfl
  have e3 : (z2 31).toBitVec = 31#32 := by decide +kernel
  rw [Int32.toBitVec_and, e1, e2, e3]
  apply BitVec.eq_of_toNat_eq
  rw [BitVec.toNat_and, BitVec.toNat_ofInt, BitVec.toNat_ofInt]
  show (x % 4294967296).toNat &&& 2 ^ 5 - 1 = (x % 32 % 4294967296).toNat
  rw [Nat.and_two_pow_sub_one_eq_mod]
  omega
/-- a loop whose rounds may make new cells -/
theorem lp_k {p : Program} {l : Launch} {e : Env} {R : Room} {s : State} {m : MethodId} {args : Array Value} {below : List Frame} {meth : Method} {c : Code} {Q : State → Prop} {pc : Nat} (N : Nat) (I : Nat → Heap → List Loc → Array Slot → Prop) (c0 s0 cm sm : Nat)
    (step : ∀ (k : Nat) (H : Heap) (locs : List Loc) (ls : Array Slot), k ≤ N → I k H locs ls → (k < N → ∀ (H1 : Heap) (locs1 : List Loc) (ls1 : Array Slot), I (k + 1) H1 locs1 ls1 → W p l e R s m args below meth c H1 locs1 (c0 + k * cm + cm) (s0 + k * sm + sm) Q (F0 m pc ls1 [])) → W p l e R s m args below meth c H locs (c0 + k * cm) (s0 + k * sm) Q (F0 m pc ls [])) :
    ∀ (H : Heap) (locs : List Loc) (ls : Array Slot), I 0 H locs ls → W p l e R s m args below meth c H locs c0 s0 Q (F0 m pc ls []) := by
  have key : ∀ (n k : Nat), k + n = N → ∀ (H : Heap) (locs : List Loc) (ls : Array Slot), I k H locs ls → W p l e R s m args below meth c H locs (c0 + k * cm) (s0 + k * sm) Q (F0 m pc ls []) := by
    intro n
    induction n with
    | zero => intro k hk H locs ls hI; exact step k H locs ls (by omega) hI (fun h => by omega)
    | succ n ih =>
      intro k hk H locs ls hI
      refine step k H locs ls (by omega) hI (fun _ H1 locs1 ls1 h1 => ?_)
      have h2 := ih (k + 1) (by omega) H1 locs1 ls1 h1
      rw [Nat.succ_mul, Nat.succ_mul, ← Nat.add_assoc, ← Nat.add_assoc] at h2
      exact h2
  intro H locs ls hI
  have h := key N 0 (by omega) H locs ls hI
  rw [Nat.zero_mul, Nat.zero_mul] at h
  exact h
def LI (D : va_G) (ks : Nat → ClassId) (b : Nat) (s : State) (nL : Nat) (k : Nat) (H : Heap) (locs : List Loc) (ls : Array Slot) : Prop :=
  ∃ (ml : Nat → Nat) (X S : Nat → Nat → Int) (f : Nat → Int64), IV X S ∧ PX D ks s.heap.size ml X H ∧ PM D ks (s.heap.size + 55) S H ∧ ca D (s.heap.size + 75) (jA (ks 1) 1 f) H ∧ va_S (AR (RC s.heap.size) s.heap.size) s.heap H locs ∧ lv_has ls 8 [(0, .ref b), (1, .ref s.heap.size), (2, .ref (s.heap.size + 55)), (3, .ref (s.heap.size + 75)), (4, .int (z2 (5 * (k : Nat))))] ∧ 5 * k ≤ nL
set_option maxHeartbeats 4000000 in
set_option maxRecDepth 100000 in
/-- one round of the law's loop -/
theorem law_round {p : Program} {e : Env} {s : State} {m : MethodId} {below : List Frame} {meth : Method} {c : Code} (l : Launch) (hst : l.stackTraces = false) {D : va_G} {ks : Nat → ClassId} {b nL : Nat} {xs : Nat → Int32} (hx : p.tables.exec = Jvm.exec) (hb : c.code = cL_law) (hr : meth.sig.returnType = ret) (hlocks : meth.locks = false) (hml : c.maxLocals = 8) (hown : s.vm.findClass RL = some m.cls) (hts : ∀ w ∈ wsL_law, w.before #[Value.ref b] s = true) (hX : va_X b nL xs s s.heap) (hbl : b < s.heap.size) (hG : GE D ks s.heap.size s) (hL : nL ≤ 2560)
    (k : Nat) (H : Heap) (locs : List Loc) (ls : Array Slot) (hk : k ≤ 512) (hI : LI D ks b s nL k H locs ls) (ih : k < 512 → ∀ (H1 : Heap) (locs1 : List Loc) (ls1 : Array Slot), LI D ks b s nL (k + 1) H1 locs1 ls1 → W p l e room_1 s m #[Value.ref b] below meth c H1 locs1 (76 + k * 4 + 4) (1000 + k * 24 + 24) (lw_Z below #[Value.ref b] s) (F0 m 23 ls1 [])) :
    W p l e room_1 s m #[Value.ref b] below meth c H locs (76 + k * 4) (1000 + k * 24) (lw_Z below #[Value.ref b] s) (F0 m 23 ls []) := by
  obtain ⟨ml, X, S, f, hI, hP, hM, ho, hS, hl, hk5⟩ := hI
  have hbA : ¬ AR (RC s.heap.size) s.heap.size b := fun h => h.elim (fun r => absurd (show s.heap.size ≤ b from r) (by omega)) (fun r => by omega)
  refine lv_iload hx hb dL_law_23 (lv_at hl 4 rfl) ?_
  refine lv_aload_n hx hb dL_law_25 rfl (lv_at hl 0 rfl) ?_
  refine va_slen hx hb hX hbl hbA hS dL_law_26 ?_
  refine b_top (v := nL) (z2_len nL) ?_
  refine b_iconst hx hb dL_law_27 ?_
  refine b_isub hx hb dL_law_28 ?_
  refine b_icmp_gt (tgt := 1511) hx hb dL_law_29 (by decide) ⟨⟨by omega, by omega⟩, ⟨by omega, by omega⟩⟩ (fun c_29 => ?_) (fun c_29 => ?_)
  · refine lv_iconst (v := 1) hx hb dL_law_1511 (by decide) ?_
    refine va_forget (fun q hq => (hS.2.2 q hq).elim (fun h => h) (fun h => h)) ?_
    refine W.widen (k := 642038) (n := 7169989) (by omega) (by omega) ?_
    exact lw_ret hx hb hr hlocks dL_law_1512
  · have hcs : (76 + k * 4) + 10 ≤ room_1.cells ∧ (1000 + k * 24) + 60 ≤ room_1.slots := ⟨by show _ ≤ 642038; omega, by show _ ≤ 7169989; omega⟩
    obtain ⟨v, hv, ev⟩ := z2_ex (xs (5 * k))
    refine lv_aload_n hx hb dL_law_32 rfl (lv_at hl 0 rfl) ?_
    refine lv_iload hx hb dL_law_33 (lv_at hl 4 rfl) ?_
    refine g_scr hx hb hX hbl hbA hS (5 * k) ⟨by omega, by omega, by omega⟩ ev dL_law_35 ?_
    refine b_bipush hx hb dL_law_36 (by decide +kernel) ?_
    refine lv_iand hx hb dL_law_38 ?_
    obtain ⟨w, hw, ew⟩ : ∃ w : Int, (0 ≤ w ∧ w < 32) ∧ z2 v &&& z2 31 = z2 w := ⟨v % 32, ⟨by omega, by omega⟩, z2_and31 v⟩
    refine b_top (v := w) ew ?_
    have kk : ∀ (ml1 : Nat → Nat) (X1 S1 : Nat → Nat → Int) (f1 : Nat → Int64) (H1 : Heap) (locs1 : List Loc) (ls1 : Array Slot), IV X1 S1 → PX D ks s.heap.size ml1 X1 H1 → PM D ks (s.heap.size + 55) S1 H1 → ca D (s.heap.size + 75) (jA (ks 1) 1 f1) H1 → va_S (AR (RC s.heap.size) s.heap.size) s.heap H1 locs1 → lv_has ls1 8 [(0, .ref b), (1, .ref s.heap.size), (2, .ref (s.heap.size + 55)), (3, .ref (s.heap.size + 75)), (4, .int (z2 (5 * (k : Nat))))] → W p l e room_1 s m #[Value.ref b] below meth c H1 locs1 (76 + k * 4 + 4) (1000 + k * 24 + 24) (lw_Z below #[Value.ref b] s) (F0 m 1505 ls1 []) := by
      intro ml1 X1 S1 f1 H1 locs1 ls1 hI hP hM ho hS hl
      refine b_iinc (lv' := [(4, .int (z2 (5 * (k : Nat) + 5))), (0, .ref b), (1, .ref s.heap.size), (2, .ref (s.heap.size + 55)), (3, .ref (s.heap.size + 75))]) hx hb dL_law_1505 hl (k := 4) rfl (by decide) rfl (fun ls hl => ?_)
      refine lv_goto (tgt := 23) hx hb dL_law_1508 (by decide) ?_
      have e5 : (5 * ((k + 1 : Nat) : Int)) = 5 * (k : Nat) + 5 := by omega
      exact ih (by omega) _ _ _ ⟨ml1, X1, S1, f1, hI, hP, hM, ho, hS, (by rw [e5]; exact lv_sub hl [1, 2, 3, 4, 0] rfl), by omega⟩
    by_cases hw2 : w ≤ 21
    · have hw3 : w = 0 ∨ w = 1 ∨ w = 2 ∨ w = 3 ∨ w = 4 ∨ w = 5 ∨ w = 6 ∨ w = 7 ∨ w = 8 ∨ w = 9 ∨ w = 10 ∨ w = 11 ∨ w = 12 ∨ w = 13 ∨ w = 14 ∨ w = 15 ∨ w = 16 ∨ w = 17 ∨ w = 18 ∨ w = 19 ∨ w = 20 ∨ w = 21 := by omega
      rcases hw3 with rfl | rfl | rfl | rfl | rfl | rfl | rfl | rfl | rfl | rfl | rfl | rfl | rfl | rfl | rfl | rfl | rfl | rfl | rfl | rfl | rfl | rfl
      · refine lv_tableIn (x := z2 0) (off := 101) (tgt := 140) hx hb dL_law_39 (by decide +kernel) (by decide +kernel) (by decide +kernel) (by decide) ?_
        exact c_addMelody l hst hx hb hml hown hts hX hbl hG hbA hL (by omega) hcs hI hP hM ho hS hl kk
      · refine lv_tableIn (x := z2 1) (off := 213) (tgt := 252) hx hb dL_law_39 (by decide +kernel) (by decide +kernel) (by decide +kernel) (by decide) ?_
        exact c_toneAt l hst hx hb hml hown hts hX hbl hG hbA hL (by omega) hcs hI hP hM ho hS hl kk
      · refine lv_tableIn (x := z2 2) (off := 281) (tgt := 320) hx hb dL_law_39 (by decide +kernel) (by decide +kernel) (by decide +kernel) (by decide) ?_
        exact c_shifted l hst hx hb hml hown hts hX hbl hG hbA hL (by omega) hcs hI hP hM ho hS hl kk
      · refine lv_tableIn (x := z2 3) (off := 348) (tgt := 387) hx hb dL_law_39 (by decide +kernel) (by decide +kernel) (by decide +kernel) (by decide) ?_
        exact c_turned l hst hx hb hml hown hts hX hbl hG hbA hL (by omega) hcs hI hP hM ho hS hl kk
      · refine lv_tableIn (x := z2 4) (off := 403) (tgt := 442) hx hb dL_law_39 (by decide +kernel) (by decide +kernel) (by decide +kernel) (by decide) ?_
        exact c_areAlike l hst hx hb hml hown hts hX hbl hG hbA hL (by omega) hcs hI hP hM ho hS hl kk
      · refine lv_tableIn (x := z2 5) (off := 478) (tgt := 517) hx hb dL_law_39 (by decide +kernel) (by decide +kernel) (by decide +kernel) (by decide) ?_
        exact c_license l hst hx hb hml hown hts hX hbl hG hbA hL (by omega) hcs hI hP hM ho hS hl kk
      · refine lv_tableIn (x := z2 6) (off := 558) (tgt := 597) hx hb dL_law_39 (by decide +kernel) (by decide +kernel) (by decide +kernel) (by decide) ?_
        exact c_setQuiet l hst hx hb hml hown hts hX hbl hG hbA hL (by omega) hcs hI hP hM ho hS hl kk
      · refine lv_tableIn (x := z2 7) (off := 645) (tgt := 684) hx hb dL_law_39 (by decide +kernel) (by decide +kernel) (by decide +kernel) (by decide) ?_
        exact c_lay l hst hx hb hml hown hts hX hbl hG hbA hL (by omega) hcs hI hP hM ho hS hl kk
      · refine lv_tableIn (x := z2 8) (off := 737) (tgt := 776) hx hb dL_law_39 (by decide +kernel) (by decide +kernel) (by decide +kernel) (by decide) ?_
        exact c_press l hst hx hb hml hown hts hX hbl hG hbA hL (by omega) hcs hI hP hM ho hS hl kk
      · refine lv_tableIn (x := z2 9) (off := 805) (tgt := 844) hx hb dL_law_39 (by decide +kernel) (by decide +kernel) (by decide +kernel) (by decide) ?_
        exact c_fault l hst hx hb hml hown hts hX hbl hG hbA hL (by omega) hcs hI hP hM ho hS hl kk
      · refine lv_tableIn (x := z2 10) (off := 861) (tgt := 900) hx hb dL_law_39 (by decide +kernel) (by decide +kernel) (by decide +kernel) (by decide) ?_
        exact c_repair l hst hx hb hml hown hts hX hbl hG hbA hL (by omega) hcs hI hP hM ho hS hl kk
      · refine lv_tableIn (x := z2 11) (off := 917) (tgt := 956) hx hb dL_law_39 (by decide +kernel) (by decide +kernel) (by decide +kernel) (by decide) ?_
        exact c_pass l hst hx hb hml hown hts hX hbl hG hbA hL (by omega) hcs hI hP hM ho hS hl kk
      · refine lv_tableIn (x := z2 12) (off := 973) (tgt := 1012) hx hb dL_law_39 (by decide +kernel) (by decide +kernel) (by decide +kernel) (by decide) ?_
        exact c_time l hst hx hb hml hown hts hX hbl hG hbA hL (by omega) hcs hI hP hM ho hS hl kk
      · refine lv_tableIn (x := z2 13) (off := 986) (tgt := 1025) hx hb dL_law_39 (by decide +kernel) (by decide +kernel) (by decide +kernel) (by decide) ?_
        exact c_ringing l hst hx hb hml hown hts hX hbl hG hbA hL (by omega) hcs hI hP hM ho hS hl kk
      · refine lv_tableIn (x := z2 14) (off := 1042) (tgt := 1081) hx hb dL_law_39 (by decide +kernel) (by decide +kernel) (by decide +kernel) (by decide) ?_
        exact c_isSound l hst hx hb hml hown hts hX hbl hG hbA hL (by omega) hcs hI hP hM ho hS hl kk
      · refine lv_tableIn (x := z2 15) (off := 1105) (tgt := 1144) hx hb dL_law_39 (by decide +kernel) (by decide +kernel) (by decide +kernel) (by decide) ?_
        exact c_ringsLeft l hst hx hb hml hown hts hX hbl hG hbA hL (by omega) hcs hI hP hM ho hS hl kk
      · refine lv_tableIn (x := z2 16) (off := 1173) (tgt := 1212) hx hb dL_law_39 (by decide +kernel) (by decide +kernel) (by decide +kernel) (by decide) ?_
        exact c_points l hst hx hb hml hown hts hX hbl hG hbA hL (by omega) hcs hI hP hM ho hS hl kk
      · refine lv_tableIn (x := z2 17) (off := 1229) (tgt := 1268) hx hb dL_law_39 (by decide +kernel) (by decide +kernel) (by decide +kernel) (by decide) ?_
        exact c_secondsRung l hst hx hb hml hown hts hX hbl hG hbA hL (by omega) hcs hI hP hM ho hS hl kk
      · refine lv_tableIn (x := z2 18) (off := 1285) (tgt := 1324) hx hb dL_law_39 (by decide +kernel) (by decide +kernel) (by decide +kernel) (by decide) ?_
        exact c_quietBroken l hst hx hb hml hown hts hX hbl hG hbA hL (by omega) hcs hI hP hM ho hS hl kk
      · refine lv_tableIn (x := z2 19) (off := 1341) (tgt := 1380) hx hb dL_law_39 (by decide +kernel) (by decide +kernel) (by decide +kernel) (by decide) ?_
        exact c_hushed l hst hx hb hml hown hts hX hbl hG hbA hL (by omega) hcs hI hP hM ho hS hl kk
      · refine lv_tableIn (x := z2 20) (off := 1397) (tgt := 1436) hx hb dL_law_39 (by decide +kernel) (by decide +kernel) (by decide +kernel) (by decide) ?_
        exact c_faults l hst hx hb hml hown hts hX hbl hG hbA hL (by omega) hcs hI hP hM ho hS hl kk
      · refine lv_tableIn (x := z2 21) (off := 1410) (tgt := 1449) hx hb dL_law_39 (by decide +kernel) (by decide +kernel) (by decide +kernel) (by decide) ?_
        exact c_faultAt l hst hx hb hml hown hts hX hbl hG hbA hL (by omega) hcs hI hP hM ho hS hl kk
    · refine lv_tableOut (x := z2 w) (tgt := 1505) hx hb dL_law_39 (Or.inr (by rw [z2_toInt ⟨by omega, by omega⟩]; omega)) (by decide) ?_
      refine W.widen (k := 76 + k * 4 + 4) (n := 1000 + k * 24 + 24) (by omega) (by omega) ?_
      exact kk _ _ _ _ _ _ _ hI hP hM ho hS hl
