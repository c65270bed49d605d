/-! addMelody of the class -/
theorem dfX3 : ∀ j, j < 4 → defaultValue (tyX3 j) = vp_V [.int (z2 0), .int (z2 0), .int (z2 0), .long (l2 0)] j := fun j hj => by
  rcases j with _ | _ | _ | _ | j <;> first | rfl | exact df0 | exact congrArg Value.long l2_0 | omega
theorem mo_up (ml : Nat → Nat) {k a : Nat} {z : Int} (h : z < k) : mo (va_up ml k a) z = mo ml z := by
  unfold mo
  by_cases hz : z < 0
  · rw [if_pos hz, if_pos hz]
  · rw [if_neg hz, if_neg hz]
    have : z.toNat ≠ k := by omega
    simp [va_up, this]
theorem g_run2 {p : Program} {l : Launch} {e : Env} {R : Room} {s : State} {m : MethodId} {args : Array Value} {below : List Frame} {meth : Method} {c : Code} {H : Heap} {locs : List Loc} {cells slots : Nat} {Q : State → Prop} {pc : Nat} {ls : Array Slot} {rest : List Value} {Rg : Nat → Prop}
    {st0 : List Value} {Rg1 : Nat → Prop} {mc ms : Nat} {a : Array Value} {post : Option Value → Heap → Prop} {xp : String → Heap → Prop} (hr : vx_Run p l e R s m args below meth c H locs cells slots mc ms (F0 m pc ls st0) rest (gQ post (AR Rg1 H.size) a) (gX xp (AR Rg1 H.size)) (AR Rg1 H.size)) (hS : va_S (AR Rg s.heap.size) s.heap H locs) (hR1 : ∀ q, Rg1 q → AR Rg s.heap.size q)
    (kx : ∀ (E : String) (ce : Cell) (q9 : Addr) (H1 : Heap) (locs1 : List Loc), xp E H1 → H.size ≤ H1.size → (∀ q : Nat, q < H.size → ¬ Rg1 q → H1[q]? = H[q]?) → va_S (AR Rg s.heap.size) s.heap H1 locs1 → H1[q9]? = some ce → ce.vm = .none → s.vm.findClass E = some ce.cls → vx_W p l e R s m args below meth c H1 locs1 (cells + mc) (slots + ms) Q (F0 m pc ls rest) q9)
    (kk : ∀ (v : Option Value) (H1 : Heap) (locs1 : List Loc), post v H1 → H.size ≤ H1.size → (∀ q : Nat, q < H.size → ¬ Rg1 q → H1[q]? = H[q]?) → va_S (AR Rg s.heap.size) s.heap H1 locs1 → W p l e R s m args below meth c H1 locs1 (cells + mc) (slots + ms) Q (F0 m (pc + 3) ls (v.toList ++ rest))) :
    W p l e R s m args below meth c H locs cells slots Q (F0 m pc ls st0) := by
  have hA : ∀ q, q < H.size → AR Rg1 H.size q → AR Rg s.heap.size q := fun q h1 h2 => h2.elim (fun r => hR1 q r) (fun r => by omega)
  have hf : ∀ q, AR Rg1 H.size q → AR Rg s.heap.size q := fun q h2 => h2.elim (fun r => hR1 q r) (fun r => Or.inr (Nat.le_trans hS.1 r))
  have hn : ∀ {H1 : Heap}, (∀ q : Nat, q < H.size → ¬ AR Rg1 H.size q → H1[q]? = H[q]?) → ∀ q : Nat, q < H.size → ¬ Rg1 q → H1[q]? = H[q]? := fun h q h1 h2 => h q h1 (fun r => r.elim h2 (fun r => by omega))
  intro T hT X
  rcases hr T hT X with ⟨v, st₀, t, T', L, h0, X', hL, e1, e2, ⟨⟨v', hv, hp⟩, hF⟩, st⟩ | ⟨q, st₀, t, T', L, E, ce, h0, X', hL, e1, e2, ⟨hp, hF⟩, hce, hcv, hcl, st⟩
  · cases hv
    obtain ⟨k1, k2, k3⟩ := vx_keep h0 e1 hS hA hf hL hF
    obtain ⟨t2, a1, b1⟩ := kk v T'.heap (locs ++ L) (by rw [e1]; exact hp) k1 (hn k2) k3 T' rfl X'
    exact ⟨t2, st t2 a1, b1⟩
  · obtain ⟨k1, k2, k3⟩ := vx_keep h0 e1 hS hA hf hL hF
    obtain ⟨t2, a1, b1⟩ := kx E ce q T'.heap (locs ++ L) (by rw [e1]; exact hp) k1 (hn k2) k3 (by rw [e1]; exact hce) hcv hcl T' rfl X'
    exact ⟨t2, st.trans a1, b1⟩
set_option maxHeartbeats 4000000 in
set_option maxRecDepth 100000 in
theorem k_addMelody (l : Launch) (D : va_G) (ks : Nat → ClassId) (bx : Nat) (ml : Nat → Nat) (X : Nat → Nat → Int) (H : Heap) (hP : PX D ks bx ml X H) (hV : VX X) (hst : l.stackTraces = false) (hs76 : bx + 55 ≤ H.size) (u v2 t : Int) (hu : -2147483648 ≤ u ∧ u < 2147483648) (hv2 : -2147483648 ≤ v2 ∧ v2 < 2147483648) (ht : -9223372036854775808 ≤ t ∧ t < 9223372036854775808) : KM l yX4_addMelody wsX4_addMelody ({ frames := 7, cells := 3, slots := 18, locals := 111 } : Room) D ks bx [.ref bx, .int (z2 u), .int (z2 v2), .long (l2 t)] H (RX bx) (fun v H1 => ∃ k cn : Nat, ((0 ≤ u ∧ u < 8) ∧ ((v2 = cn ∧ 1 ≤ cn ∧ cn ≤ 12) ∧ 0 ≤ t ∧ t / 16 ^ cn = 0) ∧ X 4 0 = k ∧ k < 12) ∧ v = some (.int (z2 k)) ∧ ∃ a : Nat, PX D ks bx (va_up ml k a) (nX X k u v2 t) H1) (fun E H1 => TX H H1 ∧ ((E = "java/lang/IndexOutOfBoundsException" ∧ (¬ (0 ≤ u ∧ u < 8))) ∨ (E = "java/lang/IllegalArgumentException" ∧ ((0 ≤ u ∧ u < 8) ∧ ¬ ∃ cn : Nat, (v2 = cn ∧ 1 ≤ cn ∧ cn ≤ 12) ∧ 0 ≤ t ∧ t / 16 ^ cn = 0)) ∨ (E = "java/lang/IllegalStateException" ∧ ((0 ≤ u ∧ u < 8) ∧ (∃ cn : Nat, (v2 = cn ∧ 1 ≤ cn ∧ cn ≤ 12) ∧ 0 ≤ t ∧ t / 16 ^ cn = 0) ∧ 12 ≤ X 4 0)))) := by
  refine KM.of (cc := cX4_addMelody) (maxL := 6) (ret := (some .int)) (by decide) rfl (Nat.le_of_ble_eq_true rfl) ?_
  intro p e s m below meth c hx hb hml hr hlocks hown hname hts hext hH0 hG ls hl
  subst hH0
  have hown : s.vm.findClass RX4 = some m.cls := hown
  have hS : va_S (AR (RX bx) s.heap.size) s.heap s.heap [] := va_S.rf
  have hl : lv_has ls 6 [(0, .ref bx), (1, .int (z2 (u))), (2, .int (z2 (v2))), (3, .long (l2 t))] := hl
  have inX3 : ∀ w ∈ wsX30, w ∈ wsX4_addMelody := by decide +kernel
  have inX4 : ∀ w ∈ wsX40, w ∈ wsX4_addMelody := by decide +kernel
  have hw1 : ∀ w ∈ (vx_atS RX4 52 "java/lang/IllegalArgumentException" nm2).filter goodWord, w ∈ wsX4_addMelody := by decide +kernel
  have hw2 : ∀ w ∈ (vx_atS RX4 61 "java/lang/IllegalStateException" nm2).filter goodWord, w ∈ wsX4_addMelody := by decide +kernel
  have hbx : bx ≤ s.heap.size := Nat.le_of_lt (ca.lt hP.1)
  have b4 : 0 ≤ X 4 0 ∧ X 4 0 ≤ 12 := hV.1 4 0 rfl
  refine lv_aload_n hx hb dX4_addMelody_0 rfl (lv_at hl 0 rfl) ?_
  refine lv_iload_n hx hb dX4_addMelody_1 rfl (lv_at hl 1 rfl) ?_
  refine g_run (vx_runV (As := [.int (z2 (u))]) (rest := []) ⟨hx, hb, hml, hown, hts⟩ (k_checkHouse l D ks bx ml X _ hP hV hst (u) (by omega)) (cwV 1 hts gX4_addMelody_X4_checkHouse rfl rfl rfl (by decide +kernel) ⟨Nat.le_of_ble_eq_true rfl, Nat.le_of_ble_eq_true rfl⟩) (g_preV (r := (RX4, TX4, 7)) hG hS rx_ge hP.1 rfl) rfl rfl hl.1 rfl (lv_room (Nat.le_of_ble_eq_true rfl)) dX4_addMelody_2 ⟨Nat.le_of_ble_eq_true rfl, Nat.le_of_ble_eq_true rfl⟩) hS (fun _ h => h) (fun E ce q9 H1 locs1 hp hz9 hk9 hS hce hcv hcl => g_out hext hlocks hS hce hcv hcl ⟨Nat.le_of_ble_eq_true rfl, Nat.le_of_ble_eq_true rfl⟩ (by obtain ⟨t9, e9, c9⟩ := hp; exact ⟨t9, Or.inl (⟨e9, by omega⟩)⟩)) (fun v H1 locs hp hz9 hk9 hS => ?_)
  obtain ⟨hc9, rfl, hH9⟩ := hp
  obtain rfl := hH9.symm
  refine W.eq (g2 := F0 m 5 ls []) rfl ?_
  refine lv_iload_n hx hb dX4_addMelody_5 rfl (lv_at hl 2 rfl) ?_
  refine b_iconst hx hb dX4_addMelody_6 ?_
  refine b_icmp_lt (tgt := 16) hx hb dX4_addMelody_7 (by decide) ⟨⟨by omega, by omega⟩, ⟨by omega, by omega⟩⟩ (fun c_7 => ?_) (fun c_7 => ?_)
  · skip
    exact g_throw hx hb hst hts hown hG (by decide +kernel) (List.mem_of_getElem? (i := 1) rfl) (by decide +kernel) (by decide +kernel) hw1 thr_ng1 (List.mem_of_getElem? (i := 29) rfl) thr_go1 hS rx_ge hbx (hl.1.trans hml.symm) dX4_addMelody_16 dX4_addMelody_19 dX4_addMelody_20 dX4_addMelody_22 dX4_addMelody_25 hext ⟨Nat.le_of_ble_eq_true rfl, Nat.le_of_ble_eq_true rfl, Nat.le_of_ble_eq_true rfl, Nat.le_of_ble_eq_true rfl⟩ hlocks ⟨Nat.le_of_ble_eq_true rfl, Nat.le_of_ble_eq_true rfl⟩ (fun H1 hz9 hk9 => ⟨⟨hz9, hk9⟩, Or.inr (Or.inl (⟨rfl, by omega, fun ⟨cn9, h1, h2, h3⟩ => by omega⟩))⟩)
  · skip
    refine lv_iload_n hx hb dX4_addMelody_10 rfl (lv_at hl 2 rfl) ?_
    refine b_bipush hx hb dX4_addMelody_11 (by decide +kernel) ?_
    refine b_icmp_le (tgt := 26) hx hb dX4_addMelody_13 (by decide) ⟨⟨by omega, by omega⟩, ⟨by omega, by omega⟩⟩ (fun c_13 => ?_) (fun c_13 => ?_)
    · skip
      obtain ⟨cn, rfl⟩ : ∃ cn : Nat, v2 = cn := ⟨(v2).toNat, by omega⟩
      have tb : 0 ≤ t → 0 ≤ t / 16 ^ cn ∧ t / 16 ^ cn ≤ t := fun h => ⟨Int.ediv_nonneg h (Int.le_of_lt (Int.pow_pos (by decide))), Int.ediv_le_self _ h⟩
      refine lv_lload_n hx hb dX4_addMelody_26 rfl (lv_at hl 3 rfl) ?_
      refine lv_lconst (v := l2 0) hx hb dX4_addMelody_27 (by decide +kernel) ?_
      refine W.lcmp hx hb dX4_addMelody_28 ?_
      obtain ⟨cv28, ecv28, bcv28⟩ : ∃ z : Int, z = (if 0 < t then 1 else if t = 0 then 0 else -1) ∧ -1 ≤ z ∧ z ≤ 1 := ⟨_, rfl, by (repeat' split) <;> omega, by (repeat' split) <;> omega⟩
      refine b_top (v := cv28) ((l2_cmp ⟨by omega, by omega⟩ ⟨by omega, by omega⟩).trans (by rw [ecv28])) ?_
      refine b_if_lt (tgt := 42) hx hb dX4_addMelody_29 (by decide) ⟨by omega, by omega⟩ (fun c_29 => ?_) (fun c_29 => ?_)
      · skip
        exact g_throw hx hb hst hts hown hG (by decide +kernel) (List.mem_of_getElem? (i := 2) rfl) (by decide +kernel) (by decide +kernel) hw1 thr_ng1 (List.mem_of_getElem? (i := 29) rfl) thr_go1 hS rx_ge hbx (hl.1.trans hml.symm) dX4_addMelody_42 dX4_addMelody_45 dX4_addMelody_46 dX4_addMelody_48 dX4_addMelody_51 hext ⟨Nat.le_of_ble_eq_true rfl, Nat.le_of_ble_eq_true rfl, Nat.le_of_ble_eq_true rfl, Nat.le_of_ble_eq_true rfl⟩ hlocks ⟨Nat.le_of_ble_eq_true rfl, Nat.le_of_ble_eq_true rfl⟩ (fun H1 hz9 hk9 => ⟨⟨hz9, hk9⟩, Or.inr (Or.inl (⟨rfl, by omega, fun ⟨cn9, h1, h2, h3⟩ => by first | omega | (obtain rfl : cn = cn9 := (by omega); omega)⟩))⟩)
      · skip
        refine lv_lload_n hx hb dX4_addMelody_32 rfl (lv_at hl 3 rfl) ?_
        refine b_iconst hx hb dX4_addMelody_33 ?_
        refine lv_iload_n hx hb dX4_addMelody_34 rfl (lv_at hl 2 rfl) ?_
        refine b_imul hx hb dX4_addMelody_35 ?_
        refine lv_lshr hx hb dX4_addMelody_36 rfl ?_
        have tb2 := tb (by omega)
        refine b_topl (v := t / 16 ^ cn) (l2_tone ⟨by omega, by omega⟩ (by omega)) ?_
        refine lv_lconst (v := l2 0) hx hb dX4_addMelody_37 (by decide +kernel) ?_
        refine W.lcmp hx hb dX4_addMelody_38 ?_
        obtain ⟨cv38, ecv38, bcv38⟩ : ∃ z : Int, z = (if 0 < (t / 16 ^ cn) then 1 else if (t / 16 ^ cn) = 0 then 0 else -1) ∧ -1 ≤ z ∧ z ≤ 1 := ⟨_, rfl, by (repeat' split) <;> omega, by (repeat' split) <;> omega⟩
        refine b_top (v := cv38) ((l2_cmp ⟨by omega, by omega⟩ ⟨by omega, by omega⟩).trans (by rw [ecv38])) ?_
        refine b_if_eq (tgt := 52) hx hb dX4_addMelody_39 (by decide) ⟨by omega, by omega⟩ (fun c_39 => ?_) (fun c_39 => ?_)
        · skip
          refine lv_aload_n hx hb dX4_addMelody_52 rfl (lv_at hl 0 rfl) ?_
          have b_53 : 0 ≤ X 4 0 ∧ X 4 0 ≤ 12 := hV.1 4 _ rfl
          refine g_get (C := RX4) (T := TX4) (N := 7) hx hb hts inX4 hown hG hP.1 rfl 4 (by decide) (by decide +kernel) rfl (v := .int (z2 (X 4 0))) rfl dX4_addMelody_53 ?_
          refine b_bipush hx hb dX4_addMelody_56 (by decide +kernel) ?_
          refine b_icmp_lt (tgt := 71) hx hb dX4_addMelody_58 (by decide) ⟨⟨by omega, by omega⟩, ⟨by omega, by omega⟩⟩ (fun c_58 => ?_) (fun c_58 => ?_)
          · skip
            obtain ⟨k, hk40⟩ : ∃ k : Nat, X 4 0 = k := ⟨(X 4 0).toNat, by omega⟩
            refine lv_aload_n hx hb dX4_addMelody_71 rfl (lv_at hl 0 rfl) ?_
            have b_72 : 0 ≤ X 4 0 ∧ X 4 0 ≤ 12 := hV.1 4 _ rfl
            refine g_get (C := RX4) (T := TX4) (N := 7) hx hb hts inX4 hown hG hP.1 rfl 4 (by decide) (by decide +kernel) rfl (v := .int (z2 (X 4 0))) rfl dX4_addMelody_72 ?_
            refine lv_istore (lv' := [(5, .int (z2 (X 4 0))), (0, .ref bx), (1, .int (z2 (u))), (2, .int (z2 (((cn : Nat) : Int)))), (3, .long (l2 t))]) hx hb dX4_addMelody_75 hl (by decide) rfl (fun ls hl => ?_)
            refine lv_aload_n hx hb dX4_addMelody_77 rfl (lv_at hl 1 rfl) ?_
            refine g_get (C := RX4) (T := TX4) (N := 7) hx hb hts inX4 hown hG hP.1 rfl 2 (by decide) (by decide +kernel) rfl (v := .ref (bx + 3)) rfl dX4_addMelody_78 ?_
            refine lv_iload hx hb dX4_addMelody_81 (lv_at hl 0 rfl) ?_
            refine g_new (C := RX3) (T := TX3) (N := 4) (fs := [.int (z2 0), .int (z2 0), .int (z2 0), .long (l2 0)]) hx hb hts inX3 tyX3 tyX3_ok hown (by decide +kernel) (by decide +kernel) (by decide +kernel) hG hS (ci := 3) rfl dfX3 ⟨Nat.le_of_ble_eq_true rfl, Nat.le_of_ble_eq_true rfl⟩ dX4_addMelody_83 (fun H hc z1 o1 hS => ?_)
            refine lv_dup hx hb dX4_addMelody_86 rfl ?_
            refine lv_iload hx hb dX4_addMelody_87 (lv_at hl 0 rfl) ?_
            refine lv_iload_n hx hb dX4_addMelody_89 rfl (lv_at hl 2 rfl) ?_
            refine lv_iload_n hx hb dX4_addMelody_90 rfl (lv_at hl 3 rfl) ?_
            refine lv_lload_n hx hb dX4_addMelody_91 rfl (lv_at hl 4 rfl) ?_
            refine g_run2 (vx_runI (As := [.int (z2 (X 4 0)), .int (z2 (u)), .int (z2 (((cn : Nat) : Int))), .long (l2 t)]) (rest := (.ref s.heap.size :: [.int (z2 (X 4 0)), .ref (bx + 3)])) ⟨hx, hb, hml, hown, hts⟩ (k_X3init l D ks bx s.heap.size _ hc hbx (X 4 0) u (cn : Int) t) (cwI 4 hts gX4_addMelody_X3_init rfl rfl rfl (hts (.initialized RX3) (by decide +kernel)) (hts (.methodLink RX4 62 yX3_init) (by decide +kernel)) (hts (.instanceMethod yX3_init) (by decide +kernel)) rfl (by decide +kernel) ⟨Nat.le_of_ble_eq_true rfl, Nat.le_of_ble_eq_true rfl⟩) (g_preS hG hS rx_ge) rfl rfl hl.1 rfl (lv_room (Nat.le_of_ble_eq_true rfl)) dX4_addMelody_92 ⟨Nat.le_of_ble_eq_true rfl, Nat.le_of_ble_eq_true rfl⟩) hS (fun q h => Or.inr h) (fun _ _ _ _ _ h => h.elim) (fun v H locs hp hz9 hk9 hS => ?_)
            obtain ⟨rfl, hs9, hc⟩ := hp
            have kq : ∀ q : Nat, q < s.heap.size → H[q]? = s.heap[q]? := fun q h => (hk9 q (by omega) (fun h2 => by have : s.heap.size ≤ q := h2; omega)).trans (o1 q h)
            have hsz : H.size = s.heap.size + 1 := hs9.trans z1
            have c3 := hP.2.2.2.1.kept (kq _ (ca.lt hP.2.2.2.1))
            have c0 := hP.1.kept (kq _ (ca.lt hP.1))
            refine W.eq (g2 := F0 m 95 ls (.ref s.heap.size :: [.int (z2 (X 4 0)), .ref (bx + 3)])) rfl ?_
            refine g_aast (n := 12) hx hb hG hS 5 rfl c3 (Or.inl ⟨by omega, by omega⟩) hc (r := (RX3, TX3, 4)) rfl k ⟨by omega, by omega, by decide⟩ dX4_addMelody_95 (fun H locs he1 hz9 oq1 hS => ?_)
            have c0 := c0.kept (oq1 _ (by omega))
            refine lv_aload_n hx hb dX4_addMelody_96 rfl (lv_at hl 1 rfl) ?_
            refine lv_dup hx hb dX4_addMelody_97 rfl ?_
            refine g_get (C := RX4) (T := TX4) (N := 7) hx hb hts inX4 hown hG c0 rfl 4 (by decide) (by decide +kernel) rfl (v := .int (z2 (X 4 0))) rfl dX4_addMelody_98 ?_
            refine b_iconst hx hb dX4_addMelody_101 ?_
            refine b_iadd hx hb dX4_addMelody_102 ?_
            refine g_put (C := RX4) (T := TX4) (N := 7) hx hb hts inX4 tyX4 tyX4_ok nmX4 hown hG hS c0 (Or.inl ⟨by omega, by omega⟩) rfl 4 (by decide) (by decide +kernel) rfl rfl (v := .int (z2 (X 4 0 + 1))) rfl rfl (Nat.le_of_ble_eq_true rfl) dX4_addMelody_103 (fun H locs he2 hz9 oq2 hS => ?_)
            refine lv_iload hx hb dX4_addMelody_106 (lv_at hl 0 rfl) ?_
            have ek1 : X 4 0 + 1 = ((k + 1 : Nat) : Int) := by omega
            rw [ek1] at he2
            have hc := (hc.kept (oq1 _ (by have := ca.lt hP.2.2.2.1; omega))).kept (oq2 _ (by have := ca.lt hP.1; omega))
            rw [hk40] at hc
            have hP9 : PX D ks bx (va_up ml k s.heap.size) (nX X k u cn t) _ := hP.more hk40 (fun h b _ _ => mo_up ml (by have := hV.2.1 (3 * h + b); omega)) hs76 hc (he1.kept (oq2 _ (by omega))) he2 (fun q h h1 h2 => (oq2 q h2).trans ((oq1 q h1).trans (kq q h)))
            exact g_iret hx hb hr hlocks hS ⟨Nat.le_of_ble_eq_true rfl, Nat.le_of_ble_eq_true rfl⟩ (⟨k, cn, by omega, congrArg (fun z => some (Value.int (z2 z))) hk40, s.heap.size, hP9⟩) dX4_addMelody_108
          · skip
            exact g_throw hx hb hst hts hown hG (by decide +kernel) (List.mem_of_getElem? (i := 3) rfl) (by decide +kernel) (by decide +kernel) hw2 thr_ng2 (List.mem_of_getElem? (i := 30) rfl) thr_go2 hS rx_ge hbx (hl.1.trans hml.symm) dX4_addMelody_61 dX4_addMelody_64 dX4_addMelody_65 dX4_addMelody_67 dX4_addMelody_70 hext ⟨Nat.le_of_ble_eq_true rfl, Nat.le_of_ble_eq_true rfl, Nat.le_of_ble_eq_true rfl, Nat.le_of_ble_eq_true rfl⟩ hlocks ⟨Nat.le_of_ble_eq_true rfl, Nat.le_of_ble_eq_true rfl⟩ (fun H1 hz9 hk9 => ⟨⟨hz9, hk9⟩, Or.inr (Or.inr (⟨rfl, by omega, ⟨cn, by omega⟩, by omega⟩))⟩)
        · skip
          exact g_throw hx hb hst hts hown hG (by decide +kernel) (List.mem_of_getElem? (i := 2) rfl) (by decide +kernel) (by decide +kernel) hw1 thr_ng1 (List.mem_of_getElem? (i := 29) rfl) thr_go1 hS rx_ge hbx (hl.1.trans hml.symm) dX4_addMelody_42 dX4_addMelody_45 dX4_addMelody_46 dX4_addMelody_48 dX4_addMelody_51 hext ⟨Nat.le_of_ble_eq_true rfl, Nat.le_of_ble_eq_true rfl, Nat.le_of_ble_eq_true rfl, Nat.le_of_ble_eq_true rfl⟩ hlocks ⟨Nat.le_of_ble_eq_true rfl, Nat.le_of_ble_eq_true rfl⟩ (fun H1 hz9 hk9 => ⟨⟨hz9, hk9⟩, Or.inr (Or.inl (⟨rfl, by omega, fun ⟨cn9, h1, h2, h3⟩ => by first | omega | (obtain rfl : cn = cn9 := (by omega); omega)⟩))⟩)
    · skip
      exact g_throw hx hb hst hts hown hG (by decide +kernel) (List.mem_of_getElem? (i := 1) rfl) (by decide +kernel) (by decide +kernel) hw1 thr_ng1 (List.mem_of_getElem? (i := 29) rfl) thr_go1 hS rx_ge hbx (hl.1.trans hml.symm) dX4_addMelody_16 dX4_addMelody_19 dX4_addMelody_20 dX4_addMelody_22 dX4_addMelody_25 hext ⟨Nat.le_of_ble_eq_true rfl, Nat.le_of_ble_eq_true rfl, Nat.le_of_ble_eq_true rfl, Nat.le_of_ble_eq_true rfl⟩ hlocks ⟨Nat.le_of_ble_eq_true rfl, Nat.le_of_ble_eq_true rfl⟩ (fun H1 hz9 hk9 => ⟨⟨hz9, hk9⟩, Or.inr (Or.inl (⟨rfl, by omega, fun ⟨cn9, h1, h2, h3⟩ => by omega⟩))⟩)
