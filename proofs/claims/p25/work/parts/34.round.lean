/-! THE LAW: a round of its loop. -/
set_option maxHeartbeats 4000000 in
set_option maxRecDepth 100000 in
theorem law_c {p : Program} {e : Env} {s : State} {m : MethodId} {below : List Frame} {meth : Method} {c : Code} (l : Launch) (hst : l.stackTraces = false) {D : va_G} {ks : Nat → ClassId} {sb bx nL q tn : Nat} {v : Int} {n b k : Nat} {xs : Nat → Int32} {Q : State → Prop} (hx : p.tables.exec = Jvm.exec) (hb : c.code = cL_law) (hml : c.maxLocals = 15) (hown : s.vm.findClass RL = some m.cls) (hts : ∀ w ∈ wsL_law, w.before #[Value.ref sb] s = true) (hX : va_X sb nL xs s s.heap) (hbl : sb < s.heap.size) (hG : GE D ks bx s) (hbb : sb < bx) (hnL : nL ≤ 260) (hq : q < 56) {H : Heap} {locs : List Loc} {ls : Array Slot} {cells slots : Nat} (hcs : cells + 1000 ≤ room_1.cells ∧ slots + 6000 ≤ room_1.slots) {ml : Nat → Nat} {X : Nat → Nat → Int} (hL : LV q X) (hP : PX D ks bx ml X H) (hS : va_S (AR (RC bx) s.heap.size) s.heap H locs) (hl : lv_has ls 15 [(0, .ref sb), (1, .ref bx), (2, .int (z2 (X 4 0))), (3, .int (z2 (1))), (4, .int (z2 (((tn : Nat) : Int)))), (5, .int (z2 (((q : Nat) : Int)))), (6, .int (z2 (v))), (7, .int (z2 (((n : Nat) : Int)))), (8, .int (z2 (((b : Nat) : Int))))])
    (hv : -2147483648 ≤ v ∧ v < 2147483648) (hn : n < 8) (hb3 : b < 3) (hk : X 4 0 = 0 ∨ (k : Int) < X 4 0) (kk : ∀ (ml1 : Nat → Nat) (X1 : Nat → Nat → Int) (H1 : Heap) (locs1 : List Loc) (ls1 : Array Slot), LV (q + 1) X1 → PX D ks bx ml1 X1 H1 → va_S (AR (RC bx) s.heap.size) s.heap H1 locs1 → lv_has ls1 15 [(0, .ref sb), (1, .ref bx), (2, .int (z2 (X1 4 0))), (3, .int (z2 (1))), (4, .int (z2 (((tn : Nat) : Int)))), (5, .int (z2 (((q : Nat) : Int))))] → W p l e room_1 s m #[Value.ref sb] below meth c H1 locs1 (cells + 200) (slots + 1200) Q (F0 m 721 ls1 [])) :
    W p l e room_1 s m #[Value.ref sb] below meth c H locs cells slots Q (F0 m 124 ls [.int (z2 ((k : Nat) : Int))]) := by
  obtain ⟨hV, hT, hY⟩ := id hL
  have b4 : 0 ≤ X 4 0 ∧ X 4 0 ≤ 12 := hV.1 4 0 rfl
  obtain ⟨w20, hw20, ew20⟩ := z2_ex ((z2 v) >>> ((z2 20) &&& 31))
  refine lv_istore (lv' := [(9, .int (z2 (((k : Nat) : Int)))), (0, .ref sb), (1, .ref bx), (2, .int (z2 (X 4 0))), (3, .int (z2 (1))), (4, .int (z2 (((tn : Nat) : Int)))), (5, .int (z2 (((q : Nat) : Int)))), (6, .int (z2 (v))), (7, .int (z2 (((n : Nat) : Int)))), (8, .int (z2 (((b : Nat) : Int))))]) hx hb dL_law_124 hl (by decide) rfl (fun ls hl => ?_)
  refine lv_iload hx hb dL_law_126 (lv_at hl 7 rfl) ?_
  refine b_bipush hx hb dL_law_128 (by decide +kernel) ?_
  refine lv_ishr hx hb dL_law_130 ?_
  refine b_top (v := w20) ew20 ?_
  refine b_bipush hx hb dL_law_131 (by decide +kernel) ?_
  refine g_run (vx_runS (As := [.int (z2 (w20)), .int (z2 (18))]) (rest := []) ⟨hx, hb, hml, hown, hts⟩ (w_low l D ks bx _ (w20) (18) ⟨by omega, by omega⟩ ⟨by omega, by omega⟩) (cwS 2 hts gL_law_L_low rfl rfl rfl (by decide +kernel) ⟨Nat.le_of_ble_eq_true rfl, Nat.le_of_ble_eq_true rfl⟩) (g_preS hG hS (fun _ h => h)) rfl rfl hl.1 rfl (lv_room (Nat.le_of_ble_eq_true rfl)) dL_law_133 ⟨by show cells + 0 ≤ room_1.cells; omega, by show slots + 0 ≤ room_1.slots; omega⟩) hS (fun q h => rx_ge q h) (fun _ _ _ _ _ h => h.elim) (fun v H locs hp hz9 hk9 hS => ?_)
  obtain ⟨rfl, hH9⟩ := hp
  obtain rfl := hH9.symm
  obtain ⟨x133, hx133, ex133⟩ : ∃ z : Int, (0 ≤ z ∧ z < (18)) ∧ z = (w20) % 2147483648 % (18) := ⟨_, ⟨Int.emod_nonneg _ (by omega), Int.emod_lt_of_pos _ (by omega)⟩, rfl⟩
  rw [← ex133]
  refine W.eq (g2 := F0 m 136 ls [.int (z2 (x133))]) rfl ?_
  refine lv_istore (lv' := [(10, .int (z2 (x133))), (9, .int (z2 (((k : Nat) : Int)))), (0, .ref sb), (1, .ref bx), (2, .int (z2 (X 4 0))), (3, .int (z2 (1))), (4, .int (z2 (((tn : Nat) : Int)))), (5, .int (z2 (((q : Nat) : Int)))), (6, .int (z2 (v))), (7, .int (z2 (((n : Nat) : Int)))), (8, .int (z2 (((b : Nat) : Int))))]) hx hb dL_law_136 hl (by decide) rfl (fun ls hl => ?_)
  refine lv_iload_n hx hb dL_law_138 rfl (lv_at hl 4 rfl) ?_
  refine b_if_eq (tgt := 148) hx hb dL_law_139 (by decide) ⟨by omega, by omega⟩ (fun c_139 => ?_) (fun c_139 => ?_)
  · skip
    refine W.widen (k := cells) (n := slots) (by show cells + 0 ≤ cells; omega) (by show slots + 0 ≤ slots; omega) ?_
    exact c_melody l hst hx hb hml hown hts hX hbl hG hbb hnL hq hcs hL hP hS (lv_sub hl [2, 3, 4, 5, 6, 7, 8, 9, 10, 1] rfl) hv hn hb3 kk
  · skip
    refine lv_iload hx hb dL_law_142 (lv_at hl 0 rfl) ?_
    refine b_iconst hx hb dL_law_144 ?_
    refine b_icmp_ge (tgt := 277) hx hb dL_law_145 (by decide) ⟨⟨by omega, by omega⟩, ⟨by omega, by omega⟩⟩ (fun c_145 => ?_) (fun c_145 => ?_)
    · skip
      refine lv_iload hx hb dL_law_277 (lv_at hl 0 rfl) ?_
      refine b_iconst hx hb dL_law_279 ?_
      refine b_icmp_ge (tgt := 397) hx hb dL_law_280 (by decide) ⟨⟨by omega, by omega⟩, ⟨by omega, by omega⟩⟩ (fun c_280 => ?_) (fun c_280 => ?_)
      · skip
        refine lv_iload hx hb dL_law_397 (lv_at hl 0 rfl) ?_
        refine b_bipush hx hb dL_law_399 (by decide +kernel) ?_
        refine b_icmp_ge (tgt := 471) hx hb dL_law_401 (by decide) ⟨⟨by omega, by omega⟩, ⟨by omega, by omega⟩⟩ (fun c_401 => ?_) (fun c_401 => ?_)
        · skip
          refine lv_iload hx hb dL_law_471 (lv_at hl 0 rfl) ?_
          refine b_bipush hx hb dL_law_473 (by decide +kernel) ?_
          refine b_icmp_ge (tgt := 490) hx hb dL_law_475 (by decide) ⟨⟨by omega, by omega⟩, ⟨by omega, by omega⟩⟩ (fun c_475 => ?_) (fun c_475 => ?_)
          · skip
            refine lv_iload hx hb dL_law_490 (lv_at hl 0 rfl) ?_
            refine b_bipush hx hb dL_law_492 (by decide +kernel) ?_
            refine b_icmp_ge (tgt := 507) hx hb dL_law_494 (by decide) ⟨⟨by omega, by omega⟩, ⟨by omega, by omega⟩⟩ (fun c_494 => ?_) (fun c_494 => ?_)
            · skip
              refine lv_iload hx hb dL_law_507 (lv_at hl 0 rfl) ?_
              refine b_bipush hx hb dL_law_509 (by decide +kernel) ?_
              refine b_icmp_ge (tgt := 574) hx hb dL_law_511 (by decide) ⟨⟨by omega, by omega⟩, ⟨by omega, by omega⟩⟩ (fun c_511 => ?_) (fun c_511 => ?_)
              · skip
                refine lv_iload hx hb dL_law_574 (lv_at hl 0 rfl) ?_
                refine b_bipush hx hb dL_law_576 (by decide +kernel) ?_
                refine b_icmp_ge (tgt := 654) hx hb dL_law_578 (by decide) ⟨⟨by omega, by omega⟩, ⟨by omega, by omega⟩⟩ (fun c_578 => ?_) (fun c_578 => ?_)
                · skip
                  refine W.widen (k := cells) (n := slots) (by show cells + 0 ≤ cells; omega) (by show slots + 0 ≤ slots; omega) ?_
                  exact c_pass l hst hx hb hml hown hts hX hbl hG hbb hnL hq hcs hL hP hS (lv_sub hl [2, 3, 4, 5, 6, 7, 8, 9, 10, 1] rfl) hv hn hb3 kk
                · skip
                  refine W.widen (k := cells) (n := slots) (by show cells + 0 ≤ cells; omega) (by show slots + 0 ≤ slots; omega) ?_
                  exact c_quiet l hst hx hb hml hown hts hX hbl hG hbb hnL hq hcs hL hP hS (lv_sub hl [2, 3, 4, 5, 6, 7, 8, 9, 10, 1] rfl) hv hn hb3 kk
              · skip
                refine W.widen (k := cells) (n := slots) (by show cells + 0 ≤ cells; omega) (by show slots + 0 ≤ slots; omega) ?_
                exact c_repair l hst hx hb hml hown hts hX hbl hG hbb hnL hq hcs hL hP hS (lv_sub hl [2, 3, 4, 5, 6, 7, 8, 9, 10, 1] rfl) hv hn hb3 kk
            · skip
              refine W.widen (k := cells) (n := slots) (by show cells + 0 ≤ cells; omega) (by show slots + 0 ≤ slots; omega) ?_
              exact c_fault l hst hx hb hml hown hts hX hbl hG hbb hnL hq hcs hL hP hS (lv_sub hl [2, 3, 4, 5, 6, 7, 8, 9, 10, 1] rfl) hv hn hb3 kk
          · skip
            refine W.widen (k := cells) (n := slots) (by show cells + 0 ≤ cells; omega) (by show slots + 0 ≤ slots; omega) ?_
            exact c_press l hst hx hb hml hown hts hX hbl hG hbb hnL hq hcs hL hP hS (lv_sub hl [2, 3, 4, 5, 6, 7, 8, 9, 10, 1] rfl) hv hn hb3 kk
        · skip
          refine W.widen (k := cells) (n := slots) (by show cells + 0 ≤ cells; omega) (by show slots + 0 ≤ slots; omega) ?_
          exact c_lay l hst hx hb hml hown hts hX hbl hG hbb hnL hq hcs hL hP hS (lv_sub hl [2, 3, 4, 5, 6, 7, 8, 9, 10, 1] rfl) hv hn hb3 (by omega) kk
      · skip
        refine W.widen (k := cells) (n := slots) (by show cells + 0 ≤ cells; omega) (by show slots + 0 ≤ slots; omega) ?_
        exact c_license l hst hx hb hml hown hts hX hbl hG hbb hnL hq hcs hL hP hS (lv_sub hl [2, 3, 4, 5, 6, 7, 8, 9, 10, 1] rfl) hv hn hb3 (by omega) kk
    · skip
      refine W.widen (k := cells) (n := slots) (by show cells + 0 ≤ cells; omega) (by show slots + 0 ≤ slots; omega) ?_
      exact c_melody l hst hx hb hml hown hts hX hbl hG hbb hnL hq hcs hL hP hS (lv_sub hl [2, 3, 4, 5, 6, 7, 8, 9, 10, 1] rfl) hv hn hb3 kk
set_option maxHeartbeats 4000000 in
set_option maxRecDepth 100000 in
theorem law_b {p : Program} {e : Env} {s : State} {m : MethodId} {below : List Frame} {meth : Method} {c : Code} (l : Launch) (hst : l.stackTraces = false) {D : va_G} {ks : Nat → ClassId} {sb bx nL q tn : Nat} {v : Int} {n : Nat} {xs : Nat → Int32} {Q : State → Prop} (hx : p.tables.exec = Jvm.exec) (hb : c.code = cL_law) (hml : c.maxLocals = 15) (hown : s.vm.findClass RL = some m.cls) (hts : ∀ w ∈ wsL_law, w.before #[Value.ref sb] s = true) (hX : va_X sb nL xs s s.heap) (hbl : sb < s.heap.size) (hG : GE D ks bx s) (hbb : sb < bx) (hnL : nL ≤ 260) (hq : q < 56) {H : Heap} {locs : List Loc} {ls : Array Slot} {cells slots : Nat} (hcs : cells + 1000 ≤ room_1.cells ∧ slots + 6000 ≤ room_1.slots) {ml : Nat → Nat} {X : Nat → Nat → Int} (hL : LV q X) (hP : PX D ks bx ml X H) (hS : va_S (AR (RC bx) s.heap.size) s.heap H locs) (hl : lv_has ls 15 [(0, .ref sb), (1, .ref bx), (2, .int (z2 (X 4 0))), (3, .int (z2 (1))), (4, .int (z2 (((tn : Nat) : Int)))), (5, .int (z2 (((q : Nat) : Int)))), (6, .int (z2 (v)))])
    (hv : -2147483648 ≤ v ∧ v < 2147483648) (hn : n < 8) (kk : ∀ (ml1 : Nat → Nat) (X1 : Nat → Nat → Int) (H1 : Heap) (locs1 : List Loc) (ls1 : Array Slot), LV (q + 1) X1 → PX D ks bx ml1 X1 H1 → va_S (AR (RC bx) s.heap.size) s.heap H1 locs1 → lv_has ls1 15 [(0, .ref sb), (1, .ref bx), (2, .int (z2 (X1 4 0))), (3, .int (z2 (1))), (4, .int (z2 (((tn : Nat) : Int)))), (5, .int (z2 (((q : Nat) : Int))))] → W p l e room_1 s m #[Value.ref sb] below meth c H1 locs1 (cells + 200) (slots + 1200) Q (F0 m 721 ls1 [])) :
    W p l e room_1 s m #[Value.ref sb] below meth c H locs cells slots Q (F0 m 94 ls [.int (z2 ((n : Nat) : Int))]) := by
  obtain ⟨hV, hT, hY⟩ := id hL
  have b4 : 0 ≤ X 4 0 ∧ X 4 0 ≤ 12 := hV.1 4 0 rfl
  obtain ⟨w6, hw6, ew6⟩ := z2_ex ((z2 v) >>> ((z2 6) &&& 31))
  obtain ⟨w8, hw8, ew8⟩ := z2_ex ((z2 v) >>> ((z2 8) &&& 31))
  refine lv_istore (lv' := [(7, .int (z2 (((n : Nat) : Int)))), (0, .ref sb), (1, .ref bx), (2, .int (z2 (X 4 0))), (3, .int (z2 (1))), (4, .int (z2 (((tn : Nat) : Int)))), (5, .int (z2 (((q : Nat) : Int)))), (6, .int (z2 (v)))]) hx hb dL_law_94 hl (by decide) rfl (fun ls hl => ?_)
  refine lv_iload hx hb dL_law_96 (lv_at hl 7 rfl) ?_
  refine b_bipush hx hb dL_law_98 (by decide +kernel) ?_
  refine lv_ishr hx hb dL_law_100 ?_
  refine b_top (v := w6) ew6 ?_
  refine b_iconst hx hb dL_law_101 ?_
  refine g_run (vx_runS (As := [.int (z2 (w6)), .int (z2 (3))]) (rest := []) ⟨hx, hb, hml, hown, hts⟩ (w_low l D ks bx _ (w6) (3) ⟨by omega, by omega⟩ ⟨by omega, by omega⟩) (cwS 2 hts gL_law_L_low rfl rfl rfl (by decide +kernel) ⟨Nat.le_of_ble_eq_true rfl, Nat.le_of_ble_eq_true rfl⟩) (g_preS hG hS (fun _ h => h)) rfl rfl hl.1 rfl (lv_room (Nat.le_of_ble_eq_true rfl)) dL_law_102 ⟨by show cells + 0 ≤ room_1.cells; omega, by show slots + 0 ≤ room_1.slots; omega⟩) hS (fun q h => rx_ge q h) (fun _ _ _ _ _ h => h.elim) (fun v H locs hp hz9 hk9 hS => ?_)
  obtain ⟨rfl, hH9⟩ := hp
  obtain rfl := hH9.symm
  obtain ⟨x102, hx102, ex102⟩ : ∃ z : Int, (0 ≤ z ∧ z < (3)) ∧ z = (w6) % 2147483648 % (3) := ⟨_, ⟨Int.emod_nonneg _ (by omega), Int.emod_lt_of_pos _ (by omega)⟩, rfl⟩
  rw [← ex102]
  refine W.eq (g2 := F0 m 105 ls [.int (z2 (x102))]) rfl ?_
  obtain ⟨b, hbe⟩ : ∃ b : Nat, x102 = ((b : Nat) : Int) := ⟨(x102).toNat, by omega⟩
  refine b_top (v := ((b : Nat) : Int)) (congrArg z2 hbe) ?_
  refine lv_istore (lv' := [(8, .int (z2 (((b : Nat) : Int)))), (7, .int (z2 (((n : Nat) : Int)))), (0, .ref sb), (1, .ref bx), (2, .int (z2 (X 4 0))), (3, .int (z2 (1))), (4, .int (z2 (((tn : Nat) : Int)))), (5, .int (z2 (((q : Nat) : Int)))), (6, .int (z2 (v)))]) hx hb dL_law_105 hl (by decide) rfl (fun ls hl => ?_)
  refine lv_iload_n hx hb dL_law_107 rfl (lv_at hl 4 rfl) ?_
  refine b_if_ne (tgt := 115) hx hb dL_law_108 (by decide) ⟨by omega, by omega⟩ (fun c_108 => ?_) (fun c_108 => ?_)
  · skip
    refine lv_iload hx hb dL_law_115 (lv_at hl 8 rfl) ?_
    refine b_bipush hx hb dL_law_117 (by decide +kernel) ?_
    refine lv_ishr hx hb dL_law_119 ?_
    refine b_top (v := w8) ew8 ?_
    refine lv_iload_n hx hb dL_law_120 rfl (lv_at hl 4 rfl) ?_
    refine g_run (vx_runS (As := [.int (z2 (w8)), .int (z2 (X 4 0))]) (rest := []) ⟨hx, hb, hml, hown, hts⟩ (w_low l D ks bx _ (w8) (X 4 0) ⟨by omega, by omega⟩ ⟨by omega, by omega⟩) (cwS 2 hts gL_law_L_low rfl rfl rfl (by decide +kernel) ⟨Nat.le_of_ble_eq_true rfl, Nat.le_of_ble_eq_true rfl⟩) (g_preS hG hS (fun _ h => h)) rfl rfl hl.1 rfl (lv_room (Nat.le_of_ble_eq_true rfl)) dL_law_121 ⟨by show cells + 0 + 0 ≤ room_1.cells; omega, by show slots + 0 + 0 ≤ room_1.slots; omega⟩) hS (fun q h => rx_ge q h) (fun _ _ _ _ _ h => h.elim) (fun v H locs hp hz9 hk9 hS => ?_)
    obtain ⟨rfl, hH9⟩ := hp
    obtain rfl := hH9.symm
    obtain ⟨x121, hx121, ex121⟩ : ∃ z : Int, (0 ≤ z ∧ z < (X 4 0)) ∧ z = (w8) % 2147483648 % (X 4 0) := ⟨_, ⟨Int.emod_nonneg _ (by omega), Int.emod_lt_of_pos _ (by omega)⟩, rfl⟩
    rw [← ex121]
    refine W.eq (g2 := F0 m 124 ls [.int (z2 (x121))]) rfl ?_
    obtain ⟨k, hke⟩ : ∃ k : Nat, x121 = ((k : Nat) : Int) := ⟨(x121).toNat, by omega⟩
    refine b_top (v := ((k : Nat) : Int)) (congrArg z2 hke) ?_
    refine W.widen (k := cells) (n := slots) (by show cells + 0 + 0 ≤ cells; omega) (by show slots + 0 + 0 ≤ slots; omega) ?_
    exact law_c l hst hx hb hml hown hts hX hbl hG hbb hnL hq hcs hL hP hS (lv_sub hl [2, 3, 4, 5, 6, 7, 8, 1, 0] rfl) hv hn (by omega) (by omega) kk
  · skip
    refine b_iconst hx hb dL_law_111 ?_
    refine lv_goto (tgt := 124) hx hb dL_law_112 (by decide) ?_
    obtain ⟨k, hke⟩ : ∃ k : Nat, (0 : Int) = ((k : Nat) : Int) := ⟨((0 : Int)).toNat, by omega⟩
    refine b_top (v := ((k : Nat) : Int)) (congrArg z2 hke) ?_
    refine W.widen (k := cells) (n := slots) (by show cells + 0 ≤ cells; omega) (by show slots + 0 ≤ slots; omega) ?_
    exact law_c l hst hx hb hml hown hts hX hbl hG hbb hnL hq hcs hL hP hS (lv_sub hl [2, 3, 4, 5, 6, 7, 8, 1, 0] rfl) hv hn (by omega) (by omega) kk
def LI (D : va_G) (ks : Nat → ClassId) (sb : Nat) (s : State) (tn q : Nat) (H : Heap) (locs : List Loc) (ls : Array Slot) : Prop :=
  ∃ (ml : Nat → Nat) (X : Nat → Nat → Int), LV q X ∧ PX D ks s.heap.size ml X H ∧ va_S (AR (RC s.heap.size) s.heap.size) s.heap H locs ∧ lv_has ls 15 [(0, .ref sb), (1, .ref s.heap.size), (2, .int (z2 (X 4 0))), (3, .int (z2 (1))), (4, .int (z2 (((tn : Nat) : Int)))), (5, .int (z2 (((q : Nat) : Int))))]
set_option maxHeartbeats 4000000 in
set_option maxRecDepth 100000 in
/-- one round of the law's loop -/
theorem law_round {p : Program} {e : Env} {s : State} {m : MethodId} {below : List Frame} {meth : Method} {c : Code} (l : Launch) (hst : l.stackTraces = false) {D : va_G} {ks : Nat → ClassId} {sb nL tn : Nat} {xs : Nat → Int32} (hx : p.tables.exec = Jvm.exec) (hb : c.code = cL_law) (hr : meth.sig.returnType = ret) (hlocks : meth.locks = false) (hml : c.maxLocals = 15) (hown : s.vm.findClass RL = some m.cls) (hts : ∀ w ∈ wsL_law, w.before #[Value.ref sb] s = true) (hX : va_X sb nL xs s s.heap) (hbl : sb < s.heap.size) (hG : GE D ks s.heap.size s) (hnL : nL ≤ 260) (htn : tn ≤ 55)
    (q : Nat) (H : Heap) (locs : List Loc) (ls : Array Slot) (hq : q ≤ tn) (hI : LI D ks sb s tn q H locs ls) (ih : q < tn → ∀ (H1 : Heap) (locs1 : List Loc) (ls1 : Array Slot), LI D ks sb s tn (q + 1) H1 locs1 ls1 → W p l e room_1 s m #[Value.ref sb] below meth c H1 locs1 (1000 + q * 800 + 800) (8000 + q * 5000 + 5000) (lw_Z below #[Value.ref sb] s) (F0 m 48 ls1 [])) :
    W p l e room_1 s m #[Value.ref sb] below meth c H locs (1000 + q * 800) (8000 + q * 5000) (lw_Z below #[Value.ref sb] s) (F0 m 48 ls []) := by
  obtain ⟨ml, X, hL, hP, hS, hl⟩ := hI
  have hcs : (1000 + q * 800) + 1000 ≤ room_1.cells ∧ (8000 + q * 5000) + 6000 ≤ room_1.slots := ⟨by show _ ≤ 696114; omega, by show _ ≤ 7013282; omega⟩
  obtain ⟨hV, hT, hY⟩ := id hL
  have b4 : 0 ≤ X 4 0 ∧ X 4 0 ≤ 12 := hV.1 4 0 rfl
  have kk : q < tn → ∀ (ml1 : Nat → Nat) (X1 : Nat → Nat → Int) (H1 : Heap) (locs1 : List Loc) (ls1 : Array Slot), LV (q + 1) X1 → PX D ks s.heap.size ml1 X1 H1 → va_S (AR (RC s.heap.size) s.heap.size) s.heap H1 locs1 → lv_has ls1 15 [(0, .ref sb), (1, .ref s.heap.size), (2, .int (z2 (X1 4 0))), (3, .int (z2 (1))), (4, .int (z2 (((tn : Nat) : Int)))), (5, .int (z2 (((q : Nat) : Int))))] → W p l e room_1 s m #[Value.ref sb] below meth c H1 locs1 (1000 + q * 800 + 200) (8000 + q * 5000 + 1200) (lw_Z below #[Value.ref sb] s) (F0 m 721 ls1 []) := by
      intro hqt ml1 X1 H1 locs ls hL1 hP hS hl
      refine lv_iload_n hx hb dL_law_721 rfl (lv_at hl 3 rfl) ?_
      refine b_if_eq (tgt := 736) hx hb dL_law_722 (by decide) ⟨by omega, by omega⟩ (fun c => absurd c (by omega)) (fun _ => ?_)
      refine lv_aload_n hx hb dL_law_725 rfl (lv_at hl 1 rfl) ?_
      refine g_run (vx_runS (As := [.ref s.heap.size]) (rest := []) ⟨hx, hb, hml, hown, hts⟩ (w_holds l D ks s.heap.size _ X1 _ hP hL1.1 hst (q + 1) (by omega) hL1.2.2) (cwS 1 hts gL_law_L_holds rfl rfl rfl (by decide +kernel) ⟨Nat.le_of_ble_eq_true rfl, Nat.le_of_ble_eq_true rfl⟩) (g_preS hG hS (fun _ h => h)) rfl rfl hl.1 rfl (lv_room (Nat.le_of_ble_eq_true rfl)) dL_law_726 ⟨by show (1000 + q * 800 + 200) + 600 ≤ room_1.cells; omega, by show (8000 + q * 5000 + 1200) + 3600 ≤ room_1.slots; omega⟩) hS (fun q h => rx_ge q h) (fun _ _ _ _ _ h => h.elim) (fun v H locs hp hz9 hk9 hS => ?_)
      obtain ⟨rfl, hP9⟩ := hp
      have hP := hP9
      refine W.eq (g2 := F0 m 729 ls [.int (z2 (1))]) rfl ?_
      refine b_if_eq (tgt := 736) hx hb dL_law_729 (by decide) ⟨by omega, by omega⟩ (fun c => absurd c (by omega)) (fun _ => ?_)
      refine b_iconst hx hb dL_law_732 ?_
      refine lv_goto (tgt := 737) hx hb dL_law_733 (by decide) ?_
      refine lv_istore_n (lv' := [(3, .int (z2 (1))), (0, .ref sb), (1, .ref s.heap.size), (2, .int (z2 (X1 4 0))), (4, .int (z2 (((tn : Nat) : Int)))), (5, .int (z2 (((q : Nat) : Int))))]) hx hb dL_law_737 rfl hl (by decide) rfl (fun ls hl => ?_)
      refine b_iinc (lv' := [(5, .int (z2 (((q : Nat) : Int) + 1))), (3, .int (z2 (1))), (0, .ref sb), (1, .ref s.heap.size), (2, .int (z2 (X1 4 0))), (4, .int (z2 (((tn : Nat) : Int))))]) hx hb dL_law_738 hl (k := 5) rfl (by decide) rfl (fun ls hl => ?_)
      refine lv_goto (tgt := 48) hx hb dL_law_741 (by decide) ?_
      refine W.widen (k := 1000 + q * 800 + 800) (n := 8000 + q * 5000 + 5000) (by show (1000 + q * 800 + 200) + 600 ≤ 1000 + q * 800 + 800; omega) (by show (8000 + q * 5000 + 1200) + 3600 ≤ 8000 + q * 5000 + 5000; omega) ?_
      exact ih hqt _ _ _ ⟨_, X1, hL1, hP, hS, lv_sub hl [2, 3, 4, 1, 5, 0] rfl⟩
  refine lv_iload hx hb dL_law_48 (lv_at hl 5 rfl) ?_
  refine lv_iload hx hb dL_law_50 (lv_at hl 4 rfl) ?_
  refine b_icmp_ge (tgt := 744) hx hb dL_law_52 (by decide) ⟨⟨by omega, by omega⟩, ⟨by omega, by omega⟩⟩ (fun c_52 => ?_) (fun c_52 => ?_)
  · skip
    refine lv_iload_n hx hb dL_law_744 rfl (lv_at hl 3 rfl) ?_
    refine W.eq (g2 := F0 m 745 ls [.int 1]) (by rw [show z2 (1) = 1 by decide +kernel]) ?_
    refine va_forget (fun q hq => (hS.2.2 q hq).elim (fun h => h) (fun h => h)) ?_
    refine W.widen (k := 696114) (n := 7013282) (by show (1000 + q * 800) ≤ 696114; omega) (by show (8000 + q * 5000) ≤ 7013282; omega) ?_
    exact lw_ret hx hb hr hlocks dL_law_745
  · skip
    refine lv_iload_n hx hb dL_law_55 rfl (lv_at hl 3 rfl) ?_
    refine b_if_eq (tgt := 744) hx hb dL_law_56 (by decide) ⟨by omega, by omega⟩ (fun c => absurd c (by omega)) (fun _ => ?_)
    refine lv_aload_n hx hb dL_law_59 rfl (lv_at hl 0 rfl) ?_
    refine b_iconst hx hb dL_law_60 ?_
    refine lv_iload hx hb dL_law_61 (lv_at hl 5 rfl) ?_
    refine b_iadd hx hb dL_law_63 ?_
    refine b_top (v := ((1 + q : Nat) : Int)) (congrArg z2 (by omega)) ?_
    refine g_run (vx_runS (As := [.ref sb, .int (z2 ((1 + q : Nat) : Int))]) (rest := []) ⟨hx, hb, hml, hown, hts⟩ (w_cell l D ks s.heap.size sb nL xs _ (1 + q) (by omega) hnL hbl (Nat.lt_of_lt_of_le hbl hS.1)) (cwS 2 hts gL_law_L_cell rfl rfl rfl (by decide +kernel) ⟨Nat.le_of_ble_eq_true rfl, Nat.le_of_ble_eq_true rfl⟩) (g_preX hG hS (fun _ h => h) hX hbl hbl) rfl rfl hl.1 rfl (lv_room (Nat.le_of_ble_eq_true rfl)) dL_law_64 ⟨by show (1000 + q * 800) + 0 ≤ room_1.cells; omega, by show (8000 + q * 5000) + 0 ≤ room_1.slots; omega⟩) hS (fun q h => rx_ge q h) (fun _ _ _ _ _ h => h.elim) (fun v H locs hp hz9 hk9 hS => ?_)
    obtain ⟨rfl, hH9⟩ := hp
    obtain rfl := hH9.symm
    obtain ⟨v, hv, ev⟩ := z2_ex (cellS nL xs (1 + q))
    rw [ev]
    refine W.eq (g2 := F0 m 67 ls [.int (z2 (v))]) rfl ?_
    obtain ⟨w3, hw3, ew3⟩ := z2_ex ((z2 v) >>> ((z2 3) &&& 31))
    obtain ⟨w17, hw17, ew17⟩ := z2_ex ((z2 v) >>> ((z2 17) &&& 31))
    refine lv_istore (lv' := [(6, .int (z2 (v))), (0, .ref sb), (1, .ref s.heap.size), (2, .int (z2 (X 4 0))), (3, .int (z2 (1))), (4, .int (z2 (((tn : Nat) : Int)))), (5, .int (z2 (((q : Nat) : Int))))]) hx hb dL_law_67 hl (by decide) rfl (fun ls hl => ?_)
    refine lv_iload hx hb dL_law_69 (lv_at hl 0 rfl) ?_
    refine b_iconst hx hb dL_law_71 ?_
    refine lv_ishr hx hb dL_law_72 ?_
    refine b_top (v := w3) ew3 ?_
    refine lv_iload hx hb dL_law_73 (lv_at hl 0 rfl) ?_
    refine b_bipush hx hb dL_law_75 (by decide +kernel) ?_
    refine lv_ishr hx hb dL_law_77 ?_
    refine b_top (v := w17) ew17 ?_
    refine b_iconst hx hb dL_law_78 ?_
    refine g_run (vx_runS (As := [.int (z2 (w17)), .int (z2 (2))]) (rest := [.int (z2 (w3))]) ⟨hx, hb, hml, hown, hts⟩ (w_low l D ks s.heap.size _ (w17) (2) ⟨by omega, by omega⟩ ⟨by omega, by omega⟩) (cwS 2 hts gL_law_L_low rfl rfl rfl (by decide +kernel) ⟨Nat.le_of_ble_eq_true rfl, Nat.le_of_ble_eq_true rfl⟩) (g_preS hG hS (fun _ h => h)) rfl rfl hl.1 rfl (lv_room (Nat.le_of_ble_eq_true rfl)) dL_law_79 ⟨by show (1000 + q * 800) + 0 + 0 ≤ room_1.cells; omega, by show (8000 + q * 5000) + 0 + 0 ≤ room_1.slots; omega⟩) hS (fun q h => rx_ge q h) (fun _ _ _ _ _ h => h.elim) (fun v H locs hp hz9 hk9 hS => ?_)
    obtain ⟨rfl, hH9⟩ := hp
    obtain rfl := hH9.symm
    obtain ⟨x79, hx79, ex79⟩ : ∃ z : Int, (0 ≤ z ∧ z < (2)) ∧ z = (w17) % 2147483648 % (2) := ⟨_, ⟨Int.emod_nonneg _ (by omega), Int.emod_lt_of_pos _ (by omega)⟩, rfl⟩
    rw [← ex79]
    refine W.eq (g2 := F0 m 82 ls [.int (z2 (x79)), .int (z2 (w3))]) rfl ?_
    refine b_if_ne (tgt := 90) hx hb dL_law_82 (by decide) ⟨by omega, by omega⟩ (fun c_82 => ?_) (fun c_82 => ?_)
    · skip
      refine b_iconst hx hb dL_law_90 ?_
      refine g_run (vx_runS (As := [.int (z2 (w3)), .int (z2 (2))]) (rest := []) ⟨hx, hb, hml, hown, hts⟩ (w_low l D ks s.heap.size _ (w3) (2) ⟨by omega, by omega⟩ ⟨by omega, by omega⟩) (cwS 2 hts gL_law_L_low rfl rfl rfl (by decide +kernel) ⟨Nat.le_of_ble_eq_true rfl, Nat.le_of_ble_eq_true rfl⟩) (g_preS hG hS (fun _ h => h)) rfl rfl hl.1 rfl (lv_room (Nat.le_of_ble_eq_true rfl)) dL_law_91 ⟨by show (1000 + q * 800) + 0 + 0 + 0 ≤ room_1.cells; omega, by show (8000 + q * 5000) + 0 + 0 + 0 ≤ room_1.slots; omega⟩) hS (fun q h => rx_ge q h) (fun _ _ _ _ _ h => h.elim) (fun v H locs hp hz9 hk9 hS => ?_)
      obtain ⟨rfl, hH9⟩ := hp
      obtain rfl := hH9.symm
      obtain ⟨x91, hx91, ex91⟩ : ∃ z : Int, (0 ≤ z ∧ z < (2)) ∧ z = (w3) % 2147483648 % (2) := ⟨_, ⟨Int.emod_nonneg _ (by omega), Int.emod_lt_of_pos _ (by omega)⟩, rfl⟩
      rw [← ex91]
      refine W.eq (g2 := F0 m 94 ls [.int (z2 (x91))]) rfl ?_
      obtain ⟨n, hne⟩ : ∃ n : Nat, x91 = ((n : Nat) : Int) := ⟨(x91).toNat, by omega⟩
      refine b_top (v := ((n : Nat) : Int)) (congrArg z2 hne) ?_
      refine W.widen (k := 1000 + q * 800) (n := 8000 + q * 5000) (by show (1000 + q * 800) + 0 + 0 + 0 ≤ 1000 + q * 800; omega) (by show (8000 + q * 5000) + 0 + 0 + 0 ≤ 8000 + q * 5000; omega) ?_
      exact law_b l hst hx hb hml hown hts hX hbl hG hbl hnL (by omega) hcs hL hP hS (lv_sub hl [1, 2, 3, 4, 5, 6, 0] rfl) hv (by omega) (kk (by omega))
    · skip
      refine b_bipush hx hb dL_law_85 (by decide +kernel) ?_
      refine lv_goto (tgt := 91) hx hb dL_law_87 (by decide) ?_
      refine g_run (vx_runS (As := [.int (z2 (w3)), .int (z2 (8))]) (rest := []) ⟨hx, hb, hml, hown, hts⟩ (w_low l D ks s.heap.size _ (w3) (8) ⟨by omega, by omega⟩ ⟨by omega, by omega⟩) (cwS 2 hts gL_law_L_low rfl rfl rfl (by decide +kernel) ⟨Nat.le_of_ble_eq_true rfl, Nat.le_of_ble_eq_true rfl⟩) (g_preS hG hS (fun _ h => h)) rfl rfl hl.1 rfl (lv_room (Nat.le_of_ble_eq_true rfl)) dL_law_91 ⟨by show (1000 + q * 800) + 0 + 0 + 0 ≤ room_1.cells; omega, by show (8000 + q * 5000) + 0 + 0 + 0 ≤ room_1.slots; omega⟩) hS (fun q h => rx_ge q h) (fun _ _ _ _ _ h => h.elim) (fun v H locs hp hz9 hk9 hS => ?_)
      obtain ⟨rfl, hH9⟩ := hp
      obtain rfl := hH9.symm
      obtain ⟨x91, hx91, ex91⟩ : ∃ z : Int, (0 ≤ z ∧ z < (8)) ∧ z = (w3) % 2147483648 % (8) := ⟨_, ⟨Int.emod_nonneg _ (by omega), Int.emod_lt_of_pos _ (by omega)⟩, rfl⟩
      rw [← ex91]
      refine W.eq (g2 := F0 m 94 ls [.int (z2 (x91))]) rfl ?_
      obtain ⟨n, hne⟩ : ∃ n : Nat, x91 = ((n : Nat) : Int) := ⟨(x91).toNat, by omega⟩
      refine b_top (v := ((n : Nat) : Int)) (congrArg z2 hne) ?_
      refine W.widen (k := 1000 + q * 800) (n := 8000 + q * 5000) (by show (1000 + q * 800) + 0 + 0 + 0 ≤ 1000 + q * 800; omega) (by show (8000 + q * 5000) + 0 + 0 + 0 ≤ 8000 + q * 5000; omega) ?_
      exact law_b l hst hx hb hml hown hts hX hbl hG hbl hnL (by omega) hcs hL hP hS (lv_sub hl [1, 2, 3, 4, 5, 6, 0] rfl) hv (by omega) (kk (by omega))
