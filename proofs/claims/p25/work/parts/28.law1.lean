/-! THE LAW's own helpers. -/
theorem lg_self {x y : Int64} (h : x = y) : lg_cmp x y = z2 0 := by
  subst h
  unfold lg_cmp
  rw [if_neg (by intro h; rw [gt_iff_lt, Int64.lt_iff_toInt_lt] at h; omega), if_pos rfl]
  exact z2_0
/-- a loop whose rounds may make new cells -/
theorem lp_k {p : Program} {l : Launch} {e : Env} {R : Room} {s : State} {m : MethodId} {args : Array Value} {below : List Frame} {meth : Method} {c : Code} {Q : State → Prop} {pc : Nat} (N : Nat) (I : Nat → Heap → List Loc → Array Slot → Prop) (c0 s0 cm sm : Nat)
    (step : ∀ (k : Nat) (H : Heap) (locs : List Loc) (ls : Array Slot), k ≤ N → I k H locs ls → (k < N → ∀ (H1 : Heap) (locs1 : List Loc) (ls1 : Array Slot), I (k + 1) H1 locs1 ls1 → W p l e R s m args below meth c H1 locs1 (c0 + k * cm + cm) (s0 + k * sm + sm) Q (F0 m pc ls1 [])) → W p l e R s m args below meth c H locs (c0 + k * cm) (s0 + k * sm) Q (F0 m pc ls [])) :
    ∀ (H : Heap) (locs : List Loc) (ls : Array Slot), I 0 H locs ls → W p l e R s m args below meth c H locs c0 s0 Q (F0 m pc ls []) := by
  have key : ∀ (n k : Nat), k + n = N → ∀ (H : Heap) (locs : List Loc) (ls : Array Slot), I k H locs ls → W p l e R s m args below meth c H locs (c0 + k * cm) (s0 + k * sm) Q (F0 m pc ls []) := by
    intro n
    induction n with
    | zero => intro k hk H locs ls hI; exact step k H locs ls (by omega) hI (fun h => by omega)
    | succ n ih =>
      intro k hk H locs ls hI
      refine step k H locs ls (by omega) hI (fun _ H1 locs1 ls1 h1 => ?_)
      have h2 := ih (k + 1) (by omega) H1 locs1 ls1 h1
      rw [Nat.succ_mul, Nat.succ_mul, ← Nat.add_assoc, ← Nat.add_assoc] at h2
      exact h2
  intro H locs ls hI
  have h := key N 0 (by omega) H locs ls hI
  rw [Nat.zero_mul, Nat.zero_mul] at h
  exact h
set_option maxHeartbeats 4000000 in
set_option maxRecDepth 100000 in
theorem w_low (l : Launch) (D : va_G) (ks : Nat → ClassId) (bx : Nat) (H : Heap) (v n : Int) (hv : -2147483648 ≤ v ∧ v < 2147483648) (hn : 0 < n ∧ n < 2147483648) : KM l yL_low wsL_low ({ frames := 0, cells := 0, slots := 0, locals := 0 } : Room) D ks bx [.int (z2 v), .int (z2 n)] H (RX bx) (fun r H1 => r = some (.int (z2 (v % 2147483648 % n))) ∧ H1 = H) (fun _ _ => False) := by
  refine KM.of (cc := cL_low) (maxL := 2) (ret := (some .int)) (by decide) rfl (Nat.le_of_ble_eq_true rfl) ?_
  intro p e s m below meth c hx hb hml hr hlocks hown hname hts hext hH0 hG ls hl
  subst hH0
  have hown : s.vm.findClass RL = some m.cls := hown
  have hS : va_S (AR (RX bx) s.heap.size) s.heap s.heap [] := va_S.rf
  have hl : lv_has ls 2 [(0, .int (z2 (v))), (1, .int (z2 (n)))] := hl
  refine lv_iload_n hx hb dL_low_0 rfl (lv_at hl 0 rfl) ?_
  refine lv_ldc (v := z2 (2147483647)) hx hb hown (hts _ (by decide +kernel)) dL_low_1 ?_
  refine lv_iand hx hb dL_low_3 ?_
  refine b_top (v := v % 2147483648) (z2_and31b _) ?_
  refine lv_iload_n hx hb dL_low_4 rfl (lv_at hl 1 rfl) ?_
  refine b_irem hx hb ⟨⟨by omega, by omega⟩, by omega, by omega⟩ dL_low_5 ?_
  exact g_iret hx hb hr hlocks hS ⟨Nat.le_of_ble_eq_true rfl, Nat.le_of_ble_eq_true rfl⟩ (⟨rfl, rfl⟩) dL_low_6
set_option maxHeartbeats 4000000 in
set_option maxRecDepth 100000 in
theorem w_bits (l : Launch) (D : va_G) (ks : Nat → ClassId) (bx : Nat) (H : Heap) (r : Nat) (hr8 : r < 8) : KM l yL_bits wsL_bits ({ frames := 0, cells := 0, slots := 0, locals := 0 } : Room) D ks bx [.int (z2 ((r : Nat) : Int))] H (RX bx) (fun v H1 => v = some (.int (z2 (((r % 2 : Nat) : Int) + ((r / 2 % 2 : Nat) : Int) + ((r / 4 % 2 : Nat) : Int)))) ∧ H1 = H) (fun _ _ => False) := by
  refine KM.of (cc := cL_bits) (maxL := 1) (ret := (some .int)) (by decide) rfl (Nat.le_of_ble_eq_true rfl) ?_
  intro p e s m below meth c hx hb hml hr hlocks hown hname hts hext hH0 hG ls hl
  subst hH0
  have hown : s.vm.findClass RL = some m.cls := hown
  have hS : va_S (AR (RX bx) s.heap.size) s.heap s.heap [] := va_S.rf
  have hl : lv_has ls 1 [(0, .int (z2 (((r : Nat) : Int))))] := hl
  refine lv_iload_n hx hb dL_bits_0 rfl (lv_at hl 0 rfl) ?_
  refine b_iconst hx hb dL_bits_1 ?_
  refine lv_iand hx hb dL_bits_2 ?_
  refine b_top (v := ((r % 2 : Nat) : Int)) ((bt_2 r hr8).1) ?_
  refine lv_iload_n hx hb dL_bits_3 rfl (lv_at hl 0 rfl) ?_
  refine b_iconst hx hb dL_bits_4 ?_
  refine lv_ishr hx hb dL_bits_5 ?_
  refine b_iconst hx hb dL_bits_6 ?_
  refine lv_iand hx hb dL_bits_7 ?_
  refine b_top (v := ((r / 2 % 2 : Nat) : Int)) ((bt_2 r hr8).2.1) ?_
  refine b_iadd hx hb dL_bits_8 ?_
  refine lv_iload_n hx hb dL_bits_9 rfl (lv_at hl 0 rfl) ?_
  refine b_iconst hx hb dL_bits_10 ?_
  refine lv_ishr hx hb dL_bits_11 ?_
  refine b_iconst hx hb dL_bits_12 ?_
  refine lv_iand hx hb dL_bits_13 ?_
  refine b_top (v := ((r / 4 % 2 : Nat) : Int)) ((bt_2 r hr8).2.2) ?_
  refine b_iadd hx hb dL_bits_14 ?_
  exact g_iret hx hb hr hlocks hS ⟨Nat.le_of_ble_eq_true rfl, Nat.le_of_ble_eq_true rfl⟩ (⟨rfl, rfl⟩) dL_bits_15
set_option maxHeartbeats 4000000 in
set_option maxRecDepth 100000 in
theorem w_press (l : Launch) (D : va_G) (ks : Nat → ClassId) (bx : Nat) (ml : Nat → Nat) (X : Nat → Nat → Int) (H : Heap) (hP : PX D ks bx ml X H) (hV : VX X) (hst : l.stackTraces = false) (n b : Nat) (hn : n < 8) (hb3 : b < 3) : KM l yL_press wsL_press ({ frames := 10, cells := 4, slots := 24, locals := 180 } : Room) D ks bx [.ref bx, .int (z2 (((n : Nat) : Int))), .int (z2 (((b : Nat) : Int)))] H (RX bx) (fun v H1 => (X 30 (3 * n + b) = -1 ∧ v = some (.int (z2 (-3))) ∧ PX D ks bx ml X H1) ∨ ∃ k : Nat, X 30 (3 * n + b) = k ∧ v = some (.int (z2 (prV X n b k))) ∧ PX D ks bx ml (prX X n b k) H1) (fun _ _ => False) := by
  refine KM.ofH (cc := cL_press) (maxL := 4) (ret := (some .int)) (hh := [(0, 6, 7, 15)]) (by decide) rfl (Nat.le_of_ble_eq_true rfl) ?_
  intro p e s m below meth c hx hb hml hr hlocks hown hts htb hH0 hG ls hl
  subst hH0
  have hown : s.vm.findClass RL = some m.cls := hown
  have hS : va_S (AR (RX bx) s.heap.size) s.heap s.heap [] := va_S.rf
  have hl : lv_has ls 4 [(0, .ref bx), (1, .int (z2 (((n : Nat) : Int)))), (2, .int (z2 (((b : Nat) : Int))))] := hl
  refine lv_aload_n hx hb dL_press_0 rfl (lv_at hl 0 rfl) ?_
  refine lv_iload_n hx hb dL_press_1 rfl (lv_at hl 1 rfl) ?_
  refine lv_iload_n hx hb dL_press_2 rfl (lv_at hl 2 rfl) ?_
  refine g_run (vx_runV (As := [.int (z2 (((n : Nat) : Int))), .int (z2 (((b : Nat) : Int)))]) (rest := []) ⟨hx, hb, hml, hown, hts⟩ (k_press l D ks bx ml X _ hP hV hst ((n : Nat) : Int) ((b : Nat) : Int) ⟨by omega, by omega⟩ ⟨by omega, by omega⟩) (cwV 2 hts gL_press_X4_press rfl rfl rfl (by decide +kernel) ⟨Nat.le_of_ble_eq_true rfl, Nat.le_of_ble_eq_true rfl⟩) (g_preV (r := (RX4, TX4, 7)) hG hS rx_ge hP.1 rfl) rfl rfl hl.1 rfl (lv_room (Nat.le_of_ble_eq_true rfl)) dL_press_3 ⟨Nat.le_of_ble_eq_true rfl, Nat.le_of_ble_eq_true rfl⟩) hS (fun _ h => h) ?_ ?_
  · intro E ce q9 H locs hp hz9 hk9 hS hce hcv hcl
    obtain ⟨t9, e9⟩ := hp
    have hP := hP.keep (fun q h1 _ => t9.2 q h1)
    rcases e9 with ⟨rfl, c9⟩ | ⟨rfl, c9⟩
    · exact absurd c9 (by omega)
    · skip
      obtain ⟨n9, b9, ⟨a1, a2⟩, ⟨a3, a4⟩, a5⟩ := c9
      obtain rfl : n = n9 := by omega
      obtain rfl : b = b9 := by omega
      refine vx_catch hown [] ⟨0, 6, 7, 15⟩ [] (htb.trans rfl) (fun z hz => by cases hz) rfl (by decide) (name := "java/lang/IllegalStateException") (hts (.classLink RL 15 "java/lang/IllegalStateException") (by decide +kernel)) (va_Nw.use rfl (hG.2.1 _ (List.mem_of_getElem? (i := 30) rfl))) hce hcv hcl ?_
      refine lv_astore_n (lv' := [(3, .ref q9), (0, .ref bx), (1, .int (z2 (((n : Nat) : Int)))), (2, .int (z2 (((b : Nat) : Int))))]) hx hb dL_press_7 rfl hl (by decide) rfl (fun ls hl => ?_)
      refine b_bipush hx hb dL_press_8 (by decide +kernel) ?_
      exact g_iret hx hb hr hlocks hS ⟨Nat.le_of_ble_eq_true rfl, Nat.le_of_ble_eq_true rfl⟩ (Or.inl ⟨a5, rfl, hP⟩) dL_press_10
  · intro v H locs hp hz9 hk9 hS
    obtain ⟨n9, b9, k9, ⟨⟨a1, a2⟩, ⟨a3, a4⟩, a5⟩, rfl, hP9⟩ := hp
    obtain rfl : n = n9 := by omega
    obtain rfl : b = b9 := by omega
    refine W.eq (g2 := F0 m 6 ls [.int (z2 (prV X n b k9))]) rfl ?_
    exact g_iret hx hb hr hlocks hS ⟨Nat.le_of_ble_eq_true rfl, Nat.le_of_ble_eq_true rfl⟩ (Or.inr ⟨k9, a5, rfl, hP9⟩) dL_press_6
set_option maxHeartbeats 4000000 in
set_option maxRecDepth 100000 in
theorem w_fault (l : Launch) (D : va_G) (ks : Nat → ClassId) (bx : Nat) (ml : Nat → Nat) (X : Nat → Nat → Int) (H : Heap) (hP : PX D ks bx ml X H) (hV : VX X) (hst : l.stackTraces = false) (n : Nat) (hn : n < 8) : KM l yL_fault wsL_fault ({ frames := 9, cells := 3, slots := 18, locals := 159 } : Room) D ks bx [.ref bx, .int (z2 (((n : Nat) : Int)))] H (RX bx) (fun v H1 => ((X 14 n = 0 ∨ 100 ≤ X 5 0) ∧ v = some (.int (z2 (-3))) ∧ PX D ks bx ml X H1) ∨ (X 14 n ≠ 0 ∧ X 5 0 < 100 ∧ v = some (.int (z2 (faN X n 8))) ∧ PX D ks bx ml (faR X n ((n : Nat) : Int)) H1)) (fun _ _ => False) := by
  refine KM.ofH (cc := cL_fault) (maxL := 3) (ret := (some .int)) (hh := [(0, 5, 6, 15)]) (by decide) rfl (Nat.le_of_ble_eq_true rfl) ?_
  intro p e s m below meth c hx hb hml hr hlocks hown hts htb hH0 hG ls hl
  subst hH0
  have hown : s.vm.findClass RL = some m.cls := hown
  have hS : va_S (AR (RX bx) s.heap.size) s.heap s.heap [] := va_S.rf
  have hl : lv_has ls 3 [(0, .ref bx), (1, .int (z2 (((n : Nat) : Int))))] := hl
  refine lv_aload_n hx hb dL_fault_0 rfl (lv_at hl 0 rfl) ?_
  refine lv_iload_n hx hb dL_fault_1 rfl (lv_at hl 1 rfl) ?_
  refine g_run (vx_runV (As := [.int (z2 (((n : Nat) : Int)))]) (rest := []) ⟨hx, hb, hml, hown, hts⟩ (k_fault l D ks bx ml X _ hP hV hst ((n : Nat) : Int) ⟨by omega, by omega⟩) (cwV 1 hts gL_fault_X4_fault rfl rfl rfl (by decide +kernel) ⟨Nat.le_of_ble_eq_true rfl, Nat.le_of_ble_eq_true rfl⟩) (g_preV (r := (RX4, TX4, 7)) hG hS rx_ge hP.1 rfl) rfl rfl hl.1 rfl (lv_room (Nat.le_of_ble_eq_true rfl)) dL_fault_2 ⟨Nat.le_of_ble_eq_true rfl, Nat.le_of_ble_eq_true rfl⟩) hS (fun _ h => h) ?_ ?_
  · intro E ce q9 H locs hp hz9 hk9 hS hce hcv hcl
    obtain ⟨t9, e9⟩ := hp
    have hP := hP.keep (fun q h1 _ => t9.2 q h1)
    rcases e9 with ⟨rfl, c9⟩ | ⟨rfl, c9⟩
    · exact absurd c9 (by omega)
    · skip
      obtain ⟨n9, ⟨a1, a2⟩, a5⟩ := c9
      obtain rfl : n = n9 := by omega
      refine vx_catch hown [] ⟨0, 5, 6, 15⟩ [] (htb.trans rfl) (fun z hz => by cases hz) rfl (by decide) (name := "java/lang/IllegalStateException") (hts (.classLink RL 15 "java/lang/IllegalStateException") (by decide +kernel)) (va_Nw.use rfl (hG.2.1 _ (List.mem_of_getElem? (i := 30) rfl))) hce hcv hcl ?_
      refine lv_astore_n (lv' := [(2, .ref q9), (0, .ref bx), (1, .int (z2 (((n : Nat) : Int))))]) hx hb dL_fault_6 rfl hl (by decide) rfl (fun ls hl => ?_)
      refine b_bipush hx hb dL_fault_7 (by decide +kernel) ?_
      exact g_iret hx hb hr hlocks hS ⟨Nat.le_of_ble_eq_true rfl, Nat.le_of_ble_eq_true rfl⟩ (Or.inl ⟨a5, rfl, hP⟩) dL_fault_9
  · intro v H locs hp hz9 hk9 hS
    obtain ⟨n9, ⟨⟨a1, a2⟩, a3, a4⟩, rfl, hP9⟩ := hp
    obtain rfl : n = n9 := by omega
    refine W.eq (g2 := F0 m 5 ls [.int (z2 (faN X n 8))]) rfl ?_
    exact g_iret hx hb hr hlocks hS ⟨Nat.le_of_ble_eq_true rfl, Nat.le_of_ble_eq_true rfl⟩ (Or.inr ⟨a3, a4, rfl, hP9⟩) dL_fault_5
set_option maxHeartbeats 4000000 in
set_option maxRecDepth 100000 in
theorem w_repair (l : Launch) (D : va_G) (ks : Nat → ClassId) (bx : Nat) (ml : Nat → Nat) (X : Nat → Nat → Int) (H : Heap) (hP : PX D ks bx ml X H) (hV : VX X) (hst : l.stackTraces = false) (n : Nat) (hn : n < 8) : KM l yL_repair wsL_repair ({ frames := 9, cells := 3, slots := 18, locals := 155 } : Room) D ks bx [.ref bx, .int (z2 (((n : Nat) : Int)))] H (RX bx) (fun v H1 => ((X 14 n ≠ 0 ∨ X 34 (n / 4) ≠ -1) ∧ v = some (.int (z2 (-3))) ∧ PX D ks bx ml X H1) ∨ (X 14 n = 0 ∧ X 34 (n / 4) = -1 ∧ v = some (.int (z2 (X 6 0 + 50))) ∧ PX D ks bx ml (up (up X 34 (n / 4) n) 35 (n / 4) (X 6 0 + 50)) H1)) (fun _ _ => False) := by
  refine KM.ofH (cc := cL_repair) (maxL := 3) (ret := (some .int)) (hh := [(0, 5, 6, 15)]) (by decide) rfl (Nat.le_of_ble_eq_true rfl) ?_
  intro p e s m below meth c hx hb hml hr hlocks hown hts htb hH0 hG ls hl
  subst hH0
  have hown : s.vm.findClass RL = some m.cls := hown
  have hS : va_S (AR (RX bx) s.heap.size) s.heap s.heap [] := va_S.rf
  have hl : lv_has ls 3 [(0, .ref bx), (1, .int (z2 (((n : Nat) : Int))))] := hl
  refine lv_aload_n hx hb dL_repair_0 rfl (lv_at hl 0 rfl) ?_
  refine lv_iload_n hx hb dL_repair_1 rfl (lv_at hl 1 rfl) ?_
  refine g_run (vx_runV (As := [.int (z2 (((n : Nat) : Int)))]) (rest := []) ⟨hx, hb, hml, hown, hts⟩ (k_repair l D ks bx ml X _ hP hV hst ((n : Nat) : Int) ⟨by omega, by omega⟩) (cwV 1 hts gL_repair_X4_repair rfl rfl rfl (by decide +kernel) ⟨Nat.le_of_ble_eq_true rfl, Nat.le_of_ble_eq_true rfl⟩) (g_preV (r := (RX4, TX4, 7)) hG hS rx_ge hP.1 rfl) rfl rfl hl.1 rfl (lv_room (Nat.le_of_ble_eq_true rfl)) dL_repair_2 ⟨Nat.le_of_ble_eq_true rfl, Nat.le_of_ble_eq_true rfl⟩) hS (fun _ h => h) ?_ ?_
  · intro E ce q9 H locs hp hz9 hk9 hS hce hcv hcl
    obtain ⟨t9, e9⟩ := hp
    have hP := hP.keep (fun q h1 _ => t9.2 q h1)
    rcases e9 with ⟨rfl, c9⟩ | ⟨rfl, c9⟩
    · exact absurd c9 (by omega)
    · skip
      obtain ⟨n9, ⟨a1, a2⟩, a5⟩ := c9
      obtain rfl : n = n9 := by omega
      refine vx_catch hown [] ⟨0, 5, 6, 15⟩ [] (htb.trans rfl) (fun z hz => by cases hz) rfl (by decide) (name := "java/lang/IllegalStateException") (hts (.classLink RL 15 "java/lang/IllegalStateException") (by decide +kernel)) (va_Nw.use rfl (hG.2.1 _ (List.mem_of_getElem? (i := 30) rfl))) hce hcv hcl ?_
      refine lv_astore_n (lv' := [(2, .ref q9), (0, .ref bx), (1, .int (z2 (((n : Nat) : Int))))]) hx hb dL_repair_6 rfl hl (by decide) rfl (fun ls hl => ?_)
      refine b_bipush hx hb dL_repair_7 (by decide +kernel) ?_
      exact g_iret hx hb hr hlocks hS ⟨Nat.le_of_ble_eq_true rfl, Nat.le_of_ble_eq_true rfl⟩ (Or.inl ⟨a5, rfl, hP⟩) dL_repair_9
  · intro v H locs hp hz9 hk9 hS
    obtain ⟨n9, ⟨⟨a1, a2⟩, a3, a4⟩, rfl, hP9⟩ := hp
    obtain rfl : n = n9 := by omega
    refine W.eq (g2 := F0 m 5 ls [.int (z2 (X 6 0 + 50))]) rfl ?_
    exact g_iret hx hb hr hlocks hS ⟨Nat.le_of_ble_eq_true rfl, Nat.le_of_ble_eq_true rfl⟩ (Or.inr ⟨a3, a4, rfl, hP9⟩) dL_repair_5
set_option maxHeartbeats 4000000 in
set_option maxRecDepth 100000 in
theorem w_license (l : Launch) (D : va_G) (ks : Nat → ClassId) (bx : Nat) (ml : Nat → Nat) (X : Nat → Nat → Int) (H : Heap) (hP : PX D ks bx ml X H) (hV : VX X) (hst : l.stackTraces = false) (n k : Nat) (r : Int) (hn : n < 8) (hk : (k : Int) < X 4 0) (hr9 : 1 ≤ r ∧ r ≤ 1000) : KM l yL_license wsL_license ({ frames := 9, cells := 3, slots := 18, locals := 157 } : Room) D ks bx [.ref bx, .int (z2 (((n : Nat) : Int))), .int (z2 (((k : Nat) : Int))), .int (z2 (r))] H (RX bx) (fun v H1 => ((X 36 k = n ∨ 1000 < X 23 (12 * n + k) + r) ∧ v = some (.int (z2 (-3))) ∧ PX D ks bx ml X H1) ∨ (X 36 k ≠ n ∧ X 23 (12 * n + k) + r ≤ 1000 ∧ v = some (.int (z2 (X 23 (12 * n + k) + r))) ∧ PX D ks bx ml (up X 23 (12 * n + k) (X 23 (12 * n + k) + r)) H1)) (fun _ _ => False) := by
  refine KM.ofH (cc := cL_license) (maxL := 5) (ret := (some .int)) (hh := [(0, 7, 8, 15)]) (by decide) rfl (Nat.le_of_ble_eq_true rfl) ?_
  intro p e s m below meth c hx hb hml hr hlocks hown hts htb hH0 hG ls hl
  subst hH0
  have hown : s.vm.findClass RL = some m.cls := hown
  have hS : va_S (AR (RX bx) s.heap.size) s.heap s.heap [] := va_S.rf
  have hl : lv_has ls 5 [(0, .ref bx), (1, .int (z2 (((n : Nat) : Int)))), (2, .int (z2 (((k : Nat) : Int)))), (3, .int (z2 (r)))] := hl
  have b4 : 0 ≤ X 4 0 ∧ X 4 0 ≤ 12 := hV.1 4 0 rfl
  refine lv_aload_n hx hb dL_license_0 rfl (lv_at hl 0 rfl) ?_
  refine lv_iload_n hx hb dL_license_1 rfl (lv_at hl 1 rfl) ?_
  refine lv_iload_n hx hb dL_license_2 rfl (lv_at hl 2 rfl) ?_
  refine lv_iload_n hx hb dL_license_3 rfl (lv_at hl 3 rfl) ?_
  refine g_run (vx_runV (As := [.int (z2 (((n : Nat) : Int))), .int (z2 (((k : Nat) : Int))), .int (z2 (r))]) (rest := []) ⟨hx, hb, hml, hown, hts⟩ (k_license l D ks bx ml X _ hP hV hst ((n : Nat) : Int) ((k : Nat) : Int) (r) ⟨by omega, by omega⟩ ⟨by omega, by omega⟩ ⟨by omega, by omega⟩) (cwV 3 hts gL_license_X4_license rfl rfl rfl (by decide +kernel) ⟨Nat.le_of_ble_eq_true rfl, Nat.le_of_ble_eq_true rfl⟩) (g_preV (r := (RX4, TX4, 7)) hG hS rx_ge hP.1 rfl) rfl rfl hl.1 rfl (lv_room (Nat.le_of_ble_eq_true rfl)) dL_license_4 ⟨Nat.le_of_ble_eq_true rfl, Nat.le_of_ble_eq_true rfl⟩) hS (fun _ h => h) ?_ ?_
  · intro E ce q9 H locs hp hz9 hk9 hS hce hcv hcl
    obtain ⟨t9, e9⟩ := hp
    have hP := hP.keep (fun q h1 _ => t9.2 q h1)
    rcases e9 with ⟨rfl, c9⟩ | ⟨rfl, c9⟩ | ⟨rfl, c9⟩
    · exact absurd c9 (by omega)
    · exact absurd c9 (by omega)
    · skip
      obtain ⟨n9, k9, ⟨a1, a2⟩, ⟨a3, a4⟩, a6, a7, a5⟩ := c9
      obtain rfl : n = n9 := by omega
      obtain rfl : k = k9 := by omega
      refine vx_catch hown [] ⟨0, 7, 8, 15⟩ [] (htb.trans rfl) (fun z hz => by cases hz) rfl (by decide) (name := "java/lang/IllegalStateException") (hts (.classLink RL 15 "java/lang/IllegalStateException") (by decide +kernel)) (va_Nw.use rfl (hG.2.1 _ (List.mem_of_getElem? (i := 30) rfl))) hce hcv hcl ?_
      refine lv_astore (lv' := [(4, .ref q9), (0, .ref bx), (1, .int (z2 (((n : Nat) : Int)))), (2, .int (z2 (((k : Nat) : Int)))), (3, .int (z2 (r)))]) hx hb dL_license_8 hl (by decide) rfl (fun ls hl => ?_)
      refine b_bipush hx hb dL_license_10 (by decide +kernel) ?_
      exact g_iret hx hb hr hlocks hS ⟨Nat.le_of_ble_eq_true rfl, Nat.le_of_ble_eq_true rfl⟩ (Or.inl ⟨a5, rfl, hP⟩) dL_license_12
  · intro v H locs hp hz9 hk9 hS
    obtain ⟨n9, k9, ⟨⟨a1, a2⟩, ⟨a3, a4⟩, a5, a6, a7, a8⟩, rfl, hP9⟩ := hp
    obtain rfl : n = n9 := by omega
    obtain rfl : k = k9 := by omega
    refine W.eq (g2 := F0 m 7 ls [.int (z2 (X 23 (12 * n + k) + r))]) rfl ?_
    exact g_iret hx hb hr hlocks hS ⟨Nat.le_of_ble_eq_true rfl, Nat.le_of_ble_eq_true rfl⟩ (Or.inr ⟨a7, a8, rfl, hP9⟩) dL_license_7
set_option maxHeartbeats 4000000 in
set_option maxRecDepth 100000 in
theorem w_melody (l : Launch) (D : va_G) (ks : Nat → ClassId) (bx : Nat) (ml : Nat → Nat) (X : Nat → Nat → Int) (H : Heap) (hP : PX D ks bx ml X H) (hV : VX X) (hst : l.stackTraces = false) (n cn : Nat) (t : Int) (hn : n < 8) (hcn : 1 ≤ cn ∧ cn ≤ 12) (ht : 0 ≤ t ∧ t < 16 ^ cn) : KM l yL_melody wsL_melody ({ frames := 8, cells := 3, slots := 18, locals := 136 } : Room) D ks bx [.ref bx, .int (z2 (((n : Nat) : Int))), .int (z2 (((cn : Nat) : Int))), .long (l2 t)] H (RX bx) (fun v H1 => (12 ≤ X 4 0 ∧ v = some (.int (z2 (-3))) ∧ PX D ks bx ml X H1) ∨ ∃ k : Nat, X 4 0 = k ∧ k < 12 ∧ v = some (.int (z2 ((k : Nat) : Int))) ∧ ∃ a : Nat, PX D ks bx (va_up ml k a) (nX X k ((n : Nat) : Int) ((cn : Nat) : Int) t) H1) (fun _ _ => False) := by
  refine KM.ofH (cc := cL_melody) (maxL := 6) (ret := (some .int)) (hh := [(0, 7, 8, 15)]) (by decide) rfl (Nat.le_of_ble_eq_true rfl) ?_
  intro p e s m below meth c hx hb hml hr hlocks hown hts htb hH0 hG ls hl
  subst hH0
  have hown : s.vm.findClass RL = some m.cls := hown
  have hS : va_S (AR (RX bx) s.heap.size) s.heap s.heap [] := va_S.rf
  have hl : lv_has ls 6 [(0, .ref bx), (1, .int (z2 (((n : Nat) : Int)))), (2, .int (z2 (((cn : Nat) : Int)))), (3, .long (l2 t))] := hl
  have b4 : 0 ≤ X 4 0 ∧ X 4 0 ≤ 12 := hV.1 4 0 rfl
  have h55 : bx + 55 ≤ s.heap.size := by have := ca.lt (hP.cr (s := 1) (by decide)); omega
  have p48 := p16 (k := cn) hcn.2
  refine lv_aload_n hx hb dL_melody_0 rfl (lv_at hl 0 rfl) ?_
  refine lv_iload_n hx hb dL_melody_1 rfl (lv_at hl 1 rfl) ?_
  refine lv_iload_n hx hb dL_melody_2 rfl (lv_at hl 2 rfl) ?_
  refine lv_lload_n hx hb dL_melody_3 rfl (lv_at hl 3 rfl) ?_
  refine g_run (vx_runV (As := [.int (z2 (((n : Nat) : Int))), .int (z2 (((cn : Nat) : Int))), .long (l2 t)]) (rest := []) ⟨hx, hb, hml, hown, hts⟩ (k_addMelody l D ks bx ml X _ hP hV hst h55 ((n : Nat) : Int) ((cn : Nat) : Int) t ⟨by omega, by omega⟩ ⟨by omega, by omega⟩ ⟨by omega, by omega⟩) (cwV 3 hts gL_melody_X4_addMelody rfl rfl rfl (by decide +kernel) ⟨Nat.le_of_ble_eq_true rfl, Nat.le_of_ble_eq_true rfl⟩) (g_preV (r := (RX4, TX4, 7)) hG hS rx_ge hP.1 rfl) rfl rfl hl.1 rfl (lv_room (Nat.le_of_ble_eq_true rfl)) dL_melody_4 ⟨Nat.le_of_ble_eq_true rfl, Nat.le_of_ble_eq_true rfl⟩) hS (fun _ h => h) ?_ ?_
  · intro E ce q9 H locs hp hz9 hk9 hS hce hcv hcl
    obtain ⟨t9, e9⟩ := hp
    have hP := hP.keep (fun q h1 _ => t9.2 q h1)
    rcases e9 with ⟨rfl, c9⟩ | ⟨rfl, c9⟩ | ⟨rfl, c9⟩
    · exact absurd c9 (by omega)
    · exact absurd c9 (fun q => q.2 ⟨cn, ⟨rfl, hcn.1, hcn.2⟩, ht.1, Int.ediv_eq_zero_of_lt ht.1 ht.2⟩)
    · skip
      obtain ⟨a1, a2, a5⟩ := c9
      refine vx_catch hown [] ⟨0, 7, 8, 15⟩ [] (htb.trans rfl) (fun z hz => by cases hz) rfl (by decide) (name := "java/lang/IllegalStateException") (hts (.classLink RL 15 "java/lang/IllegalStateException") (by decide +kernel)) (va_Nw.use rfl (hG.2.1 _ (List.mem_of_getElem? (i := 30) rfl))) hce hcv hcl ?_
      refine lv_astore (lv' := [(5, .ref q9), (0, .ref bx), (1, .int (z2 (((n : Nat) : Int)))), (2, .int (z2 (((cn : Nat) : Int)))), (3, .long (l2 t))]) hx hb dL_melody_8 hl (by decide) rfl (fun ls hl => ?_)
      refine b_bipush hx hb dL_melody_10 (by decide +kernel) ?_
      exact g_iret hx hb hr hlocks hS ⟨Nat.le_of_ble_eq_true rfl, Nat.le_of_ble_eq_true rfl⟩ (Or.inl ⟨a5, rfl, hP⟩) dL_melody_12
  · intro v H locs hp hz9 hk9 hS
    obtain ⟨k9, m9, ⟨a1, a2, a3, a4⟩, rfl, a9, hP9⟩ := hp
    refine W.eq (g2 := F0 m 7 ls [.int (z2 (((k9 : Nat) : Int)))]) rfl ?_
    exact g_iret hx hb hr hlocks hS ⟨Nat.le_of_ble_eq_true rfl, Nat.le_of_ble_eq_true rfl⟩ (Or.inr ⟨k9, a3, a4, rfl, a9, hP9⟩) dL_melody_7
/-- the law's own array at a call: what a method with it starts from -/
def PreX (D : va_G) (ks : Nat → ClassId) (bx b L : Nat) (xs : Nat → Int32) (H0 : Heap) (U : State) : Prop := Pre D ks bx H0 U ∧ va_X b L xs U H0
theorem PreX.blind {D : va_G} {ks : Nat → ClassId} {bx b L : Nat} {xs : Nat → Int32} {H0 : Heap} {as : List Value} : FrameBlind (va_Pc as (PreX D ks bx b L xs H0)) := fun a U g mk h => ⟨h.1, ⟨h.2.1.1, h.2.1.2.calling g mk a⟩, h.2.2.moved (u := U) (Vm.Alike.refl U.vm)⟩
theorem g_preX {s : State} {D : va_G} {ks : Nat → ClassId} {bx b L : Nat} {xs : Nat → Int32} {Rg : Nat → Prop} {locs : List Loc} {Hs : Heap} {as : List Value} (hG : GE D ks bx s) (hS : va_S (AR Rg s.heap.size) s.heap Hs locs) (hR : ∀ q, Rg q → bx ≤ q) (hX : va_X b L xs s s.heap) (hbl : b < s.heap.size) (hbx : b < bx) : PreS s Hs (va_Pc as (PreX D ks bx b L xs Hs)) as :=
  ⟨PreX.blind, fun _ hU hW => ⟨rfl, ⟨hU, hG.go hS hR hU hW⟩, (hX.kept (hS.2.1 b hbl (fun q => q.elim (fun r => by have := hR b r; omega) (fun r => by omega)))).moved hW.alike⟩⟩
def cellS (L : Nat) (xs : Nat → Int32) (k : Nat) : Int32 := if k < L then xs k else z2 40503 * z2 (k : Nat) + z2 977
set_option maxHeartbeats 4000000 in
set_option maxRecDepth 100000 in
theorem w_cell (l : Launch) (D : va_G) (ks : Nat → ClassId) (bx b L : Nat) (xs : Nat → Int32) (H : Heap) (k : Nat) (hk : k < 1000) (hL : L ≤ 260) (hbx : b < bx) (hbH : b < H.size) : vx_Met l yL_cell wsL_cell ({ frames := 0, cells := 0, slots := 0, locals := 0 } : Room) (va_Pc [.ref b, .int (z2 ((k : Nat) : Int))] (PreX D ks bx b L xs H)) (gQ (fun v H1 => v = some (.int (cellS L xs k)) ∧ H1 = H) (AR (RX bx) H.size)) (gX (fun _ _ => False) (AR (RX bx) H.size)) 0 0 (AR (RX bx) H.size) := by
  refine vx_ofW (cc := cL_cell) (maxL := 2) (ret := (some .int)) (by decide) rfl ?_
  intro p e s m args below meth c s₁ B hml ht hP9
  obtain ⟨rfl, ⟨hH, hG⟩, hX⟩ := hP9
  have hl := lv_entry [.ref b, .int (z2 ((k : Nat) : Int))] (n := 2) (Nat.le_of_ble_eq_true rfl)
  rw [lg_entry_eq]
  generalize (lg_sl [.ref b, .int (z2 ((k : Nat) : Int))] ++ List.replicate (2 - (lg_sl [.ref b, .int (z2 ((k : Nat) : Int))]).length) Slot.unset).toArray = ls at hl ⊢
  subst hH
  have hx := B.exec
  have hb : c.code = cL_cell := B.bytes
  have hr := B.returns
  have hlocks := B.notSynchronized
  have hown : s.vm.findClass RL = some m.cls := findClass_of_methodNamed B.named
  have hts := atoms_spec (ws := wsL_cell) B.pre
  have hS : va_S (AR (RX bx) s.heap.size) s.heap s.heap [] := va_S.rf
  have hl : lv_has ls 2 [(0, .ref b), (1, .int (z2 ((k : Nat) : Int)))] := hl
  have hbA : ¬ AR (RX bx) s.heap.size b := fun h => h.elim (fun r => by have := r.1; omega) (fun r => by omega)
  refine lv_iload_n hx hb dL_cell_0 rfl (lv_at hl 1 rfl) ?_
  refine lv_aload_n hx hb dL_cell_1 rfl (lv_at hl 0 rfl) ?_
  refine va_slen hx hb hX hbH hbA hS dL_cell_2 ?_
  refine b_top (v := L) (z2_len L) ?_
  refine b_icmp_ge (tgt := 12) hx hb dL_cell_3 (by decide) ⟨⟨by omega, by omega⟩, ⟨by omega, by omega⟩⟩ (fun c_3 => ?_) (fun c_3 => ?_)
  · refine lv_ldc (v := z2 40503) hx hb hown (hts _ (by decide +kernel)) dL_cell_12 ?_
    refine lv_iload_n hx hb dL_cell_14 rfl (lv_at hl 1 rfl) ?_
    refine lv_imul hx hb dL_cell_15 ?_
    refine b_sipush hx hb dL_cell_16 (by decide +kernel) ?_
    refine lv_iadd hx hb dL_cell_19 ?_
    exact g_iret hx hb hr hlocks hS ⟨Nat.le_of_ble_eq_true rfl, Nat.le_of_ble_eq_true rfl⟩ ⟨congrArg (fun z => some (Value.int z)) (if_neg (by omega)).symm, rfl⟩ dL_cell_20
  · refine lv_aload_n hx hb dL_cell_6 rfl (lv_at hl 0 rfl) ?_
    refine lv_iload_n hx hb dL_cell_7 rfl (lv_at hl 1 rfl) ?_
    refine va_sld hx hb hX hbH hbA hS (zj_in (n := L) (j := k) ⟨rfl, by omega, by omega⟩) dL_cell_8 ?_
    refine W.eq (g2 := F0 m 9 ls [.int (xs k)]) (by rw [zj_cl (i := ((k : Nat) : Int)) (j := k) (n := L) ⟨rfl, by omega, by omega⟩]) ?_
    refine lv_goto (tgt := 20) hx hb dL_cell_9 (by decide) ?_
    exact g_iret hx hb hr hlocks hS ⟨Nat.le_of_ble_eq_true rfl, Nat.le_of_ble_eq_true rfl⟩ ⟨congrArg (fun z => some (Value.int z)) (if_pos (by omega)).symm, rfl⟩ dL_cell_20
