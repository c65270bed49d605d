/-! CONSTRUCTORS. -/
section VXIA
variable {p : Program} {l : Launch} {e : Env} {R : Room} {s : State} {m : MethodId} {args : Array Value} {below : List Frame} {meth : Method} {c : Code} {T : State} {locs : List Loc} {cells slots : Nat}
theorem vx_callI (X : Stand p l e R s m args below meth c T locs cells slots) (hexec : p.tables.exec = Jvm.exec) {own : String} {index : Nat} {y : MethodName} {bytes : ByteArray} {maxL : Nat}
    (hown : s.vm.findClass own = some m.cls) (hy1 : y.name = "<init>") (hlink : (Cond.methodLink own index y).before args s = true) (hinst : (Cond.instanceMethod y).before args s = true)
    (hcode : (Cond.code y bytes maxL none).before args s = true) (hy : y.cls ≠ "java/lang/invoke/MethodHandle" ∧ y.cls ≠ "java/lang/invoke/VarHandle")
    {W9 : Nat} {Pre : Pt → Array Value → Prop} {Post : Pt → Array Value → Option Value → Pt → Prop} {PostX : Pt → Array Value → Addr → Pt → Prop} (hK : vx_Back l R p e below s args y 3 W9 Pre Post PostX)
    {g : JFrame} (hg : g.method = m) (hsize : g.locals.size = c.maxLocals) {a : Addr} {argsL rest : List Value} (hlen : ∀ sig, parseMethodDescriptor y.desc = some sig → argsL.length = sig.parameters.length)
    (hstack : g.stack = argsL.reverse ++ .ref a :: rest) (hW : 2 * g.monitorRoom + (rest.map fun v => v.category).sum ≤ W9) (hdg : decode c.code g.pc = .ok (.invokespecial index, 3))
    (hpre : ∀ vm₁, s.WarmedH vm₁ → Pre ⟨T.setVm vm₁, locs, cells, slots⟩ (Value.ref a :: argsL).toArray) :
    (∃ (v : Option Value) (vm₁ : Vm) (B : Pt), s.WarmedH vm₁ ∧ Stand p l e R s m args below meth c B.U B.locs B.cells B.slots ∧ Post ⟨T.setVm vm₁, locs, cells, slots⟩ (Value.ref a :: argsL).toArray v B ∧
      ∀ target, Steps p.tables e below (B.U.setTop { g with pc := g.pc + 3, stack := v.toList ++ rest }) target → Steps p.tables e below (T.setTop g) target) ∨
    (∃ (q : Addr) (vm₁ : Vm) (B : Pt), s.WarmedH vm₁ ∧ Stand p l e R s m args below meth c B.U B.locs B.cells B.slots ∧ PostX ⟨T.setVm vm₁, locs, cells, slots⟩ (Value.ref a :: argsL).toArray q B ∧
      Steps p.tables e below (T.setTop g) ((B.U.setTop { g with stack := rest }).pushFrame (.throwing q))) := by
  subst hg
  have hpl : e.platform.magicAccessors = ({} : Platform).magicAccessors := by rw [X.admits.platform]
  obtain ⟨mk, methM, cM, kP, vm₁, hnamed, hmethM, hcodeM, -, hlocalsM, -, hkP, -, hW₁, hstep₁⟩ := Steps.initColdArgs (e := e) X.here hexec X.warmed hpl hown hy1 hy hlink hinst hcode (f := g) rfl hlen hstack hdg
  have X₁ := X.noted hW₁
  rcases hK g.method meth c ⟨T.setVm vm₁, locs, cells, slots⟩ { g with stack := rest } (.invokespecial index) mk (Value.ref a :: argsL).toArray X₁ rfl hsize hdg hW (X₁.named hnamed) (hpre vm₁ X₁.warmed) with ⟨v, B, X', hpost, hsteps⟩ | ⟨q, B, X', hpost, hsteps⟩
  · exact Or.inl ⟨v, vm₁, B, X₁.warmed, X', hpost, fun target h => hstep₁ _ fun acts => by rw [doInvoke_state]; exact hsteps.trans h⟩
  · exact Or.inr ⟨q, vm₁, B, X₁.warmed, X', hpost, hstep₁ _ fun acts => by rw [doInvoke_state]; exact hsteps⟩
end VXIA
section VXIB
variable {p : Program} {l : Launch} {e : Env} {R : Room} {s : State} {m : MethodId} {args : Array Value} {below : List Frame} {meth : Method} {c : Code} {H : Heap} {locs : List Loc} {cells slots : Nat}
variable {y : MethodName} {bytes cc : ByteArray} {maxL nL mc ms n index : Nat} {ret : Option FieldType} {ws : List Cond} {rm : Room} {Pc : Array Value → State → Prop} {Qc : Array Value → State → Outcome → State → Prop} {XC : String → State → State → Prop} {free : Addr → Prop} {Ts : List Cond} {own C : String} {b : Addr} {As rest : List Value} {g : JFrame}
theorem vx_runI (S : CallFix p m c cc nL s args Ts own) (hM : vx_Met l y ws rm Pc Qc XC mc ms free) (cw : CallB R s args own index y bytes maxL none ws rm mc ms n ∧ y.name = "<init>" ∧ (Cond.instanceMethod y).before args s = true) (hp : PreS s H Pc (.ref b :: As))
    (hg : g.method = m) (hn : As.length = n) (hsize : g.locals.size = nL) (hstack : g.stack = As.reverse ++ .ref b :: rest) (hW : 2 * g.monitorRoom + (rest.map fun v => v.category).sum ≤ 8) (hdg : decode cc g.pc = .ok (.invokespecial index, 3)) (hf : cells + mc ≤ R.cells ∧ slots + ms ≤ R.slots) :
    vx_Run p l e R s m args below meth c H locs cells slots mc ms g rest (Qc (Value.ref b :: As).toArray) XC free := by
  have hK : vx_Back l R p e below s args y 3 8 (PreOf R mc ms Pc) (PostOf Qc mc ms free) (vx_Post XC mc ms free) := vx_callBack cw.1 hM hp.1
  obtain ⟨⟨-, -, -, -, -, -, hcode, -, hy, hlen, hl⟩, hy1, hin⟩ := cw
  obtain ⟨hx, hb, hml, ho, -⟩ := S
  have hPc := hp.2
  intro T hT X
  rcases vx_callI X hx (bytes := bytes) (maxL := maxL) ho hy1 hl hin hcode hy hK hg (hsize.trans hml.symm) (a := b) (argsL := As) (rest := rest) (fun sig h => hn.trans (hlen sig h)) hstack hW (by rw [hb]; exact hdg)
    (fun vm₁ hW₁ => ⟨hf.1, hf.2, hPc (T.setVm vm₁) hT hW₁⟩) with ⟨v, vm₁, ⟨U', l2, c2, s2⟩, hW₁, X', ⟨g', mk, t, L, e1, e2, hq, h1, hL, h2, h3⟩, st⟩ | ⟨q, vm₁, ⟨U', l2, c2, s2⟩, hW₁, X', ⟨g', mk, t, L, E, ce, e1, e2, hq, hce, hcv, hcl, h1, hL, h2, h3⟩, st⟩
  · dsimp only [Pt.U, Pt.locs, Pt.cells, Pt.slots] at X' e1 e2 h1 h2 h3 st
    subst h1; subst h2; subst h3
    exact Or.inl ⟨v, (T.setVm vm₁).calling g' mk (Value.ref b :: As).toArray, t, U', L, hT, X', hL, e1, e2, hq, st⟩
  · dsimp only [Pt.U, Pt.locs, Pt.cells, Pt.slots] at X' e1 e2 h1 h2 h3 st hcl
    subst h1; subst h2; subst h3
    exact Or.inr ⟨q, (T.setVm vm₁).calling g' mk (Value.ref b :: As).toArray, t, U', L, E, ce, hT, X', hL, e1, e2, hq, hce, hcv, vx_cls hW₁ hcl, st⟩
end VXIB
section VXIC
variable {p : Program} {l : Launch} {e : Env} {R : Room} {s : State} {m : MethodId} {args : Array Value} {below : List Frame} {meth : Method} {c : Code} {T : State} {locs : List Loc} {cells slots : Nat}
theorem vx_callIN (X : Stand p l e R s m args below meth c T locs cells slots) (hexec : p.tables.exec = Jvm.exec) {own : String} {index : Nat} {host : String} {y : MethodName} {bytes : ByteArray} {maxL : Nat}
    (hown : s.vm.findClass own = some m.cls) (hy1 : y.name = "<init>") (hlink : (Cond.methodLinkNest own index y host).before args s = true) (hinst : (Cond.instanceMethod y).before args s = true)
    (hcode : (Cond.code y bytes maxL none).before args s = true) (hy : y.cls ≠ "java/lang/invoke/MethodHandle" ∧ y.cls ≠ "java/lang/invoke/VarHandle")
    {W9 : Nat} {Pre : Pt → Array Value → Prop} {Post : Pt → Array Value → Option Value → Pt → Prop} {PostX : Pt → Array Value → Addr → Pt → Prop} (hK : vx_Back l R p e below s args y 3 W9 Pre Post PostX)
    {g : JFrame} (hg : g.method = m) (hsize : g.locals.size = c.maxLocals) {a : Addr} {argsL rest : List Value} (hlen : ∀ sig, parseMethodDescriptor y.desc = some sig → argsL.length = sig.parameters.length)
    (hstack : g.stack = argsL.reverse ++ .ref a :: rest) (hW : 2 * g.monitorRoom + (rest.map fun v => v.category).sum ≤ W9) (hdg : decode c.code g.pc = .ok (.invokespecial index, 3))
    (hpre : ∀ vm₁, s.WarmedH vm₁ → Pre ⟨T.setVm vm₁, locs, cells, slots⟩ (Value.ref a :: argsL).toArray) :
    (∃ (v : Option Value) (vm₁ : Vm) (B : Pt), s.WarmedH vm₁ ∧ Stand p l e R s m args below meth c B.U B.locs B.cells B.slots ∧ Post ⟨T.setVm vm₁, locs, cells, slots⟩ (Value.ref a :: argsL).toArray v B ∧
      ∀ target, Steps p.tables e below (B.U.setTop { g with pc := g.pc + 3, stack := v.toList ++ rest }) target → Steps p.tables e below (T.setTop g) target) ∨
    (∃ (q : Addr) (vm₁ : Vm) (B : Pt), s.WarmedH vm₁ ∧ Stand p l e R s m args below meth c B.U B.locs B.cells B.slots ∧ PostX ⟨T.setVm vm₁, locs, cells, slots⟩ (Value.ref a :: argsL).toArray q B ∧
      Steps p.tables e below (T.setTop g) ((B.U.setTop { g with stack := rest }).pushFrame (.throwing q))) := by
  subst hg
  have hpl : e.platform.magicAccessors = ({} : Platform).magicAccessors := by rw [X.admits.platform]
  obtain ⟨mk, methM, cM, kP, vm₁, hnamed, hmethM, hcodeM, -, hlocalsM, -, hkP, -, hW₁, hstep₁⟩ := Steps.initColdArgsNest (e := e) X.here hexec X.warmed hpl hown hy1 hy hlink hinst hcode (f := g) rfl hlen hstack hdg
  have X₁ := X.noted hW₁
  rcases hK g.method meth c ⟨T.setVm vm₁, locs, cells, slots⟩ { g with stack := rest } (.invokespecial index) mk (Value.ref a :: argsL).toArray X₁ rfl hsize hdg hW (X₁.named hnamed) (hpre vm₁ X₁.warmed) with ⟨v, B, X', hpost, hsteps⟩ | ⟨q, B, X', hpost, hsteps⟩
  · exact Or.inl ⟨v, vm₁, B, X₁.warmed, X', hpost, fun target h => hstep₁ _ fun acts => by rw [doInvoke_state]; exact hsteps.trans h⟩
  · exact Or.inr ⟨q, vm₁, B, X₁.warmed, X', hpost, hstep₁ _ fun acts => by rw [doInvoke_state]; exact hsteps⟩
end VXIC
section VXID
variable {p : Program} {l : Launch} {e : Env} {R : Room} {s : State} {m : MethodId} {args : Array Value} {below : List Frame} {meth : Method} {c : Code} {H : Heap} {locs : List Loc} {cells slots : Nat}
theorem vx_runIN {y : MethodName} {bytes cc : ByteArray} {maxL nL mc ms n index : Nat} {ws : List Cond} {rm : Room} {Pc : Array Value → State → Prop} {Qc : Array Value → State → Outcome → State → Prop} {XC : String → State → State → Prop} {free : Addr → Prop} {Ts : List Cond} {own host : String} {b : Addr} {As rest : List Value} {g : JFrame}
    (S : CallFix p m c cc nL s args Ts own) (hM : vx_Met l y ws rm Pc Qc XC mc ms free) (cw : va_CN R s args own index y host bytes maxL none ws rm mc ms n ∧ y.name = "<init>" ∧ (Cond.instanceMethod y).before args s = true) (hp : PreS s H Pc (.ref b :: As))
    (hg : g.method = m) (hn : As.length = n) (hsize : g.locals.size = nL) (hstack : g.stack = As.reverse ++ .ref b :: rest) (hW : 2 * g.monitorRoom + (rest.map fun v => v.category).sum ≤ 8) (hdg : decode cc g.pc = .ok (.invokespecial index, 3)) (hf : cells + mc ≤ R.cells ∧ slots + ms ≤ R.slots) :
    vx_Run p l e R s m args below meth c H locs cells slots mc ms g rest (Qc (Value.ref b :: As).toArray) XC free := by
  obtain ⟨⟨⟨hrc, hrs, hfr, hlo, hws, hcw⟩, hcode, hini, hy, hlen, hl⟩, hx1, hx2⟩ := cw
  have hK : vx_Back l R p e below s args y 3 8 (PreOf R mc ms Pc) (PostOf Qc mc ms free) (vx_Post XC mc ms free) := vx_back (bytes := bytes) (maxL := maxL) (ret := none) hM hp.1 hrc hrs hfr hlo hws hcw (fun a' U hW => word_at hW (Or.inl (by first | rfl | simp [Cond.onTables, Cond.keeps, Cond.steady])) hini)
  obtain ⟨hx, hb, hml, ho, -⟩ := S
  have hPc := hp.2
  intro T hT X
  rcases vx_callIN X hx (bytes := bytes) (maxL := maxL) ho hx1 hl hx2 hcode hy hK hg (hsize.trans hml.symm) (a := b) (argsL := As) (rest := rest) (fun sig h => hn.trans (hlen sig h)) hstack hW (by rw [hb]; exact hdg)
    (fun vm₁ hW₁ => ⟨hf.1, hf.2, hPc (T.setVm vm₁) hT hW₁⟩) with ⟨v, vm₁, ⟨U', l2, c2, s2⟩, hW₁, X', ⟨g', mk, t, L, e1, e2, hq, h1, hL, h2, h3⟩, st⟩ | ⟨q, vm₁, ⟨U', l2, c2, s2⟩, hW₁, X', ⟨g', mk, t, L, E, ce, e1, e2, hq, hce, hcv, hcl, h1, hL, h2, h3⟩, st⟩
  · dsimp only [Pt.U, Pt.locs, Pt.cells, Pt.slots] at X' e1 e2 h1 h2 h3 st
    subst h1; subst h2; subst h3
    exact Or.inl ⟨v, (T.setVm vm₁).calling g' mk (Value.ref b :: As).toArray, t, U', L, hT, X', hL, e1, e2, hq, st⟩
  · dsimp only [Pt.U, Pt.locs, Pt.cells, Pt.slots] at X' e1 e2 h1 h2 h3 st hcl
    subst h1; subst h2; subst h3
    exact Or.inr ⟨q, (T.setVm vm₁).calling g' mk (Value.ref b :: As).toArray, t, U', L, E, ce, hT, X', hL, e1, e2, hq, hce, hcv, vx_cls hW₁ hcl, st⟩
end VXID
def RC (a : Nat) : Nat → Prop := fun q => a ≤ q
theorem l2_0 : (0 : Int64) = l2 0 := by decide +kernel
theorem za_i (n : Nat) (cA : ClassId) : vp_cell cA (n, .inl (fun _ => z2 0)) = arrV cA n (fun _ => defaultValue .int) := congrArg (arrV cA n) (funext fun _ => congrArg Value.int z2_0.symm)
theorem za_l (n : Nat) (cA : ClassId) : vp_cell cA (n, .inr (.inl (fun _ => l2 0))) = arrV cA n (fun _ => defaultValue .long) := congrArg (arrV cA n) (funext fun _ => congrArg Value.long l2_0.symm)
theorem df0 : Value.int 0 = .int (z2 0) := congrArg Value.int z2_0
theorem dfX0 : ∀ j, j < 4 → defaultValue (tyX0 j) = vp_V [.null, .int (z2 0), .int (z2 0), .int (z2 0)] j := fun j hj => by
  rcases j with _ | _ | _ | _ | j <;> first | rfl | exact df0 | omega
theorem dfX1 : ∀ j, j < 2 → defaultValue (tyX1 j) = vp_V [.null, .int (z2 0)] j := fun j hj => by
  rcases j with _ | _ | j <;> first | rfl | exact df0 | omega
theorem dfX2 : ∀ j, j < 13 → defaultValue (tyX2 j) = vp_V [.int (z2 0), .int (z2 0), .null, .null, .int (z2 0), .int (z2 0), .int (z2 0), .int (z2 0), .int (z2 0), .int (z2 0), .int (z2 0), .int (z2 0), .int (z2 0)] j := fun j hj => by
  rcases j with _ | _ | _ | _ | _ | _ | _ | _ | _ | _ | _ | _ | _ | j <;> first | rfl | exact df0 | omega
/-- a new house: its six cells -/
def HB (D : va_G) (ks : Nat → ClassId) (a n : Nat) (H : Heap) : Prop :=
  ca D a (.inr (2, [.int (z2 (n : Nat)), .int (z2 (n / 4 : Nat)), .ref (a + 1), .ref (a + 2), .int (z2 1), .int (z2 0), .int (z2 0), .int (z2 0), .int (z2 0), .int (z2 0), .int (z2 0), .int (z2 0), .int (z2 1)])) H ∧
  ca D (a + 1) (qA (ks 2) 3 (fun b => some (a + 3 + b))) H ∧ ca D (a + 2) (iA (ks 0) 12 (fun _ => z2 0)) H ∧
  ca D (a + 3) (.inr (0, [.null, .int (z2 1), .int (z2 0), .int (z2 0)])) H ∧ ca D (a + 4) (.inr (0, [.null, .int (z2 1), .int (z2 0), .int (z2 0)])) H ∧ ca D (a + 5) (.inr (0, [.null, .int (z2 1), .int (z2 0), .int (z2 0)])) H
theorem HB.keep {D : va_G} {ks : Nat → ClassId} {a n : Nat} {H H1 : Heap} (h : HB D ks a n H) (hk : ∀ q : Nat, q < H.size → (a ≤ q ∧ q < a + 6) → H1[q]? = H[q]?) : HB D ks a n H1 := by
  obtain ⟨p1, p2, p3, p4, p5, p6⟩ := h
  exact ⟨p1.kept (hk _ p1.lt (by omega)), p2.kept (hk _ p2.lt (by omega)), p3.kept (hk _ p3.lt (by omega)), p4.kept (hk _ p4.lt (by omega)), p5.kept (hk _ p5.lt (by omega)), p6.kept (hk _ p6.lt (by omega))⟩
theorem HB.obj {D : va_G} {ks : Nat → ClassId} {a n : Nat} {H : Heap} (h : HB D ks a n H) : ca D a (.inr (2, [.int (z2 (n : Nat)), .int (z2 (n / 4 : Nat)), .ref (a + 1), .ref (a + 2), .int (z2 1), .int (z2 0), .int (z2 0), .int (z2 0), .int (z2 0), .int (z2 0), .int (z2 0), .int (z2 0), .int (z2 1)])) H := h.1
/-- a new street -/
def BB (D : va_G) (ks : Nat → ClassId) (bx : Nat) (H : Heap) : Prop :=
  ca D bx (.inr (4, [.ref (bx + 1), .ref (bx + 2), .ref (bx + 3), .ref (bx + 4), .int (z2 0), .int (z2 0), .int (z2 0)])) H ∧
  ca D (bx + 1) (qA (ks 4) 8 (fun i => some (bx + 5 + 6 * i))) H ∧ ca D (bx + 2) (qA (ks 3) 2 (fun i => some (bx + 53 + i))) H ∧ ca D (bx + 3) (qA (ks 5) 12 (fun _ => none)) H ∧ ca D (bx + 4) (iA (ks 0) 100 (fun _ => z2 0)) H ∧
  (∀ h : Nat, h < 8 → HB D ks (bx + 5 + 6 * h) h H) ∧ ∀ k : Nat, k < 2 → ca D (bx + 53 + k) (.inr (1, [.null, .int (z2 0)])) H
set_option maxHeartbeats 40000000 in
set_option maxRecDepth 100000 in
theorem k_X0init (l : Launch) (D : va_G) (ks : Nat → ClassId) (bx : Nat) (a : Nat) (H : Heap) {v0 v1 v2 v3 : Value} (he0 : ca D a (.inr (0, [v0, v1, v2, v3])) H) (hab : bx ≤ a) : KM l yX0_init wsX0_init ({ frames := 1, cells := 0, slots := 0, locals := 24 } : Room) D ks bx [.ref a] H (RC (a)) (fun v H1 => v = none ∧ H1.size = H.size ∧ ca D a (.inr (0, [.null, .int (z2 1), .int (z2 0), .int (z2 0)])) H1) (fun _ _ => False) := by
  refine KM.of (cc := cX0_init) (maxL := 1) (ret := none) (by decide) rfl (Nat.le_of_ble_eq_true rfl) ?_
  intro p e s m below meth c hx hb hml hr hlocks hown hname hts hext hH0 hG ls hl
  subst hH0
  have hown : s.vm.findClass RX0 = some m.cls := hown
  have hS : va_S (AR (RC (a)) s.heap.size) s.heap s.heap [] := va_S.rf
  have hl : lv_has ls 1 [(0, .ref a)] := hl
  have inX0 : ∀ w ∈ wsX00, w ∈ wsX0_init := by decide +kernel
  have hK : ∀ q : Nat, q < a → s.heap[q]? = s.heap[q]? := fun q h => rfl
  have c0 := he0
  have hsz : s.heap.size = s.heap.size := rfl
  refine lv_aload_n hx hb dX0_init_0 rfl (lv_at hl 0 rfl) ?_
  refine W.objInit hx hb hown (hts (.methodLink RX0 1 objectInit) (by decide +kernel)) (hts (.instanceMethod objectInit) (by decide +kernel)) (hts (.code objectInit ⟨#[0xb1]⟩ 1 none) (by decide +kernel)) rfl (by rw [hml]; exact hl.1) rfl dX0_init_1 (Nat.le_of_ble_eq_true rfl) (Nat.le_of_ble_eq_true rfl) ?_
  refine lv_aload_n hx hb dX0_init_4 rfl (lv_at hl 0 rfl) ?_
  refine lv_null hx hb dX0_init_5 ?_
  refine g_put (C := RX0) (T := TX0) (N := 4) hx hb hts inX0 tyX0 tyX0_ok nmX0 hown hG hS c0 (Or.inl (show _ ≤ _ by omega)) rfl 0 (by decide) (by decide +kernel) rfl rfl (v := .null) rfl rfl (Nat.le_of_ble_eq_true rfl) dX0_init_6 (fun H locs he hz9 oq hS2 => ?_)
  replace c0 : ca D (a) (.inr (0, [.null, v1, v2, v3])) H := he
  replace hK : ∀ q : Nat, q < a → H[q]? = s.heap[q]? := fun q h => (oq q (by omega)).trans (hK q h)
  replace hsz := hz9.trans hsz
  replace hS := hS2
  clear he oq hz9 hS2
  refine lv_aload_n hx hb dX0_init_9 rfl (lv_at hl 0 rfl) ?_
  refine b_iconst hx hb dX0_init_10 ?_
  refine g_put (C := RX0) (T := TX0) (N := 4) hx hb hts inX0 tyX0 tyX0_ok nmX0 hown hG hS c0 (Or.inl (show _ ≤ _ by omega)) rfl 1 (by decide) (by decide +kernel) rfl rfl (v := .int (z2 (1))) rfl rfl (Nat.le_of_ble_eq_true rfl) dX0_init_11 (fun H locs he hz9 oq hS2 => ?_)
  replace c0 : ca D (a) (.inr (0, [.null, .int (z2 (1)), v2, v3])) H := he
  replace hK : ∀ q : Nat, q < a → H[q]? = s.heap[q]? := fun q h => (oq q (by omega)).trans (hK q h)
  replace hsz := hz9.trans hsz
  replace hS := hS2
  clear he oq hz9 hS2
  refine lv_aload_n hx hb dX0_init_14 rfl (lv_at hl 0 rfl) ?_
  refine b_iconst hx hb dX0_init_15 ?_
  refine g_put (C := RX0) (T := TX0) (N := 4) hx hb hts inX0 tyX0 tyX0_ok nmX0 hown hG hS c0 (Or.inl (show _ ≤ _ by omega)) rfl 2 (by decide) (by decide +kernel) rfl rfl (v := .int (z2 (0))) (by decide +kernel) (by decide +kernel) (Nat.le_of_ble_eq_true rfl) dX0_init_16 (fun H locs he hz9 oq hS2 => ?_)
  replace c0 : ca D (a) (.inr (0, [.null, .int (z2 (1)), .int (z2 (0)), v3])) H := he
  replace hK : ∀ q : Nat, q < a → H[q]? = s.heap[q]? := fun q h => (oq q (by omega)).trans (hK q h)
  replace hsz := hz9.trans hsz
  replace hS := hS2
  clear he oq hz9 hS2
  refine lv_aload_n hx hb dX0_init_19 rfl (lv_at hl 0 rfl) ?_
  refine b_iconst hx hb dX0_init_20 ?_
  refine g_put (C := RX0) (T := TX0) (N := 4) hx hb hts inX0 tyX0 tyX0_ok nmX0 hown hG hS c0 (Or.inl (show _ ≤ _ by omega)) rfl 3 (by decide) (by decide +kernel) rfl rfl (v := .int (z2 (0))) rfl rfl (Nat.le_of_ble_eq_true rfl) dX0_init_21 (fun H locs he hz9 oq hS2 => ?_)
  replace c0 : ca D (a) (.inr (0, [.null, .int (z2 (1)), .int (z2 (0)), .int (z2 (0))])) H := he
  replace hK : ∀ q : Nat, q < a → H[q]? = s.heap[q]? := fun q h => (oq q (by omega)).trans (hK q h)
  replace hsz := hz9.trans hsz
  replace hS := hS2
  clear he oq hz9 hS2
  exact g_vret hx hb hr hlocks hS ⟨Nat.le_of_ble_eq_true rfl, Nat.le_of_ble_eq_true rfl⟩ (⟨rfl, (hsz), c0⟩) dX0_init_24
set_option maxHeartbeats 40000000 in
set_option maxRecDepth 100000 in
theorem k_X1init (l : Launch) (D : va_G) (ks : Nat → ClassId) (bx : Nat) (a : Nat) (H : Heap) {v0 v1 : Value} (he0 : ca D a (.inr (1, [v0, v1])) H) (hab : bx ≤ a) : KM l yX1_init wsX1_init ({ frames := 1, cells := 0, slots := 0, locals := 24 } : Room) D ks bx [.ref a] H (RC (a)) (fun v H1 => v = none ∧ H1.size = H.size ∧ ca D a (.inr (1, [.null, .int (z2 0)])) H1) (fun _ _ => False) := by
  refine KM.of (cc := cX1_init) (maxL := 1) (ret := none) (by decide) rfl (Nat.le_of_ble_eq_true rfl) ?_
  intro p e s m below meth c hx hb hml hr hlocks hown hname hts hext hH0 hG ls hl
  subst hH0
  have hown : s.vm.findClass RX1 = some m.cls := hown
  have hS : va_S (AR (RC (a)) s.heap.size) s.heap s.heap [] := va_S.rf
  have hl : lv_has ls 1 [(0, .ref a)] := hl
  have inX1 : ∀ w ∈ wsX10, w ∈ wsX1_init := by decide +kernel
  have hK : ∀ q : Nat, q < a → s.heap[q]? = s.heap[q]? := fun q h => rfl
  have c0 := he0
  have hsz : s.heap.size = s.heap.size := rfl
  refine lv_aload_n hx hb dX1_init_0 rfl (lv_at hl 0 rfl) ?_
  refine W.objInit hx hb hown (hts (.methodLink RX1 1 objectInit) (by decide +kernel)) (hts (.instanceMethod objectInit) (by decide +kernel)) (hts (.code objectInit ⟨#[0xb1]⟩ 1 none) (by decide +kernel)) rfl (by rw [hml]; exact hl.1) rfl dX1_init_1 (Nat.le_of_ble_eq_true rfl) (Nat.le_of_ble_eq_true rfl) ?_
  refine lv_aload_n hx hb dX1_init_4 rfl (lv_at hl 0 rfl) ?_
  refine lv_null hx hb dX1_init_5 ?_
  refine g_put (C := RX1) (T := TX1) (N := 2) hx hb hts inX1 tyX1 tyX1_ok nmX1 hown hG hS c0 (Or.inl (show _ ≤ _ by omega)) rfl 0 (by decide) (by decide +kernel) rfl rfl (v := .null) rfl rfl (Nat.le_of_ble_eq_true rfl) dX1_init_6 (fun H locs he hz9 oq hS2 => ?_)
  replace c0 : ca D (a) (.inr (1, [.null, v1])) H := he
  replace hK : ∀ q : Nat, q < a → H[q]? = s.heap[q]? := fun q h => (oq q (by omega)).trans (hK q h)
  replace hsz := hz9.trans hsz
  replace hS := hS2
  clear he oq hz9 hS2
  refine lv_aload_n hx hb dX1_init_9 rfl (lv_at hl 0 rfl) ?_
  refine b_iconst hx hb dX1_init_10 ?_
  refine g_put (C := RX1) (T := TX1) (N := 2) hx hb hts inX1 tyX1 tyX1_ok nmX1 hown hG hS c0 (Or.inl (show _ ≤ _ by omega)) rfl 1 (by decide) (by decide +kernel) rfl rfl (v := .int (z2 (0))) rfl rfl (Nat.le_of_ble_eq_true rfl) dX1_init_11 (fun H locs he hz9 oq hS2 => ?_)
  replace c0 : ca D (a) (.inr (1, [.null, .int (z2 (0))])) H := he
  replace hK : ∀ q : Nat, q < a → H[q]? = s.heap[q]? := fun q h => (oq q (by omega)).trans (hK q h)
  replace hsz := hz9.trans hsz
  replace hS := hS2
  clear he oq hz9 hS2
  exact g_vret hx hb hr hlocks hS ⟨Nat.le_of_ble_eq_true rfl, Nat.le_of_ble_eq_true rfl⟩ (⟨rfl, hsz, c0⟩) dX1_init_14
set_option maxHeartbeats 40000000 in
set_option maxRecDepth 100000 in
theorem k_X3init (l : Launch) (D : va_G) (ks : Nat → ClassId) (bx : Nat) (a : Nat) (H : Heap) {v0 v1 v2 v3 : Value} (he0 : ca D a (.inr (3, [v0, v1, v2, v3])) H) (hab : bx ≤ a) (u v5 v6 t : Int) : KM l yX3_init wsX3_init ({ frames := 1, cells := 0, slots := 0, locals := 24 } : Room) D ks bx [.ref a, .int (z2 u), .int (z2 v5), .int (z2 v6), .long (l2 t)] H (RC (a)) (fun v H1 => v = none ∧ H1.size = H.size ∧ ca D a (.inr (3, [.int (z2 u), .int (z2 v5), .int (z2 v6), .long (l2 t)])) H1) (fun _ _ => False) := by
  refine KM.of (cc := cX3_init) (maxL := 6) (ret := none) (by decide) rfl (Nat.le_of_ble_eq_true rfl) ?_
  intro p e s m below meth c hx hb hml hr hlocks hown hname hts hext hH0 hG ls hl
  subst hH0
  have hown : s.vm.findClass RX3 = some m.cls := hown
  have hS : va_S (AR (RC (a)) s.heap.size) s.heap s.heap [] := va_S.rf
  have hl : lv_has ls 6 [(0, .ref a), (1, .int (z2 (u))), (2, .int (z2 (v5))), (3, .int (z2 (v6))), (4, .long (l2 t))] := hl
  have inX3 : ∀ w ∈ wsX30, w ∈ wsX3_init := by decide +kernel
  have hK : ∀ q : Nat, q < a → s.heap[q]? = s.heap[q]? := fun q h => rfl
  have c0 := he0
  have hsz : s.heap.size = s.heap.size := rfl
  refine lv_aload_n hx hb dX3_init_0 rfl (lv_at hl 0 rfl) ?_
  refine W.objInit hx hb hown (hts (.methodLink RX3 3 objectInit) (by decide +kernel)) (hts (.instanceMethod objectInit) (by decide +kernel)) (hts (.code objectInit ⟨#[0xb1]⟩ 1 none) (by decide +kernel)) rfl (by rw [hml]; exact hl.1) rfl dX3_init_1 (Nat.le_of_ble_eq_true rfl) (Nat.le_of_ble_eq_true rfl) ?_
  refine lv_aload_n hx hb dX3_init_4 rfl (lv_at hl 0 rfl) ?_
  refine lv_iload_n hx hb dX3_init_5 rfl (lv_at hl 1 rfl) ?_
  refine g_putF (C := RX3) (T := TX3) (N := 4) hx hb hts inX3 tyX3 tyX3_ok nmX3 hown hname hG hS c0 (Or.inl (show _ ≤ _ by omega)) rfl 0 (by decide) (by decide +kernel) rfl rfl (v := .int (z2 (u))) rfl rfl (Nat.le_of_ble_eq_true rfl) dX3_init_6 (fun H locs he hz9 oq hS2 => ?_)
  replace c0 : ca D (a) (.inr (3, [.int (z2 (u)), v1, v2, v3])) H := he
  replace hK : ∀ q : Nat, q < a → H[q]? = s.heap[q]? := fun q h => (oq q (by omega)).trans (hK q h)
  replace hsz := hz9.trans hsz
  replace hS := hS2
  clear he oq hz9 hS2
  refine lv_aload_n hx hb dX3_init_9 rfl (lv_at hl 0 rfl) ?_
  refine lv_iload_n hx hb dX3_init_10 rfl (lv_at hl 2 rfl) ?_
  refine g_putF (C := RX3) (T := TX3) (N := 4) hx hb hts inX3 tyX3 tyX3_ok nmX3 hown hname hG hS c0 (Or.inl (show _ ≤ _ by omega)) rfl 1 (by decide) (by decide +kernel) rfl rfl (v := .int (z2 (v5))) rfl rfl (Nat.le_of_ble_eq_true rfl) dX3_init_11 (fun H locs he hz9 oq hS2 => ?_)
  replace c0 : ca D (a) (.inr (3, [.int (z2 (u)), .int (z2 (v5)), v2, v3])) H := he
  replace hK : ∀ q : Nat, q < a → H[q]? = s.heap[q]? := fun q h => (oq q (by omega)).trans (hK q h)
  replace hsz := hz9.trans hsz
  replace hS := hS2
  clear he oq hz9 hS2
  refine lv_aload_n hx hb dX3_init_14 rfl (lv_at hl 0 rfl) ?_
  refine lv_iload_n hx hb dX3_init_15 rfl (lv_at hl 3 rfl) ?_
  refine g_putF (C := RX3) (T := TX3) (N := 4) hx hb hts inX3 tyX3 tyX3_ok nmX3 hown hname hG hS c0 (Or.inl (show _ ≤ _ by omega)) rfl 2 (by decide) (by decide +kernel) rfl rfl (v := .int (z2 (v6))) rfl rfl (Nat.le_of_ble_eq_true rfl) dX3_init_16 (fun H locs he hz9 oq hS2 => ?_)
  replace c0 : ca D (a) (.inr (3, [.int (z2 (u)), .int (z2 (v5)), .int (z2 (v6)), v3])) H := he
  replace hK : ∀ q : Nat, q < a → H[q]? = s.heap[q]? := fun q h => (oq q (by omega)).trans (hK q h)
  replace hsz := hz9.trans hsz
  replace hS := hS2
  clear he oq hz9 hS2
  refine lv_aload_n hx hb dX3_init_19 rfl (lv_at hl 0 rfl) ?_
  refine lv_lload hx hb dX3_init_20 (lv_at hl 4 rfl) ?_
  refine g_putF (C := RX3) (T := TX3) (N := 4) hx hb hts inX3 tyX3 tyX3_ok nmX3 hown hname hG hS c0 (Or.inl (show _ ≤ _ by omega)) rfl 3 (by decide) (by decide +kernel) rfl rfl (v := .long (l2 t)) rfl rfl (Nat.le_of_ble_eq_true rfl) dX3_init_22 (fun H locs he hz9 oq hS2 => ?_)
  replace c0 : ca D (a) (.inr (3, [.int (z2 (u)), .int (z2 (v5)), .int (z2 (v6)), .long (l2 t)])) H := he
  replace hK : ∀ q : Nat, q < a → H[q]? = s.heap[q]? := fun q h => (oq q (by omega)).trans (hK q h)
  replace hsz := hz9.trans hsz
  replace hS := hS2
  clear he oq hz9 hS2
  exact g_vret hx hb hr hlocks hS ⟨Nat.le_of_ble_eq_true rfl, Nat.le_of_ble_eq_true rfl⟩ (⟨rfl, hsz, c0⟩) dX3_init_25
set_option maxHeartbeats 40000000 in
set_option maxRecDepth 100000 in
theorem k_X2init (l : Launch) (D : va_G) (ks : Nat → ClassId) (bx : Nat) (a : Nat) (H : Heap) {v0 v1 v2 v3 v4 v5 v6 v7 v8 v9 v10 v11 v12 : Value} (he0 : ca D a (.inr (2, [v0, v1, v2, v3, v4, v5, v6, v7, v8, v9, v10, v11, v12])) H) (hab : bx ≤ a) (hsz0 : H.size = a + 1) (n : Nat) (hn : n < 8) : KM l yX2_init wsX2_init ({ frames := 2, cells := 5, slots := 27, locals := 44 } : Room) D ks bx [.ref a, .int (z2 (n : Nat))] H (RC (a)) (fun v H1 => v = none ∧ H1.size = H.size + 5 ∧ HB D ks a n H1) (fun _ _ => False) := by
  refine KM.of (cc := cX2_init) (maxL := 3) (ret := none) (by decide) rfl (Nat.le_of_ble_eq_true rfl) ?_
  intro p e s m below meth c hx hb hml hr hlocks hown hname hts hext hH0 hG ls hl
  subst hH0
  have hown : s.vm.findClass RX2 = some m.cls := hown
  have hS : va_S (AR (RC (a)) s.heap.size) s.heap s.heap [] := va_S.rf
  have hl : lv_has ls 3 [(0, .ref a), (1, .int (z2 (((n : Nat) : Int))))] := hl
  have inX0 : ∀ w ∈ wsX00, w ∈ wsX2_init := by decide +kernel
  have inX2 : ∀ w ∈ wsX20, w ∈ wsX2_init := by decide +kernel
  have hK : ∀ q : Nat, q < a → s.heap[q]? = s.heap[q]? := fun q h => rfl
  have c0 := he0
  have hsz : s.heap.size = a + 1 := hsz0
  refine lv_aload_n hx hb dX2_init_0 rfl (lv_at hl 0 rfl) ?_
  refine W.objInit hx hb hown (hts (.methodLink RX2 3 objectInit) (by decide +kernel)) (hts (.instanceMethod objectInit) (by decide +kernel)) (hts (.code objectInit ⟨#[0xb1]⟩ 1 none) (by decide +kernel)) rfl (by rw [hml]; exact hl.1) rfl dX2_init_1 (Nat.le_of_ble_eq_true rfl) (Nat.le_of_ble_eq_true rfl) ?_
  refine lv_aload_n hx hb dX2_init_4 rfl (lv_at hl 0 rfl) ?_
  refine b_iconst hx hb dX2_init_5 ?_
  refine g_anew hx hb hts hown (by decide +kernel) (by decide +kernel) hG hS 2 rfl (N := 3) rfl (by decide) ⟨Nat.le_of_ble_eq_true rfl, Nat.le_of_ble_eq_true rfl⟩ dX2_init_6 (fun H hc z1 o1 hS2 => ?_)
  replace c0 := c0.kept (o1 _ c0.lt)
  replace hK : ∀ q : Nat, q < a → H[q]? = s.heap[q]? := fun q h => (o1 q (by omega)).trans (hK q h)
  rw [hsz] at hc z1
  have c1 : ca D (a + 1) (qA (ks 2) 3 (fun _ => none)) H := hc
  refine W.eq (g2 := F0 m 9 ls [.ref (a + 1), .ref a]) (by rw [hsz]) ?_
  replace hsz : H.size = a + 2 := z1
  replace hS := hS2
  clear hS2 hc o1 z1
  refine g_putF (C := RX2) (T := TX2) (N := 13) hx hb hts inX2 tyX2 tyX2_ok nmX2 hown hname hG hS c0 (Or.inl (show _ ≤ _ by omega)) rfl 2 (by decide) (by decide +kernel) rfl rfl (v := .ref (a + 1)) rfl rfl (Nat.le_of_ble_eq_true rfl) dX2_init_9 (fun H locs he hz9 oq hS2 => ?_)
  replace c0 : ca D (a) (.inr (2, [v0, v1, .ref (a + 1), v3, v4, v5, v6, v7, v8, v9, v10, v11, v12])) H := he
  replace c1 := c1.kept (oq _ (by omega))
  replace hK : ∀ q : Nat, q < a → H[q]? = s.heap[q]? := fun q h => (oq q (by omega)).trans (hK q h)
  replace hsz := hz9.trans hsz
  replace hS := hS2
  clear he oq hz9 hS2
  refine lv_aload_n hx hb dX2_init_12 rfl (lv_at hl 0 rfl) ?_
  refine b_bipush hx hb dX2_init_13 (by decide +kernel) ?_
  refine g_newa (atype := .int) (ty := .int) hx hb hts (by decide +kernel) hG hS 0 rfl rfl (fun h => h) (N := 12) (12, .inl (fun _ => z2 0)) (za_i 12) rfl (by decide) (by decide) ⟨Nat.le_of_ble_eq_true rfl, Nat.le_of_ble_eq_true rfl⟩ dX2_init_15 (fun H hc z1 o1 hS2 => ?_)
  replace c0 := c0.kept (o1 _ c0.lt)
  replace c1 := c1.kept (o1 _ c1.lt)
  replace hK : ∀ q : Nat, q < a → H[q]? = s.heap[q]? := fun q h => (o1 q (by omega)).trans (hK q h)
  rw [hsz] at hc z1
  have c2 : ca D (a + 2) (iA (ks 0) 12 (fun _ => z2 0)) H := hc
  refine W.eq (g2 := F0 m 17 ls [.ref (a + 2), .ref a]) (by rw [hsz]) ?_
  replace hsz : H.size = a + 3 := z1
  replace hS := hS2
  clear hS2 hc o1 z1
  refine g_putF (C := RX2) (T := TX2) (N := 13) hx hb hts inX2 tyX2 tyX2_ok nmX2 hown hname hG hS c0 (Or.inl (show _ ≤ _ by omega)) rfl 3 (by decide) (by decide +kernel) rfl rfl (v := .ref (a + 2)) rfl rfl (Nat.le_of_ble_eq_true rfl) dX2_init_17 (fun H locs he hz9 oq hS2 => ?_)
  replace c0 : ca D (a) (.inr (2, [v0, v1, .ref (a + 1), .ref (a + 2), v4, v5, v6, v7, v8, v9, v10, v11, v12])) H := he
  replace c1 := c1.kept (oq _ (by omega))
  replace c2 := c2.kept (oq _ (by omega))
  replace hK : ∀ q : Nat, q < a → H[q]? = s.heap[q]? := fun q h => (oq q (by omega)).trans (hK q h)
  replace hsz := hz9.trans hsz
  replace hS := hS2
  clear he oq hz9 hS2
  refine lv_aload_n hx hb dX2_init_20 rfl (lv_at hl 0 rfl) ?_
  refine b_iconst hx hb dX2_init_21 ?_
  refine g_put (C := RX2) (T := TX2) (N := 13) hx hb hts inX2 tyX2 tyX2_ok nmX2 hown hG hS c0 (Or.inl (show _ ≤ _ by omega)) rfl 4 (by decide) (by decide +kernel) rfl rfl (v := .int (z2 (1))) (by decide +kernel) (by decide +kernel) (Nat.le_of_ble_eq_true rfl) dX2_init_22 (fun H locs he hz9 oq hS2 => ?_)
  replace c0 : ca D (a) (.inr (2, [v0, v1, .ref (a + 1), .ref (a + 2), .int (z2 (1)), v5, v6, v7, v8, v9, v10, v11, v12])) H := he
  replace c1 := c1.kept (oq _ (by omega))
  replace c2 := c2.kept (oq _ (by omega))
  replace hK : ∀ q : Nat, q < a → H[q]? = s.heap[q]? := fun q h => (oq q (by omega)).trans (hK q h)
  replace hsz := hz9.trans hsz
  replace hS := hS2
  clear he oq hz9 hS2
  refine lv_aload_n hx hb dX2_init_25 rfl (lv_at hl 0 rfl) ?_
  refine b_iconst hx hb dX2_init_26 ?_
  refine g_put (C := RX2) (T := TX2) (N := 13) hx hb hts inX2 tyX2 tyX2_ok nmX2 hown hG hS c0 (Or.inl (show _ ≤ _ by omega)) rfl 5 (by decide) (by decide +kernel) rfl rfl (v := .int (z2 (0))) rfl rfl (Nat.le_of_ble_eq_true rfl) dX2_init_27 (fun H locs he hz9 oq hS2 => ?_)
  replace c0 : ca D (a) (.inr (2, [v0, v1, .ref (a + 1), .ref (a + 2), .int (z2 (1)), .int (z2 (0)), v6, v7, v8, v9, v10, v11, v12])) H := he
  replace c1 := c1.kept (oq _ (by omega))
  replace c2 := c2.kept (oq _ (by omega))
  replace hK : ∀ q : Nat, q < a → H[q]? = s.heap[q]? := fun q h => (oq q (by omega)).trans (hK q h)
  replace hsz := hz9.trans hsz
  replace hS := hS2
  clear he oq hz9 hS2
  refine lv_aload_n hx hb dX2_init_30 rfl (lv_at hl 0 rfl) ?_
  refine b_iconst hx hb dX2_init_31 ?_
  refine g_put (C := RX2) (T := TX2) (N := 13) hx hb hts inX2 tyX2 tyX2_ok nmX2 hown hG hS c0 (Or.inl (show _ ≤ _ by omega)) rfl 6 (by decide) (by decide +kernel) rfl rfl (v := .int (z2 (0))) rfl rfl (Nat.le_of_ble_eq_true rfl) dX2_init_32 (fun H locs he hz9 oq hS2 => ?_)
  replace c0 : ca D (a) (.inr (2, [v0, v1, .ref (a + 1), .ref (a + 2), .int (z2 (1)), .int (z2 (0)), .int (z2 (0)), v7, v8, v9, v10, v11, v12])) H := he
  replace c1 := c1.kept (oq _ (by omega))
  replace c2 := c2.kept (oq _ (by omega))
  replace hK : ∀ q : Nat, q < a → H[q]? = s.heap[q]? := fun q h => (oq q (by omega)).trans (hK q h)
  replace hsz := hz9.trans hsz
  replace hS := hS2
  clear he oq hz9 hS2
  refine lv_aload_n hx hb dX2_init_35 rfl (lv_at hl 0 rfl) ?_
  refine b_iconst hx hb dX2_init_36 ?_
  refine g_put (C := RX2) (T := TX2) (N := 13) hx hb hts inX2 tyX2 tyX2_ok nmX2 hown hG hS c0 (Or.inl (show _ ≤ _ by omega)) rfl 7 (by decide) (by decide +kernel) rfl rfl (v := .int (z2 (0))) rfl rfl (Nat.le_of_ble_eq_true rfl) dX2_init_37 (fun H locs he hz9 oq hS2 => ?_)
  replace c0 : ca D (a) (.inr (2, [v0, v1, .ref (a + 1), .ref (a + 2), .int (z2 (1)), .int (z2 (0)), .int (z2 (0)), .int (z2 (0)), v8, v9, v10, v11, v12])) H := he
  replace c1 := c1.kept (oq _ (by omega))
  replace c2 := c2.kept (oq _ (by omega))
  replace hK : ∀ q : Nat, q < a → H[q]? = s.heap[q]? := fun q h => (oq q (by omega)).trans (hK q h)
  replace hsz := hz9.trans hsz
  replace hS := hS2
  clear he oq hz9 hS2
  refine lv_aload_n hx hb dX2_init_40 rfl (lv_at hl 0 rfl) ?_
  refine b_iconst hx hb dX2_init_41 ?_
  refine g_put (C := RX2) (T := TX2) (N := 13) hx hb hts inX2 tyX2 tyX2_ok nmX2 hown hG hS c0 (Or.inl (show _ ≤ _ by omega)) rfl 8 (by decide) (by decide +kernel) rfl rfl (v := .int (z2 (0))) rfl rfl (Nat.le_of_ble_eq_true rfl) dX2_init_42 (fun H locs he hz9 oq hS2 => ?_)
  replace c0 : ca D (a) (.inr (2, [v0, v1, .ref (a + 1), .ref (a + 2), .int (z2 (1)), .int (z2 (0)), .int (z2 (0)), .int (z2 (0)), .int (z2 (0)), v9, v10, v11, v12])) H := he
  replace c1 := c1.kept (oq _ (by omega))
  replace c2 := c2.kept (oq _ (by omega))
  replace hK : ∀ q : Nat, q < a → H[q]? = s.heap[q]? := fun q h => (oq q (by omega)).trans (hK q h)
  replace hsz := hz9.trans hsz
  replace hS := hS2
  clear he oq hz9 hS2
  refine lv_aload_n hx hb dX2_init_45 rfl (lv_at hl 0 rfl) ?_
  refine b_iconst hx hb dX2_init_46 ?_
  refine g_put (C := RX2) (T := TX2) (N := 13) hx hb hts inX2 tyX2 tyX2_ok nmX2 hown hG hS c0 (Or.inl (show _ ≤ _ by omega)) rfl 9 (by decide) (by decide +kernel) rfl rfl (v := .int (z2 (0))) rfl rfl (Nat.le_of_ble_eq_true rfl) dX2_init_47 (fun H locs he hz9 oq hS2 => ?_)
  replace c0 : ca D (a) (.inr (2, [v0, v1, .ref (a + 1), .ref (a + 2), .int (z2 (1)), .int (z2 (0)), .int (z2 (0)), .int (z2 (0)), .int (z2 (0)), .int (z2 (0)), v10, v11, v12])) H := he
  replace c1 := c1.kept (oq _ (by omega))
  replace c2 := c2.kept (oq _ (by omega))
  replace hK : ∀ q : Nat, q < a → H[q]? = s.heap[q]? := fun q h => (oq q (by omega)).trans (hK q h)
  replace hsz := hz9.trans hsz
  replace hS := hS2
  clear he oq hz9 hS2
  refine lv_aload_n hx hb dX2_init_50 rfl (lv_at hl 0 rfl) ?_
  refine b_iconst hx hb dX2_init_51 ?_
  refine g_put (C := RX2) (T := TX2) (N := 13) hx hb hts inX2 tyX2 tyX2_ok nmX2 hown hG hS c0 (Or.inl (show _ ≤ _ by omega)) rfl 10 (by decide) (by decide +kernel) rfl rfl (v := .int (z2 (0))) rfl rfl (Nat.le_of_ble_eq_true rfl) dX2_init_52 (fun H locs he hz9 oq hS2 => ?_)
  replace c0 : ca D (a) (.inr (2, [v0, v1, .ref (a + 1), .ref (a + 2), .int (z2 (1)), .int (z2 (0)), .int (z2 (0)), .int (z2 (0)), .int (z2 (0)), .int (z2 (0)), .int (z2 (0)), v11, v12])) H := he
  replace c1 := c1.kept (oq _ (by omega))
  replace c2 := c2.kept (oq _ (by omega))
  replace hK : ∀ q : Nat, q < a → H[q]? = s.heap[q]? := fun q h => (oq q (by omega)).trans (hK q h)
  replace hsz := hz9.trans hsz
  replace hS := hS2
  clear he oq hz9 hS2
  refine lv_aload_n hx hb dX2_init_55 rfl (lv_at hl 0 rfl) ?_
  refine b_iconst hx hb dX2_init_56 ?_
  refine g_put (C := RX2) (T := TX2) (N := 13) hx hb hts inX2 tyX2 tyX2_ok nmX2 hown hG hS c0 (Or.inl (show _ ≤ _ by omega)) rfl 11 (by decide) (by decide +kernel) rfl rfl (v := .int (z2 (0))) rfl rfl (Nat.le_of_ble_eq_true rfl) dX2_init_57 (fun H locs he hz9 oq hS2 => ?_)
  replace c0 : ca D (a) (.inr (2, [v0, v1, .ref (a + 1), .ref (a + 2), .int (z2 (1)), .int (z2 (0)), .int (z2 (0)), .int (z2 (0)), .int (z2 (0)), .int (z2 (0)), .int (z2 (0)), .int (z2 (0)), v12])) H := he
  replace c1 := c1.kept (oq _ (by omega))
  replace c2 := c2.kept (oq _ (by omega))
  replace hK : ∀ q : Nat, q < a → H[q]? = s.heap[q]? := fun q h => (oq q (by omega)).trans (hK q h)
  replace hsz := hz9.trans hsz
  replace hS := hS2
  clear he oq hz9 hS2
  refine lv_aload_n hx hb dX2_init_60 rfl (lv_at hl 0 rfl) ?_
  refine b_iconst hx hb dX2_init_61 ?_
  refine g_put (C := RX2) (T := TX2) (N := 13) hx hb hts inX2 tyX2 tyX2_ok nmX2 hown hG hS c0 (Or.inl (show _ ≤ _ by omega)) rfl 12 (by decide) (by decide +kernel) rfl rfl (v := .int (z2 (1))) (by decide +kernel) (by decide +kernel) (Nat.le_of_ble_eq_true rfl) dX2_init_62 (fun H locs he hz9 oq hS2 => ?_)
  replace c0 : ca D (a) (.inr (2, [v0, v1, .ref (a + 1), .ref (a + 2), .int (z2 (1)), .int (z2 (0)), .int (z2 (0)), .int (z2 (0)), .int (z2 (0)), .int (z2 (0)), .int (z2 (0)), .int (z2 (0)), .int (z2 (1))])) H := he
  replace c1 := c1.kept (oq _ (by omega))
  replace c2 := c2.kept (oq _ (by omega))
  replace hK : ∀ q : Nat, q < a → H[q]? = s.heap[q]? := fun q h => (oq q (by omega)).trans (hK q h)
  replace hsz := hz9.trans hsz
  replace hS := hS2
  clear he oq hz9 hS2
  refine lv_aload_n hx hb dX2_init_65 rfl (lv_at hl 0 rfl) ?_
  refine lv_iload_n hx hb dX2_init_66 rfl (lv_at hl 1 rfl) ?_
  refine g_putF (C := RX2) (T := TX2) (N := 13) hx hb hts inX2 tyX2 tyX2_ok nmX2 hown hname hG hS c0 (Or.inl (show _ ≤ _ by omega)) rfl 0 (by decide) (by decide +kernel) rfl rfl (v := .int (z2 (((n : Nat) : Int)))) rfl rfl (Nat.le_of_ble_eq_true rfl) dX2_init_67 (fun H locs he hz9 oq hS2 => ?_)
  replace c0 : ca D (a) (.inr (2, [.int (z2 (((n : Nat) : Int))), v1, .ref (a + 1), .ref (a + 2), .int (z2 (1)), .int (z2 (0)), .int (z2 (0)), .int (z2 (0)), .int (z2 (0)), .int (z2 (0)), .int (z2 (0)), .int (z2 (0)), .int (z2 (1))])) H := he
  replace c1 := c1.kept (oq _ (by omega))
  replace c2 := c2.kept (oq _ (by omega))
  replace hK : ∀ q : Nat, q < a → H[q]? = s.heap[q]? := fun q h => (oq q (by omega)).trans (hK q h)
  replace hsz := hz9.trans hsz
  replace hS := hS2
  clear he oq hz9 hS2
  refine lv_aload_n hx hb dX2_init_70 rfl (lv_at hl 0 rfl) ?_
  refine lv_iload_n hx hb dX2_init_71 rfl (lv_at hl 1 rfl) ?_
  refine b_iconst hx hb dX2_init_72 ?_
  refine b_idiv hx hb ⟨⟨by omega, by omega⟩, by decide, by decide⟩ dX2_init_73 ?_
  refine g_putF (C := RX2) (T := TX2) (N := 13) hx hb hts inX2 tyX2 tyX2_ok nmX2 hown hname hG hS c0 (Or.inl (show _ ≤ _ by omega)) rfl 1 (by decide) (by decide +kernel) rfl rfl (v := .int (z2 (((n : Nat) : Int) / 4))) rfl rfl (Nat.le_of_ble_eq_true rfl) dX2_init_74 (fun H locs he hz9 oq hS2 => ?_)
  replace c0 : ca D (a) (.inr (2, [.int (z2 (((n : Nat) : Int))), .int (z2 (((n : Nat) : Int) / 4)), .ref (a + 1), .ref (a + 2), .int (z2 (1)), .int (z2 (0)), .int (z2 (0)), .int (z2 (0)), .int (z2 (0)), .int (z2 (0)), .int (z2 (0)), .int (z2 (0)), .int (z2 (1))])) H := he
  replace c1 := c1.kept (oq _ (by omega))
  replace c2 := c2.kept (oq _ (by omega))
  replace hK : ∀ q : Nat, q < a → H[q]? = s.heap[q]? := fun q h => (oq q (by omega)).trans (hK q h)
  replace hsz := hz9.trans hsz
  replace hS := hS2
  clear he oq hz9 hS2
  refine b_iconst hx hb dX2_init_77 ?_
  refine lv_istore_n (lv' := [(2, .int (z2 (0))), (0, .ref a), (1, .int (z2 (((n : Nat) : Int))))]) hx hb dX2_init_78 rfl hl (by decide) rfl (fun ls hl => ?_)
  refine lv_iload_n hx hb dX2_init_79 rfl (lv_at hl 0 rfl) ?_
  refine b_iconst hx hb dX2_init_80 ?_
  refine b_icmp_ge (tgt := 103) hx hb dX2_init_81 (by decide) ⟨⟨by omega, by omega⟩, ⟨by omega, by omega⟩⟩ (fun c => absurd c (by omega)) (fun _ => ?_)
  refine lv_aload_n hx hb dX2_init_84 rfl (lv_at hl 1 rfl) ?_
  refine g_get (C := RX2) (T := TX2) (N := 13) hx hb hts inX2 hown hG c0 rfl 2 (by decide) (by decide +kernel) rfl (v := .ref (a + 1)) rfl dX2_init_85 ?_
  refine lv_iload_n hx hb dX2_init_88 rfl (lv_at hl 0 rfl) ?_
  refine g_new (C := RX0) (T := TX0) (N := 4) (fs := [.null, .int (z2 0), .int (z2 0), .int (z2 0)]) hx hb hts inX0 tyX0 tyX0_ok hown (by decide +kernel) (by decide +kernel) (by decide +kernel) hG hS (ci := 0) rfl dfX0 ⟨Nat.le_of_ble_eq_true rfl, Nat.le_of_ble_eq_true rfl⟩ dX2_init_89 (fun H hc z1 o1 hS2 => ?_)
  replace c0 := c0.kept (o1 _ c0.lt)
  replace c1 := c1.kept (o1 _ c1.lt)
  replace c2 := c2.kept (o1 _ c2.lt)
  replace hK : ∀ q : Nat, q < a → H[q]? = s.heap[q]? := fun q h => (o1 q (by omega)).trans (hK q h)
  rw [hsz] at hc z1
  have c3 : ca D (a + 3) (.inr (0, [.null, .int (z2 0), .int (z2 0), .int (z2 0)])) H := hc
  refine W.eq (g2 := F0 m 92 ls [.ref (a + 3), .int (z2 (0)), .ref (a + 1)]) (by rw [hsz]) ?_
  replace hsz : H.size = a + 4 := z1
  replace hS := hS2
  clear hS2 hc o1 z1
  refine lv_dup hx hb dX2_init_92 rfl ?_
  refine g_run (vx_runIN (As := []) (rest := [.ref (a + 3), .int (z2 (0)), .ref (a + 1)]) ⟨hx, hb, hml, hown, hts⟩ (k_X0init l D ks bx (a + 3) _ c3 (by omega)) ⟨va_cnB 0 hts gX2_init_X0_init_n56 rfl rfl rfl (hG.2.1 _ (List.mem_of_getElem? (i := 26) rfl)) (hts (.initialized RX0) (by decide +kernel)) (by decide +kernel) ⟨Nat.le_of_ble_eq_true rfl, Nat.le_of_ble_eq_true rfl⟩, rfl, hts (.instanceMethod yX0_init) (by decide +kernel)⟩ (g_preS hG hS (fun q h => Nat.le_trans hab h)) rfl rfl hl.1 rfl (lv_room (Nat.le_of_ble_eq_true rfl)) dX2_init_93 ⟨Nat.le_of_ble_eq_true rfl, Nat.le_of_ble_eq_true rfl⟩) hS (fun q h => (show _ ≤ _ from Nat.le_trans (by omega) (show a + 3 ≤ q from h))) (fun _ _ _ _ _ h => h.elim) (fun v H locs hp hz9 hk9 hS2 => ?_)
  obtain ⟨rfl, hs9, hc⟩ := hp
  have kq := fun (q : Nat) (h : q < a + 3) => hk9 q (by omega) (fun h2 => by have : a + 3 ≤ q := h2; omega)
  replace c0 := c0.kept (kq _ (by omega))
  replace c1 := c1.kept (kq _ (by omega))
  replace c2 := c2.kept (kq _ (by omega))
  replace hK : ∀ q : Nat, q < a → H[q]? = s.heap[q]? := fun q h => (kq q (by omega)).trans (hK q h)
  replace hsz : H.size = a + 4 := by rw [hs9, hsz]
  replace c3 := hc
  replace hS := hS2
  clear hS2 hc hs9 hk9 hz9 kq
  refine W.eq (g2 := F0 m 96 ls [.ref (a + 3), .int (z2 (0)), .ref (a + 1)]) rfl ?_
  refine g_aast (n := 3) (f := (fun _ => none)) hx hb hG hS 2 rfl c1 (Or.inl (show _ ≤ _ by omega)) c3 (r := (RX0, TX0, 4)) rfl 0 ⟨rfl, by decide, by decide⟩ dX2_init_96 (fun H locs he hz9 oq hS2 => ?_)
  replace c1 : ca D (a + 1) (qA (ks 2) 3 (va_up (fun _ => none) 0 (some (a + 3)))) H := he
  replace c0 := c0.kept (oq _ (by omega))
  replace c2 := c2.kept (oq _ (by omega))
  replace c3 := c3.kept (oq _ (by omega))
  replace hK : ∀ q : Nat, q < a → H[q]? = s.heap[q]? := fun q h => (oq q (by omega)).trans (hK q h)
  replace hsz := hz9.trans hsz
  replace hS := hS2
  clear he oq hz9 hS2
  refine b_iinc (lv' := [(2, .int (z2 (1))), (0, .ref a), (1, .int (z2 (((n : Nat) : Int))))]) hx hb dX2_init_97 hl (k := 0) rfl (by decide) rfl (fun ls hl => ?_)
  refine lv_goto (tgt := 79) hx hb dX2_init_100 (by decide) ?_
  refine lv_iload_n hx hb dX2_init_79 rfl (lv_at hl 0 rfl) ?_
  refine b_iconst hx hb dX2_init_80 ?_
  refine b_icmp_ge (tgt := 103) hx hb dX2_init_81 (by decide) ⟨⟨by omega, by omega⟩, ⟨by omega, by omega⟩⟩ (fun c => absurd c (by omega)) (fun _ => ?_)
  refine lv_aload_n hx hb dX2_init_84 rfl (lv_at hl 1 rfl) ?_
  refine g_get (C := RX2) (T := TX2) (N := 13) hx hb hts inX2 hown hG c0 rfl 2 (by decide) (by decide +kernel) rfl (v := .ref (a + 1)) rfl dX2_init_85 ?_
  refine lv_iload_n hx hb dX2_init_88 rfl (lv_at hl 0 rfl) ?_
  refine g_new (C := RX0) (T := TX0) (N := 4) (fs := [.null, .int (z2 0), .int (z2 0), .int (z2 0)]) hx hb hts inX0 tyX0 tyX0_ok hown (by decide +kernel) (by decide +kernel) (by decide +kernel) hG hS (ci := 0) rfl dfX0 ⟨Nat.le_of_ble_eq_true rfl, Nat.le_of_ble_eq_true rfl⟩ dX2_init_89 (fun H hc z1 o1 hS2 => ?_)
  replace c0 := c0.kept (o1 _ c0.lt)
  replace c1 := c1.kept (o1 _ c1.lt)
  replace c2 := c2.kept (o1 _ c2.lt)
  replace c3 := c3.kept (o1 _ c3.lt)
  replace hK : ∀ q : Nat, q < a → H[q]? = s.heap[q]? := fun q h => (o1 q (by omega)).trans (hK q h)
  rw [hsz] at hc z1
  have c4 : ca D (a + 4) (.inr (0, [.null, .int (z2 0), .int (z2 0), .int (z2 0)])) H := hc
  refine W.eq (g2 := F0 m 92 ls [.ref (a + 4), .int (z2 (1)), .ref (a + 1)]) (by rw [hsz]) ?_
  replace hsz : H.size = a + 5 := z1
  replace hS := hS2
  clear hS2 hc o1 z1
  refine lv_dup hx hb dX2_init_92 rfl ?_
  refine g_run (vx_runIN (As := []) (rest := [.ref (a + 4), .int (z2 (1)), .ref (a + 1)]) ⟨hx, hb, hml, hown, hts⟩ (k_X0init l D ks bx (a + 4) _ c4 (by omega)) ⟨va_cnB 0 hts gX2_init_X0_init_n56 rfl rfl rfl (hG.2.1 _ (List.mem_of_getElem? (i := 26) rfl)) (hts (.initialized RX0) (by decide +kernel)) (by decide +kernel) ⟨Nat.le_of_ble_eq_true rfl, Nat.le_of_ble_eq_true rfl⟩, rfl, hts (.instanceMethod yX0_init) (by decide +kernel)⟩ (g_preS hG hS (fun q h => Nat.le_trans hab h)) rfl rfl hl.1 rfl (lv_room (Nat.le_of_ble_eq_true rfl)) dX2_init_93 ⟨Nat.le_of_ble_eq_true rfl, Nat.le_of_ble_eq_true rfl⟩) hS (fun q h => (show _ ≤ _ from Nat.le_trans (by omega) (show a + 4 ≤ q from h))) (fun _ _ _ _ _ h => h.elim) (fun v H locs hp hz9 hk9 hS2 => ?_)
  obtain ⟨rfl, hs9, hc⟩ := hp
  have kq := fun (q : Nat) (h : q < a + 4) => hk9 q (by omega) (fun h2 => by have : a + 4 ≤ q := h2; omega)
  replace c0 := c0.kept (kq _ (by omega))
  replace c1 := c1.kept (kq _ (by omega))
  replace c2 := c2.kept (kq _ (by omega))
  replace c3 := c3.kept (kq _ (by omega))
  replace hK : ∀ q : Nat, q < a → H[q]? = s.heap[q]? := fun q h => (kq q (by omega)).trans (hK q h)
  replace hsz : H.size = a + 5 := by rw [hs9, hsz]
  replace c4 := hc
  replace hS := hS2
  clear hS2 hc hs9 hk9 hz9 kq
  refine W.eq (g2 := F0 m 96 ls [.ref (a + 4), .int (z2 (1)), .ref (a + 1)]) rfl ?_
  refine g_aast (n := 3) (f := (va_up (fun _ => none) 0 (some (a + 3)))) hx hb hG hS 2 rfl c1 (Or.inl (show _ ≤ _ by omega)) c4 (r := (RX0, TX0, 4)) rfl 1 ⟨rfl, by decide, by decide⟩ dX2_init_96 (fun H locs he hz9 oq hS2 => ?_)
  replace c1 : ca D (a + 1) (qA (ks 2) 3 (va_up (va_up (fun _ => none) 0 (some (a + 3))) 1 (some (a + 4)))) H := he
  replace c0 := c0.kept (oq _ (by omega))
  replace c2 := c2.kept (oq _ (by omega))
  replace c3 := c3.kept (oq _ (by omega))
  replace c4 := c4.kept (oq _ (by omega))
  replace hK : ∀ q : Nat, q < a → H[q]? = s.heap[q]? := fun q h => (oq q (by omega)).trans (hK q h)
  replace hsz := hz9.trans hsz
  replace hS := hS2
  clear he oq hz9 hS2
  refine b_iinc (lv' := [(2, .int (z2 (2))), (0, .ref a), (1, .int (z2 (((n : Nat) : Int))))]) hx hb dX2_init_97 hl (k := 0) rfl (by decide) rfl (fun ls hl => ?_)
  refine lv_goto (tgt := 79) hx hb dX2_init_100 (by decide) ?_
  refine lv_iload_n hx hb dX2_init_79 rfl (lv_at hl 0 rfl) ?_
  refine b_iconst hx hb dX2_init_80 ?_
  refine b_icmp_ge (tgt := 103) hx hb dX2_init_81 (by decide) ⟨⟨by omega, by omega⟩, ⟨by omega, by omega⟩⟩ (fun c => absurd c (by omega)) (fun _ => ?_)
  refine lv_aload_n hx hb dX2_init_84 rfl (lv_at hl 1 rfl) ?_
  refine g_get (C := RX2) (T := TX2) (N := 13) hx hb hts inX2 hown hG c0 rfl 2 (by decide) (by decide +kernel) rfl (v := .ref (a + 1)) rfl dX2_init_85 ?_
  refine lv_iload_n hx hb dX2_init_88 rfl (lv_at hl 0 rfl) ?_
  refine g_new (C := RX0) (T := TX0) (N := 4) (fs := [.null, .int (z2 0), .int (z2 0), .int (z2 0)]) hx hb hts inX0 tyX0 tyX0_ok hown (by decide +kernel) (by decide +kernel) (by decide +kernel) hG hS (ci := 0) rfl dfX0 ⟨Nat.le_of_ble_eq_true rfl, Nat.le_of_ble_eq_true rfl⟩ dX2_init_89 (fun H hc z1 o1 hS2 => ?_)
  replace c0 := c0.kept (o1 _ c0.lt)
  replace c1 := c1.kept (o1 _ c1.lt)
  replace c2 := c2.kept (o1 _ c2.lt)
  replace c3 := c3.kept (o1 _ c3.lt)
  replace c4 := c4.kept (o1 _ c4.lt)
  replace hK : ∀ q : Nat, q < a → H[q]? = s.heap[q]? := fun q h => (o1 q (by omega)).trans (hK q h)
  rw [hsz] at hc z1
  have c5 : ca D (a + 5) (.inr (0, [.null, .int (z2 0), .int (z2 0), .int (z2 0)])) H := hc
  refine W.eq (g2 := F0 m 92 ls [.ref (a + 5), .int (z2 (2)), .ref (a + 1)]) (by rw [hsz]) ?_
  replace hsz : H.size = a + 6 := z1
  replace hS := hS2
  clear hS2 hc o1 z1
  refine lv_dup hx hb dX2_init_92 rfl ?_
  refine g_run (vx_runIN (As := []) (rest := [.ref (a + 5), .int (z2 (2)), .ref (a + 1)]) ⟨hx, hb, hml, hown, hts⟩ (k_X0init l D ks bx (a + 5) _ c5 (by omega)) ⟨va_cnB 0 hts gX2_init_X0_init_n56 rfl rfl rfl (hG.2.1 _ (List.mem_of_getElem? (i := 26) rfl)) (hts (.initialized RX0) (by decide +kernel)) (by decide +kernel) ⟨Nat.le_of_ble_eq_true rfl, Nat.le_of_ble_eq_true rfl⟩, rfl, hts (.instanceMethod yX0_init) (by decide +kernel)⟩ (g_preS hG hS (fun q h => Nat.le_trans hab h)) rfl rfl hl.1 rfl (lv_room (Nat.le_of_ble_eq_true rfl)) dX2_init_93 ⟨Nat.le_of_ble_eq_true rfl, Nat.le_of_ble_eq_true rfl⟩) hS (fun q h => (show _ ≤ _ from Nat.le_trans (by omega) (show a + 5 ≤ q from h))) (fun _ _ _ _ _ h => h.elim) (fun v H locs hp hz9 hk9 hS2 => ?_)
  obtain ⟨rfl, hs9, hc⟩ := hp
  have kq := fun (q : Nat) (h : q < a + 5) => hk9 q (by omega) (fun h2 => by have : a + 5 ≤ q := h2; omega)
  replace c0 := c0.kept (kq _ (by omega))
  replace c1 := c1.kept (kq _ (by omega))
  replace c2 := c2.kept (kq _ (by omega))
  replace c3 := c3.kept (kq _ (by omega))
  replace c4 := c4.kept (kq _ (by omega))
  replace hK : ∀ q : Nat, q < a → H[q]? = s.heap[q]? := fun q h => (kq q (by omega)).trans (hK q h)
  replace hsz : H.size = a + 6 := by rw [hs9, hsz]
  replace c5 := hc
  replace hS := hS2
  clear hS2 hc hs9 hk9 hz9 kq
  refine W.eq (g2 := F0 m 96 ls [.ref (a + 5), .int (z2 (2)), .ref (a + 1)]) rfl ?_
  refine g_aast (n := 3) (f := (va_up (va_up (fun _ => none) 0 (some (a + 3))) 1 (some (a + 4)))) hx hb hG hS 2 rfl c1 (Or.inl (show _ ≤ _ by omega)) c5 (r := (RX0, TX0, 4)) rfl 2 ⟨rfl, by decide, by decide⟩ dX2_init_96 (fun H locs he hz9 oq hS2 => ?_)
  replace c1 : ca D (a + 1) (qA (ks 2) 3 (va_up (va_up (va_up (fun _ => none) 0 (some (a + 3))) 1 (some (a + 4))) 2 (some (a + 5)))) H := he
  replace c0 := c0.kept (oq _ (by omega))
  replace c2 := c2.kept (oq _ (by omega))
  replace c3 := c3.kept (oq _ (by omega))
  replace c4 := c4.kept (oq _ (by omega))
  replace c5 := c5.kept (oq _ (by omega))
  replace hK : ∀ q : Nat, q < a → H[q]? = s.heap[q]? := fun q h => (oq q (by omega)).trans (hK q h)
  replace hsz := hz9.trans hsz
  replace hS := hS2
  clear he oq hz9 hS2
  refine b_iinc (lv' := [(2, .int (z2 (3))), (0, .ref a), (1, .int (z2 (((n : Nat) : Int))))]) hx hb dX2_init_97 hl (k := 0) rfl (by decide) rfl (fun ls hl => ?_)
  refine lv_goto (tgt := 79) hx hb dX2_init_100 (by decide) ?_
  refine lv_iload_n hx hb dX2_init_79 rfl (lv_at hl 0 rfl) ?_
  refine b_iconst hx hb dX2_init_80 ?_
  refine b_icmp_ge (tgt := 103) hx hb dX2_init_81 (by decide) ⟨⟨by omega, by omega⟩, ⟨by omega, by omega⟩⟩ (fun _ => ?_) (fun c => absurd c (by omega))
  exact g_vret hx hb hr hlocks hS ⟨Nat.le_of_ble_eq_true rfl, Nat.le_of_ble_eq_true rfl⟩ (⟨rfl, by rw [hsz0]; exact hsz, ⟨c0, qa_cong c1 (fun j hj => by rcases j with _ | _ | _ | j <;> first | rfl | omega), c2, c3, c4, c5⟩⟩) dX2_init_103
