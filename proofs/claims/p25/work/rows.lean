section
-- ===== PART A: goes FIRST, ahead of the names: the tables' words, and 'selects' of the private methods out of them =====
/-- a private method of a class that the tables say can be made, by its rows of tables_1 -/
def lw_okq (q : MethodName × Nat) : Prop := (q.1.cls ≠ "java/lang/invoke/MethodHandle" ∧ q.1.cls ≠ "java/lang/invoke/VarHandle") ∧ Cond.instantiable q.1.cls q.2 ∈ tables_1 ∧ Cond.privateMethod q.1 ∈ tables_1 ∧ Cond.instanceMethod q.1 ∈ tables_1
theorem lw_p0 : lw_okq (⟨"BellStreet", "houseAt", "(I)LBellStreet$House;"⟩, 7) := ⟨⟨by decide +kernel, by decide +kernel⟩, List.mem_of_getElem? (i := 14) (by decide +kernel), List.mem_of_getElem? (i := 153) (by decide +kernel), List.mem_of_getElem? (i := 154) (by decide +kernel)⟩
theorem lw_p1 : lw_okq (⟨"BellStreet", "checkHouse", "(I)V"⟩, 7) := ⟨⟨by decide +kernel, by decide +kernel⟩, List.mem_of_getElem? (i := 14) (by decide +kernel), List.mem_of_getElem? (i := 157) (by decide +kernel), List.mem_of_getElem? (i := 158) (by decide +kernel)⟩
theorem lw_p2 : lw_okq (⟨"java/lang/Throwable", "fillInStackTrace", "(I)Ljava/lang/Throwable;"⟩, 6) := ⟨⟨by decide +kernel, by decide +kernel⟩, List.mem_of_getElem? (i := 199) (by decide +kernel), List.mem_of_getElem? (i := 197) (by decide +kernel), List.mem_of_getElem? (i := 198) (by decide +kernel)⟩
theorem lw_p3 : lw_okq (⟨"BellStreet$House", "quietSeconds", "(II)I"⟩, 13) := ⟨⟨by decide +kernel, by decide +kernel⟩, List.mem_of_getElem? (i := 27) (by decide +kernel), List.mem_of_getElem? (i := 249) (by decide +kernel), List.mem_of_getElem? (i := 250) (by decide +kernel)⟩
theorem lw_p4 : lw_okq (⟨"BellStreet", "bellAt", "(II)LBellStreet$Bell;"⟩, 7) := ⟨⟨by decide +kernel, by decide +kernel⟩, List.mem_of_getElem? (i := 14) (by decide +kernel), List.mem_of_getElem? (i := 266) (by decide +kernel), List.mem_of_getElem? (i := 267) (by decide +kernel)⟩
theorem lw_p5 : lw_okq (⟨"BellStreet", "melodyAt", "(I)LBellStreet$Melody;"⟩, 7) := ⟨⟨by decide +kernel, by decide +kernel⟩, List.mem_of_getElem? (i := 14) (by decide +kernel), List.mem_of_getElem? (i := 271) (by decide +kernel), List.mem_of_getElem? (i := 272) (by decide +kernel)⟩
theorem lw_p6 : lw_okq (⟨"BellStreet", "nextChange", "(I)I"⟩, 7) := ⟨⟨by decide +kernel, by decide +kernel⟩, List.mem_of_getElem? (i := 14) (by decide +kernel), List.mem_of_getElem? (i := 299) (by decide +kernel), List.mem_of_getElem? (i := 300) (by decide +kernel)⟩
theorem lw_p7 : lw_okq (⟨"BellStreet", "passStretch", "(I)V"⟩, 7) := ⟨⟨by decide +kernel, by decide +kernel⟩, List.mem_of_getElem? (i := 14) (by decide +kernel), List.mem_of_getElem? (i := 308) (by decide +kernel), List.mem_of_getElem? (i := 309) (by decide +kernel)⟩
def lw_privs_1 : List (MethodName × Nat) := [(⟨"BellStreet", "houseAt", "(I)LBellStreet$House;"⟩, 7), (⟨"BellStreet", "checkHouse", "(I)V"⟩, 7), (⟨"java/lang/Throwable", "fillInStackTrace", "(I)Ljava/lang/Throwable;"⟩, 6), (⟨"BellStreet$House", "quietSeconds", "(II)I"⟩, 13), (⟨"BellStreet", "bellAt", "(II)LBellStreet$Bell;"⟩, 7), (⟨"BellStreet", "melodyAt", "(I)LBellStreet$Melody;"⟩, 7), (⟨"BellStreet", "nextChange", "(I)I"⟩, 7), (⟨"BellStreet", "passStretch", "(I)V"⟩, 7)]
theorem lw_r1 : ∀ q ∈ lw_privs_1, lw_okq q := List.forall_mem_cons.mpr ⟨lw_p0, List.forall_mem_cons.mpr ⟨lw_p1, List.forall_mem_cons.mpr ⟨lw_p2, List.forall_mem_cons.mpr ⟨lw_p3, List.forall_mem_cons.mpr ⟨lw_p4, List.forall_mem_cons.mpr ⟨lw_p5, List.forall_mem_cons.mpr ⟨lw_p6, List.forall_mem_cons.mpr ⟨lw_p7, fun _ h => absurd h List.not_mem_nil⟩⟩⟩⟩⟩⟩⟩⟩
def lw_privs : List (MethodName × Nat) := lw_privs_1
def lw_tbl : List Cond := k2_sels lw_privs ++ tables_1
theorem lw_privs_ok : ∀ q ∈ lw_privs, lw_okq q := lw_r1
/-! ===== BEGIN words of one list among another's, by their places ===== -/
theorem goodIn_r {big : List Cond} (ws : List Cond) (ps : List Nat) (hp : ws = ps.filterMap (fun i => big[i]?)) (h : ws.all goodWord = true) : GoodIn big ws := by
  intro w hw
  have h1 := List.all_eq_true.mp h w hw
  rw [hp] at hw
  obtain ⟨i, -, hi⟩ := List.mem_filterMap.mp hw
  have hm : w ∈ big := by first | exact List.mem_of_getElem? hi | exact List.getElem?_mem hi
  exact ⟨hm, good_of_word h1⟩
theorem goodIn_app {big a b : List Cond} (ha : GoodIn big a) (hb : GoodIn big b) : GoodIn big (a ++ b) := fun w h => (List.mem_append.mp h).elim (ha w) (hb w)
theorem goodIn_ca {big a b : List Cond} {c : Cond} (ha : GoodIn big (c :: a)) (hb : GoodIn big b) : GoodIn big (c :: (a ++ b)) := fun w h => (List.mem_cons.mp h).elim (fun e => ha w (List.mem_cons.mpr (Or.inl e))) (fun h => (List.mem_append.mp h).elim (fun h => ha w (List.mem_cons.mpr (Or.inr h))) (hb w))
theorem goodIn_sub {big ws : List Cond} (hm : ∀ w ∈ ws, w ∈ big) (h : ws.all goodWord = true) : GoodIn big ws := fun w hw => ⟨hm w hw, good_of_word (List.all_eq_true.mp h w hw)⟩
/-! ===== END ===== -/

/-! ===== BEGIN exceptions that leave a method, and their catching by the caller (launches without stack traces) ===== -/
section VXA
/-! The laws vx_back, vx_callV, vx_callS, vx_callSW, vx_throw0, vx_throwS follow proofs of the library, with one case more: JvmDerived/Free/Laws.lean (Back.of_free), Shelf42/LK1.lean (callV, callS), Shelf/KitTraced.lean (throwNew0V, throwNewS). -/
/-- where a method has thrown q: the class by its name, the cell, what was written, the world -/
def vx_T (XC : String → State → State → Prop) (st : State) (q : Addr) (t : State) (mc ms : Nat) (free : Addr → Prop) : Prop :=
  ∃ (E : String) (ce : Cell) (L : List Loc), XC E st t ∧ t.heap[q]? = some ce ∧ ce.vm = .none ∧ st.vm.findClass E = some ce.cls ∧ st.WarmedH t.vm ∧ st.sameButNew ({ t with vm := st.vm } : State) L mc ms ∧ ∀ z ∈ L, free z.base
def vx_Q (Qc : Array Value → State → Outcome → State → Prop) (XC : String → State → State → Prop) (mc ms : Nat) (free : Addr → Prop) : Array Value → State → Outcome → State → Prop := fun a st o t =>
  (Qc a st o t ∧ ∃ L, FrameEnd st o t L mc ms ∧ ∀ q ∈ L, free q.base) ∨ ∃ q, o = .threw q ∧ vx_T XC st q t mc ms free
/-- a callee that returns or throws -/
def vx_Met (l : Launch) (y : MethodName) (ws : List Cond) (rm : Room) (Pc : Array Value → State → Prop) (Qc : Array Value → State → Outcome → State → Prop) (XC : String → State → State → Prop) (mc ms : Nat) (free : Addr → Prop) : Prop :=
  MetFree l y (headSpec ws rm) Pc (fun _ _ _ _ _ => True) (vx_Q Qc XC mc ms free)
def vx_Post (XC : String → State → State → Prop) (mc ms : Nat) (free : Addr → Prop) : Pt → Array Value → Addr → Pt → Prop := fun A a q B =>
  ∃ (g : JFrame) (mk : MethodId) (t : State) (L : List Loc) (E : String) (ce : Cell), B.U.heap = t.heap ∧ B.U.vm = t.vm ∧ XC E (A.U.calling g mk a) t ∧ t.heap[q]? = some ce ∧ ce.vm = .none ∧ A.U.vm.findClass E = some ce.cls ∧ B.locs = A.locs ++ L ∧ (∀ z ∈ L, free z.base) ∧ B.cells = A.cells + mc ∧ B.slots = A.slots + ms
def vx_Back (l : Launch) (R : Room) (p : Program) (e : Env) (below : List Frame) (s : State) (sargs : Array Value) (y : MethodName) (len W9 : Nat)
    (Pre : Pt → Array Value → Prop) (Post : Pt → Array Value → Option Value → Pt → Prop) (PostX : Pt → Array Value → Addr → Pt → Prop) : Prop :=
  ∀ (m : MethodId) (meth : Method) (c : Code) (A : Pt) (g : JFrame) (ig : Instr) (mk : MethodId) (a : Array Value),
    Stand p l e R s m sargs below meth c A.U A.locs A.cells A.slots → g.method = m → g.locals.size = c.maxLocals → decode c.code g.pc = .ok (ig, len) →
    2 * g.monitorRoom + (g.stack.map fun v => v.category).sum ≤ W9 → A.U.methodNamed? y = some mk → Pre A a →
    (∃ (v : Option Value) (B : Pt), Stand p l e R s m sargs below meth c B.U B.locs B.cells B.slots ∧ Post A a v B ∧
      Steps p.tables e below (doInvoke e (A.U.setTop g) [] mk a).1 (B.U.setTop { g with pc := g.pc + len, stack := v.toList ++ g.stack })) ∨
    (∃ (q : Addr) (B : Pt), Stand p l e R s m sargs below meth c B.U B.locs B.cells B.slots ∧ PostX A a q B ∧
      Steps p.tables e below (doInvoke e (A.U.setTop g) [] mk a).1 ((B.U.setTop g).pushFrame (.throwing q)))
section Payer
variable {l : Launch} {R : Room} {p : Program} {e : Env} {below : List Frame} {s : State} {sargs : Array Value} {y : MethodName} {len W9 : Nat}
theorem vx_back {ws : List Cond} {rm : Room} {Pc : Array Value → State → Prop} {Qc : Array Value → State → Outcome → State → Prop} {XC : String → State → State → Prop} {mc ms : Nat} {free : Addr → Prop} {bytes : ByteArray} {maxL : Nat} {ret : Option FieldType}
    (hM : vx_Met l y ws rm Pc Qc XC mc ms free) (hblind : FrameBlind Pc) (hrc : rm.cells = mc) (hrs : rm.slots = ms)
    (hframes : rm.frames + 1 ≤ R.frames) (hlocals : W9 + (maxL + 11) + rm.locals ≤ R.locals)
    (hws : ∀ w ∈ ws, ∀ a' U, s.WarmedH U.vm → w.before a' U = true) (hcode : Cond.code y bytes maxL ret ∈ ws) (hinit : ∀ a' U, s.WarmedH U.vm → (Cond.initialized y.cls).before a' U = true) :
    vx_Back l R p e below s sargs y len W9 (PreOf R mc ms Pc) (PostOf Qc mc ms free) (vx_Post XC mc ms free) := by
  intro m meth c A g ig mk a X hg hsize hdg hW hn hp
  have h1 : (headSpec ws rm).pre.before a A.U = true := atoms_intro fun w hw => hws w hw _ _ X.warmed
  have h2 : (Cond.code y bytes maxL ret).before a A.U = true := hws _ hcode _ _ X.warmed
  have h3 : (Cond.initialized y.cls).before a A.U = true := hinit _ _ X.warmed
  have h4 : A.cells + (headSpec ws rm).room.cells ≤ R.cells := by rw [show (headSpec ws rm).room.cells = mc from hrc]; exact hp.1
  have h5 : A.slots + (headSpec ws rm).room.slots ≤ R.slots := by rw [show (headSpec ws rm).room.slots = ms from hrs]; exact hp.2.1
  have hPc : Pc a (A.U.calling g mk a) := hblind _ _ _ _ hp.2.2
  obtain ⟨U, Ls, c0, s0⟩ := A
  dsimp only [Pt.U, Pt.locs, Pt.cells, Pt.slots] at h1 h2 h3 h4 h5 X hn hPc ⊢
  obtain ⟨methY, cY, hmY, hcY, -, hlY, -, -, -, -⟩ := Cond.code_spec hn h2
  obtain ⟨kY, hkY, -⟩ := className_of_methodNamed hn
  have hinitY : kY.init = .initialized := Cond.initialized_spec (findClass_of_methodNamed hn) hkY h3
  have h : At U g.method c below := by rw [hg]; exact X.here
  have hlocals9 : W9 + (maxL + 11) + (headSpec ws rm).room.locals ≤ R.locals := hlocals
  have happ : (headSpec ws rm).appliesLoose y e.platform (U.calling g mk a) = true :=
    Spec.appliesLoose_calling (g := g) h hdg hn hkY hinitY
      (X.room_calling (g := g) (R' := (headSpec ws rm).room) hsize hmY hcY hframes (by rw [hlY]; omega) h4 h5) h1
  obtain ⟨mid, hmid⟩ := h.above
  have hfr : (U.setTop g).frames = (.java g :: mid) ++ below := by rw [State.frames_setTop' g h.top, hmid]; rfl
  obtain ⟨o, s₂, hsteps, -, hend, hq⟩ := Steps.callFree hM p X.admits X.cas X.clock (acts := []) hfr happ hPc trivial
  have hq' : vx_Q Qc XC mc ms free a (U.calling g mk a) o s₂ := hq
  rw [State.frames_setTop' g h.top] at hend
  obtain ⟨g₀, hg0⟩ := Option.isSome_iff_exists.mp h.top
  obtain ⟨r, hr⟩ := State.topJava?_eq_some.mp hg0
  have hr' : (({ U with heap := s₂.heap, slotsUsed := s₂.slotsUsed } : State).setVm s₂.vm).frames = .java g₀ :: r := hr
  rcases hq' with ⟨hqc, L, hfe, hL⟩ | ⟨q, rfl, E, ce, L, hx, hce, hcv, hcl, hW₂, hsm, hL⟩
  · obtain ⟨⟨v, rfl⟩, hW₂, e2, q2, q3, q4, q5, q6⟩ := id hfe
    have e3 : s₂ = ({ (U.calling g mk a).setFrames s₂.frames with heap := s₂.heap, slotsUsed := s₂.slotsUsed } : State).setVm s₂.vm := by
      have : s₂ = ({ s₂ with vm := (U.calling g mk a).vm } : State).setVm s₂.vm := rfl
      rw [e2] at this
      exact this
    obtain ⟨c₂, i₂, len₂, hc₂, hd₂, hf₂⟩ := hend
    have hW' : U.WarmedH s₂.vm := hW₂
    have hcc : c₂ = c := by
      have h1 : s₂.code? g.method = U.code? g.method := by
        rw [State.code?_eq, State.code?_eq, hW'.alike.method?]
      exact Option.some.inj (hc₂.symm.trans (h1.trans h.code))
    subst hcc
    have hlen : len₂ = len := by rw [hdg] at hd₂; cases hd₂; rfl
    subst hlen
    have hs₂ : s₂ = (({ U with heap := s₂.heap, slotsUsed := s₂.slotsUsed } : State).setVm s₂.vm).setTop { g with pc := g.pc + len₂, stack := v.toList ++ g.stack } := by
      refine e3.trans ?_
      rw [hf₂, State.calling_eq h.top, State.setFrames_setFrames, State.setTop_of_frames _ hr', hr]
      rfl
    have hsame : U.sameButNew ({ U with heap := s₂.heap, slotsUsed := s₂.slotsUsed } : State) L mc ms := by
      refine ⟨?_, q2, q3, q4, q5, q6⟩
      obtain ⟨t, ht, -⟩ := State.frames_cons hr
      show ({ U with heap := s₂.heap, slotsUsed := s₂.slotsUsed } : State) = { U.setFrames U.frames with heap := s₂.heap, slotsUsed := s₂.slotsUsed }
      rw [State.setFrames_self ht]
    subst hg
    refine Or.inl ⟨v, ⟨(({ U with heap := s₂.heap, slotsUsed := s₂.slotsUsed } : State).setVm s₂.vm), Ls ++ L, c0 + mc, s0 + ms⟩,
      ⟨X.admits, X.cas, X.clock, X.frames, X.room, X.hears, X.method, X.code, (X.here.setHeapUsed s₂.heap s₂.slotsUsed).setVm hW'.alike, X.tail, State.WarmedH.trans X.warmed hW', X.limits, X.bytes, X.same.trans (hsame.setVm s.vm)⟩,
      ⟨g, mk, s₂, L, rfl, rfl, hqc, rfl, hL, rfl, rfl⟩, ?_⟩
    show Steps p.tables e below _ ((({ U with heap := s₂.heap, slotsUsed := s₂.slotsUsed } : State).setVm s₂.vm).setTop { g with pc := g.pc + len₂, stack := v.toList ++ g.stack })
    rw [← hs₂]
    exact hsteps
  · obtain ⟨e2, q2, q3, q4, q5, q6⟩ := id hsm
    have e3 : s₂ = ({ (U.calling g mk a).setFrames s₂.frames with heap := s₂.heap, slotsUsed := s₂.slotsUsed } : State).setVm s₂.vm := by
      have : s₂ = ({ s₂ with vm := (U.calling g mk a).vm } : State).setVm s₂.vm := rfl
      rw [e2] at this
      exact this
    have hf₂ : s₂.frames = .throwing q :: .java g :: U.frames.tail := hend
    have hW' : U.WarmedH s₂.vm := hW₂
    have hs₂ : s₂ = ((({ U with heap := s₂.heap, slotsUsed := s₂.slotsUsed } : State).setVm s₂.vm).setTop g).pushFrame (.throwing q) := by
      refine e3.trans ?_
      rw [hf₂, State.calling_eq h.top, State.setFrames_setFrames, State.pushFrame, State.frames_setTop _ hr', State.setTop_of_frames _ hr', State.setFrames_setFrames, hr]
      rfl
    have hsame : U.sameButNew ({ U with heap := s₂.heap, slotsUsed := s₂.slotsUsed } : State) L mc ms := by
      refine ⟨?_, q2, q3, q4, q5, q6⟩
      obtain ⟨t, ht, -⟩ := State.frames_cons hr
      show ({ U with heap := s₂.heap, slotsUsed := s₂.slotsUsed } : State) = { U.setFrames U.frames with heap := s₂.heap, slotsUsed := s₂.slotsUsed }
      rw [State.setFrames_self ht]
    subst hg
    refine Or.inr ⟨q, ⟨(({ U with heap := s₂.heap, slotsUsed := s₂.slotsUsed } : State).setVm s₂.vm), Ls ++ L, c0 + mc, s0 + ms⟩,
      ⟨X.admits, X.cas, X.clock, X.frames, X.room, X.hears, X.method, X.code, (X.here.setHeapUsed s₂.heap s₂.slotsUsed).setVm hW'.alike, X.tail, State.WarmedH.trans X.warmed hW', X.limits, X.bytes, X.same.trans (hsame.setVm s.vm)⟩,
      ⟨g, mk, s₂, L, E, ce, rfl, rfl, hx, hce, hcv, hcl, rfl, hL, rfl, rfl⟩, ?_⟩
    show Steps p.tables e below _ (((({ U with heap := s₂.heap, slotsUsed := s₂.slotsUsed } : State).setVm s₂.vm).setTop g).pushFrame (.throwing q))
    rw [← hs₂]
    exact hsteps
end Payer
section Calls
variable {p : Program} {l : Launch} {e : Env} {R : Room} {s : State} {m : MethodId} {args : Array Value} {below : List Frame} {meth : Method} {c : Code} {T : State} {locs : List Loc} {cells slots : Nat}
theorem vx_callV (X : Stand p l e R s m args below meth c T locs cells slots) (hexec : p.tables.exec = Jvm.exec) {own C : String} {index : Nat} {y : MethodName} {bytes : ByteArray} {maxL : Nat} {ret : Option FieldType}
    (hown : s.vm.findClass own = some m.cls) (hlink : (Cond.methodLink own index y).before args s = true) (hinst : (Cond.instanceMethod y).before args s = true) (hsel : (Cond.selects C y y).before args s = true)
    (hcode : (Cond.code y bytes maxL ret).before args s = true) (hy : y.cls ≠ "java/lang/invoke/MethodHandle" ∧ y.cls ≠ "java/lang/invoke/VarHandle")
    {W9 : Nat} {Pre : Pt → Array Value → Prop} {Post : Pt → Array Value → Option Value → Pt → Prop} {PostX : Pt → Array Value → Addr → Pt → Prop} (hK : vx_Back l R p e below s args y 3 W9 Pre Post PostX)
    {b : Addr} {cellB : Cell} (hcell : T.heap[b]? = some cellB) (hobj : cellB.vm.isStatics = false) (hcls : s.vm.findClass C = some cellB.cls)
    {g : JFrame} (hg : g.method = m) (hsize : g.locals.size = c.maxLocals) {argsL rest : List Value} (hlen : ∀ sig, parseMethodDescriptor y.desc = some sig → argsL.length = sig.parameters.length)
    (hstack : g.stack = argsL.reverse ++ .ref b :: rest) (hW : 2 * g.monitorRoom + (rest.map fun v => v.category).sum ≤ W9) (hdg : decode c.code g.pc = .ok (.invokevirtual index, 3))
    (hpre : ∀ vm₁, s.WarmedH vm₁ → Pre ⟨T.setVm vm₁, locs, cells, slots⟩ (Value.ref b :: argsL).toArray) :
    (∃ (v : Option Value) (vm₁ : Vm) (B : Pt), s.WarmedH vm₁ ∧ Stand p l e R s m args below meth c B.U B.locs B.cells B.slots ∧ Post ⟨T.setVm vm₁, locs, cells, slots⟩ (Value.ref b :: argsL).toArray v B ∧
      ∀ target, Steps p.tables e below (B.U.setTop { g with pc := g.pc + 3, stack := v.toList ++ rest }) target → Steps p.tables e below (T.setTop g) target) ∨
    (∃ (q : Addr) (vm₁ : Vm) (B : Pt), s.WarmedH vm₁ ∧ Stand p l e R s m args below meth c B.U B.locs B.cells B.slots ∧ PostX ⟨T.setVm vm₁, locs, cells, slots⟩ (Value.ref b :: argsL).toArray q B ∧
      Steps p.tables e below (T.setTop g) ((B.U.setTop { g with stack := rest }).pushFrame (.throwing q))) := by
  obtain ⟨mk, methM, hnamed, hmethM, hstM, habM⟩ := Cond.instanceMethod_spec hinst
  obtain ⟨methM', cM, hmethM', -, -, -, -, -, -, hsigM⟩ := Cond.code_spec hnamed hcode
  cases hmethM.symm.trans hmethM'
  obtain ⟨c2, r2, m2, q1, q2, q3, q4, kP, hkP, hkPi⟩ := Cond.selects_spec hsel
  cases hcls.symm.trans q1
  cases (State.methodFound?_of_named hnamed hy).symm.trans q2
  cases hnamed.symm.trans q3
  have hselP : selectMethod e.platform s.vm cellB.cls mk = .method mk := by rw [Launch.admits_selectMethod X.admits]; exact q4
  obtain ⟨vm₁, X₁, hstep₁⟩ := X.invokevirtual hexec hown hlink hnamed hmethM hstM hkP hkPi hy (a := b) (cell := cellB) hcell
    (fun z h => by rw [h] at hobj; cases hobj) hselP hmethM habM hkP hkPi (g := g) hg (argsL := argsL) (rest := rest) (hlen _ hsigM) hstack hdg
  rcases hK m meth c ⟨T.setVm vm₁, locs, cells, slots⟩ { g with stack := rest } (.invokevirtual index) mk (Value.ref b :: argsL).toArray X₁ hg hsize hdg hW (X₁.named hnamed) (hpre vm₁ X₁.warmed) with ⟨v, B, X', hpost, hsteps⟩ | ⟨q, B, X', hpost, hsteps⟩
  · exact Or.inl ⟨v, vm₁, B, X₁.warmed, X', hpost, fun target h => hstep₁ _ fun acts => by rw [doInvoke_state]; exact hsteps.trans h⟩
  · exact Or.inr ⟨q, vm₁, B, X₁.warmed, X', hpost, hstep₁ _ fun acts => by rw [doInvoke_state]; exact hsteps⟩
theorem vx_callS (X : Stand p l e R s m args below meth c T locs cells slots) (hexec : p.tables.exec = Jvm.exec) {own : String} {index : Nat} {y : MethodName} {bytes : ByteArray} {maxL : Nat} {ret : Option FieldType}
    (hown : s.vm.findClass own = some m.cls) (hlink : (Cond.methodLink own index y).before args s = true) (hstat : (Cond.static y).before args s = true) (hinit : (Cond.initialized y.cls).before args s = true)
    (hcode : (Cond.code y bytes maxL ret).before args s = true) (hy : y.cls ≠ "java/lang/invoke/MethodHandle" ∧ y.cls ≠ "java/lang/invoke/VarHandle")
    {W9 : Nat} {Pre : Pt → Array Value → Prop} {Post : Pt → Array Value → Option Value → Pt → Prop} {PostX : Pt → Array Value → Addr → Pt → Prop} (hK : vx_Back l R p e below s args y 3 W9 Pre Post PostX)
    {g : JFrame} (hg : g.method = m) (hsize : g.locals.size = c.maxLocals) {argsL rest : List Value} (hlen : ∀ sig, parseMethodDescriptor y.desc = some sig → argsL.length = sig.parameters.length)
    (hstack : g.stack = argsL.reverse ++ rest) (hW : 2 * g.monitorRoom + (rest.map fun v => v.category).sum ≤ W9) (hdg : decode c.code g.pc = .ok (.invokestatic index, 3))
    (hpre : ∀ vm₁, s.WarmedH vm₁ → Pre ⟨T.setVm vm₁, locs, cells, slots⟩ argsL.toArray) :
    (∃ (v : Option Value) (vm₁ : Vm) (B : Pt), s.WarmedH vm₁ ∧ Stand p l e R s m args below meth c B.U B.locs B.cells B.slots ∧ Post ⟨T.setVm vm₁, locs, cells, slots⟩ argsL.toArray v B ∧
      ∀ target, Steps p.tables e below (B.U.setTop { g with pc := g.pc + 3, stack := v.toList ++ rest }) target → Steps p.tables e below (T.setTop g) target) ∨
    (∃ (q : Addr) (vm₁ : Vm) (B : Pt), s.WarmedH vm₁ ∧ Stand p l e R s m args below meth c B.U B.locs B.cells B.slots ∧ PostX ⟨T.setVm vm₁, locs, cells, slots⟩ argsL.toArray q B ∧
      Steps p.tables e below (T.setTop g) ((B.U.setTop { g with stack := rest }).pushFrame (.throwing q))) := by
  obtain ⟨mk, hnamed⟩ := Cond.code_named hcode
  obtain ⟨methM, cM, hmethM, -, -, -, -, -, -, hsigM⟩ := Cond.code_spec hnamed hcode
  have hstatic : methM.isStatic = true := Cond.static_spec hnamed hmethM hstat
  obtain ⟨kP, hkP, -⟩ := className_of_methodNamed hnamed
  have hinitP : kP.init = .initialized := Cond.initialized_spec (findClass_of_methodNamed hnamed) hkP hinit
  obtain ⟨vm₁, X₁, hstep₁⟩ := X.invokestatic hexec hown hlink hnamed hmethM hstatic hkP hinitP hy (g := g) hg (argsL := argsL) (rest := rest) (hlen _ hsigM) hstack hdg
  rcases hK m meth c ⟨T.setVm vm₁, locs, cells, slots⟩ { g with stack := rest } (.invokestatic index) mk argsL.toArray X₁ hg hsize hdg hW (X₁.named hnamed) (hpre vm₁ X₁.warmed) with ⟨v, B, X', hpost, hsteps⟩ | ⟨q, B, X', hpost, hsteps⟩
  · exact Or.inl ⟨v, vm₁, B, X₁.warmed, X', hpost, fun target h => hstep₁ _ fun acts => by rw [doInvoke_state]; exact hsteps.trans h⟩
  · exact Or.inr ⟨q, vm₁, B, X₁.warmed, X', hpost, hstep₁ _ fun acts => by rw [doInvoke_state]; exact hsteps⟩
end Calls
theorem vx_cls {s : State} {T : State} {vm₁ : Vm} {E : String} {k : ClassId} (hW : s.WarmedH vm₁) (h : (T.setVm vm₁).vm.findClass E = some k) : s.vm.findClass E = some k := by
  have h1 : vm₁.findClass E = some k := h
  rw [hW.alike.findClass] at h1
  exact h1
/-- the method's frame g, with q thrown over it -/
def vx_W (p : Program) (l : Launch) (e : Env) (R : Room) (s : State) (m : MethodId) (args : Array Value) (below : List Frame) (meth : Method) (c : Code) (H : Heap) (locs : List Loc) (cells slots : Nat) (Q : State → Prop) (g : JFrame) (q : Addr) : Prop :=
  ∀ T : State, T.heap = H → Stand p l e R s m args below meth c T locs cells slots → ∃ t, Steps p.tables e below ((T.setTop g).pushFrame (.throwing q)) t ∧ Q t
def vx_Run (p : Program) (l : Launch) (e : Env) (R : Room) (s : State) (m : MethodId) (args : Array Value) (below : List Frame) (meth : Method) (c : Code) (H : Heap) (locs : List Loc) (cells slots mc ms : Nat) (g : JFrame) (rest : List Value) (Qa : State → Outcome → State → Prop) (XC : String → State → State → Prop) (free : Addr → Prop) : Prop :=
  ∀ T : State, T.heap = H → Stand p l e R s m args below meth c T locs cells slots →
    (∃ (v : Option Value) (st₀ t T' : State) (L : List Loc), st₀.heap = H ∧ Stand p l e R s m args below meth c T' (locs ++ L) (cells + mc) (slots + ms) ∧ (∀ q ∈ L, free q.base) ∧ T'.heap = t.heap ∧ T'.vm = t.vm ∧ Qa st₀ (.returned v) t ∧
      Goes p e below T g T' { g with pc := g.pc + 3, stack := v.toList ++ rest }) ∨
    (∃ (q : Addr) (st₀ t T' : State) (L : List Loc) (E : String) (ce : Cell), st₀.heap = H ∧ Stand p l e R s m args below meth c T' (locs ++ L) (cells + mc) (slots + ms) ∧ (∀ z ∈ L, free z.base) ∧ T'.heap = t.heap ∧ T'.vm = t.vm ∧ XC E st₀ t ∧ t.heap[q]? = some ce ∧ ce.vm = .none ∧ s.vm.findClass E = some ce.cls ∧
      Steps p.tables e below (T.setTop g) ((T'.setTop { g with stack := rest }).pushFrame (.throwing q)))
def vx_X {S : Type} (px : S → Prop) (B : String → S → State → Prop) (A : Nat → Prop) : String → State → State → Prop := fun E st t => ∃ u : S, px u ∧ B E u t ∧ va_F A st t
section Runs
variable {p : Program} {l : Launch} {e : Env} {R : Room} {s : State} {m : MethodId} {args : Array Value} {below : List Frame} {meth : Method} {c : Code} {H : Heap} {locs : List Loc} {cells slots : Nat}
variable {y : MethodName} {bytes cc : ByteArray} {maxL nL mc ms n index : Nat} {ret : Option FieldType} {ws : List Cond} {rm : Room} {Pc : Array Value → State → Prop} {Qc : Array Value → State → Outcome → State → Prop} {XC : String → State → State → Prop} {free : Addr → Prop} {Ts : List Cond} {own C : String} {b : Addr} {As rest : List Value} {g : JFrame}
theorem vx_callBack (cb : CallB R s args own index y bytes maxL ret ws rm mc ms n) (hM : vx_Met l y ws rm Pc Qc XC mc ms free) (hbl : FrameBlind Pc) : vx_Back l R p e below s args y 3 8 (PreOf R mc ms Pc) (PostOf Qc mc ms free) (vx_Post XC mc ms free) := by
  obtain ⟨hrc, hrs, hfr, hlo, hws, hcw, -, hini, -⟩ := cb
  exact vx_back (bytes := bytes) (maxL := maxL) (ret := ret) hM hbl hrc hrs hfr hlo hws hcw (fun a' U hW => word_at hW (Or.inl (by first | rfl | simp [Cond.onTables, Cond.keeps, Cond.steady])) hini)
theorem vx_runV (S : CallFix p m c cc nL s args Ts own) (hM : vx_Met l y ws rm Pc Qc XC mc ms free) (cw : CallW R s args own C index y bytes maxL ret ws rm mc ms n) (hp : PreV s H C b Pc As)
    (hg : g.method = m) (hn : As.length = n) (hsize : g.locals.size = nL) (hstack : g.stack = As.reverse ++ .ref b :: rest) (hW : 2 * g.monitorRoom + (rest.map fun v => v.category).sum ≤ 8) (hdg : decode cc g.pc = .ok (.invokevirtual index, 3)) (hf : cells + mc ≤ R.cells ∧ slots + ms ≤ R.slots) :
    vx_Run p l e R s m args below meth c H locs cells slots mc ms g rest (Qc (Value.ref b :: As).toArray) XC free := by
  have hK : vx_Back l R p e below s args y 3 8 (PreOf R mc ms Pc) (PostOf Qc mc ms free) (vx_Post XC mc ms free) := vx_callBack cw.1 hM hp.1
  obtain ⟨⟨-, -, -, -, -, -, hcode, -, hy, hlen, hl⟩, hin, hse⟩ := cw
  obtain ⟨hx, hb, hml, ho, -⟩ := S
  obtain ⟨-, ⟨cellB, hcB, hoB, hclB⟩, hPc⟩ := hp
  intro T hT X
  rcases vx_callV X hx (C := C) (bytes := bytes) (maxL := maxL) (ret := ret) ho hl hin hse hcode hy hK (by rw [hT]; exact hcB) hoB hclB hg (hsize.trans hml.symm) (argsL := As) (rest := rest) (fun sig h => hn.trans (hlen sig h)) hstack hW (by rw [hb]; exact hdg)
    (fun vm₁ hW₁ => ⟨hf.1, hf.2, hPc (T.setVm vm₁) hT hW₁⟩) with ⟨v, vm₁, ⟨U', l2, c2, s2⟩, hW₁, X', ⟨g', mk, t, L, e1, e2, hq, h1, hL, h2, h3⟩, st⟩ | ⟨q, vm₁, ⟨U', l2, c2, s2⟩, hW₁, X', ⟨g', mk, t, L, E, ce, e1, e2, hq, hce, hcv, hcl, h1, hL, h2, h3⟩, st⟩
  · dsimp only [Pt.U, Pt.locs, Pt.cells, Pt.slots] at X' e1 e2 h1 h2 h3 st
    subst h1; subst h2; subst h3
    exact Or.inl ⟨v, (T.setVm vm₁).calling g' mk (Value.ref b :: As).toArray, t, U', L, hT, X', hL, e1, e2, hq, st⟩
  · dsimp only [Pt.U, Pt.locs, Pt.cells, Pt.slots] at X' e1 e2 h1 h2 h3 st hcl
    subst h1; subst h2; subst h3
    exact Or.inr ⟨q, (T.setVm vm₁).calling g' mk (Value.ref b :: As).toArray, t, U', L, E, ce, hT, X', hL, e1, e2, hq, hce, hcv, vx_cls hW₁ hcl, st⟩
theorem vx_runS (S : CallFix p m c cc nL s args Ts own) (hM : vx_Met l y ws rm Pc Qc XC mc ms free) (cw : CallB R s args own index y bytes maxL ret ws rm mc ms n ∧ (Cond.static y).before args s = true) (hp : PreS s H Pc As)
    (hg : g.method = m) (hn : As.length = n) (hsize : g.locals.size = nL) (hstack : g.stack = As.reverse ++ rest) (hW : 2 * g.monitorRoom + (rest.map fun v => v.category).sum ≤ 8) (hdg : decode cc g.pc = .ok (.invokestatic index, 3)) (hf : cells + mc ≤ R.cells ∧ slots + ms ≤ R.slots) :
    vx_Run p l e R s m args below meth c H locs cells slots mc ms g rest (Qc As.toArray) XC free := by
  have hK : vx_Back l R p e below s args y 3 8 (PreOf R mc ms Pc) (PostOf Qc mc ms free) (vx_Post XC mc ms free) := vx_callBack cw.1 hM hp.1
  obtain ⟨⟨-, -, -, -, -, -, hcode, hini, hy, hlen, hl⟩, hstt⟩ := cw
  obtain ⟨hx, hb, hml, ho, -⟩ := S
  intro T hT X
  rcases vx_callS X hx (bytes := bytes) (maxL := maxL) (ret := ret) ho hl hstt hini hcode hy hK hg (hsize.trans hml.symm) (argsL := As) (rest := rest) (fun sig h => hn.trans (hlen sig h)) hstack hW (by rw [hb]; exact hdg)
    (fun vm₁ hW₁ => ⟨hf.1, hf.2, hp.2 (T.setVm vm₁) hT hW₁⟩) with ⟨v, vm₁, ⟨U', l2, c2, s2⟩, hW₁, X', ⟨g', mk, t, L, e1, e2, hq, h1, hL, h2, h3⟩, st⟩ | ⟨q, vm₁, ⟨U', l2, c2, s2⟩, hW₁, X', ⟨g', mk, t, L, E, ce, e1, e2, hq, hce, hcv, hcl, h1, hL, h2, h3⟩, st⟩
  · dsimp only [Pt.U, Pt.locs, Pt.cells, Pt.slots] at X' e1 e2 h1 h2 h3 st
    subst h1; subst h2; subst h3
    exact Or.inl ⟨v, (T.setVm vm₁).calling g' mk As.toArray, t, U', L, hT, X', hL, e1, e2, hq, st⟩
  · dsimp only [Pt.U, Pt.locs, Pt.cells, Pt.slots] at X' e1 e2 h1 h2 h3 st hcl
    subst h1; subst h2; subst h3
    exact Or.inr ⟨q, (T.setVm vm₁).calling g' mk As.toArray, t, U', L, E, ce, hT, X', hL, e1, e2, hq, hce, hcv, vx_cls hW₁ hcl, st⟩
end Runs
section Rows
variable {p : Program} {l : Launch} {e : Env} {R : Room} {s : State} {m : MethodId} {args : Array Value} {below : List Frame} {meth : Method} {c : Code} {H : Heap} {locs : List Loc} {cells slots : Nat} {Q : State → Prop}
variable {mc ms : Nat} {free : Addr → Prop} {A0 A1 : Nat → Prop} {H0 : Heap} {a : Array Value} {pc : Nat} {ls : Array Slot} {st0 rest : List Value}
theorem vx_keep {st₀ t T' : State} {L : List Loc} (h0 : st₀.heap = H) (e1 : T'.heap = t.heap) (hS : va_S A0 H0 H locs) (hA : ∀ q, q < H.size → A1 q → A0 q) (hf : ∀ q, free q → A0 q) (hL : ∀ q ∈ L, free q.base) (hF : va_F A1 st₀ t) :
    H.size ≤ T'.heap.size ∧ (∀ q : Nat, q < H.size → ¬ A1 q → T'.heap[q]? = H[q]?) ∧ va_S A0 H0 T'.heap (locs ++ L) := by
  obtain ⟨hz, hk⟩ := hF
  rw [h0] at hz hk
  exact ⟨by rw [e1]; exact hz, fun q h1 h2 => by rw [e1]; exact hk q h1 h2,
    ⟨Nat.le_trans hS.1 (by rw [e1]; exact hz), fun q h1 h2 => by rw [e1, hk q (Nat.lt_of_lt_of_le h1 hS.1) (fun z => h2 (hA q (Nat.lt_of_lt_of_le h1 hS.1) z))]; exact hS.2.1 q h1 h2, fun q hq => by
      rcases List.mem_append.mp hq with h | h
      · exact hS.2.2 q h
      · exact hf _ (hL q h)⟩⟩
theorem vx_calli {S SX : Type} {post : Int32 → S → Prop} {px : SX → Prop} {B : S → State → Prop} {BX : String → SX → State → Prop} {AX : Nat → Prop} (hr : vx_Run p l e R s m args below meth c H locs cells slots mc ms (F0 m pc ls st0) rest (va_Qi post B A1 a) (vx_X px BX AX) free) (hS : va_S A0 H0 H locs) (hA : ∀ q, q < H.size → A1 q → A0 q) (hf : ∀ q, free q → A0 q) (hAX : ∀ q, q < H.size → AX q → A0 q)
    (kx : ∀ (E : String) (ce : Cell) (q9 : Addr) (u : SX) (t : State) (H1 : Heap) (locs1 : List Loc), t.heap = H1 → s.vm.Alike t.vm → px u → BX E u t → H.size ≤ H1.size → (∀ q : Nat, q < H.size → ¬ AX q → H1[q]? = H[q]?) → va_S A0 H0 H1 locs1 → H1[q9]? = some ce → ce.vm = .none → s.vm.findClass E = some ce.cls → vx_W p l e R s m args below meth c H1 locs1 (cells + mc) (slots + ms) Q (F0 m pc ls rest) q9)
    (kk : ∀ (r : Int32) (u : S) (t : State) (H1 : Heap) (locs1 : List Loc), t.heap = H1 → s.vm.Alike t.vm → post r u → B u t → H.size ≤ H1.size → (∀ q : Nat, q < H.size → ¬ A1 q → H1[q]? = H[q]?) → va_S A0 H0 H1 locs1 → W p l e R s m args below meth c H1 locs1 (cells + mc) (slots + ms) Q (F0 m (pc + 3) ls (.int r :: rest))) : W p l e R s m args below meth c H locs cells slots Q (F0 m pc ls st0) := by
  intro T hT X
  rcases hr T hT X with ⟨v, st₀, t, T', L, h0, X', hL, e1, e2, ⟨⟨r, u, hv, hp, hb⟩, hF⟩, st⟩ | ⟨q, st₀, t, T', L, E, ce, h0, X', hL, e1, e2, ⟨u, hp, hb, hF⟩, hce, hcv, hcl, st⟩
  · cases hv
    obtain ⟨k1, k2, k3⟩ := vx_keep h0 e1 hS hA hf hL hF
    obtain ⟨t2, a1, b1⟩ := kk r u t T'.heap (locs ++ L) e1.symm (by rw [← e2]; exact X'.warmed.alike) hp hb k1 k2 k3 T' rfl X'
    exact ⟨t2, st t2 a1, b1⟩
  · obtain ⟨k1, k2, k3⟩ := vx_keep h0 e1 hS hAX hf hL hF
    obtain ⟨t2, a1, b1⟩ := kx E ce q u t T'.heap (locs ++ L) e1.symm (by rw [← e2]; exact X'.warmed.alike) hp hb k1 k2 k3 (by rw [e1]; exact hce) hcv hcl T' rfl X'
    exact ⟨t2, st.trans a1, b1⟩
theorem vx_calll {S SX : Type} {post : Int64 → S → Prop} {px : SX → Prop} {B : S → State → Prop} {BX : String → SX → State → Prop} {AX : Nat → Prop} (hr : vx_Run p l e R s m args below meth c H locs cells slots mc ms (F0 m pc ls st0) rest (va_Ql post B A1 a) (vx_X px BX AX) free) (hS : va_S A0 H0 H locs) (hA : ∀ q, q < H.size → A1 q → A0 q) (hf : ∀ q, free q → A0 q) (hAX : ∀ q, q < H.size → AX q → A0 q)
    (kx : ∀ (E : String) (ce : Cell) (q9 : Addr) (u : SX) (t : State) (H1 : Heap) (locs1 : List Loc), t.heap = H1 → s.vm.Alike t.vm → px u → BX E u t → H.size ≤ H1.size → (∀ q : Nat, q < H.size → ¬ AX q → H1[q]? = H[q]?) → va_S A0 H0 H1 locs1 → H1[q9]? = some ce → ce.vm = .none → s.vm.findClass E = some ce.cls → vx_W p l e R s m args below meth c H1 locs1 (cells + mc) (slots + ms) Q (F0 m pc ls rest) q9)
    (kk : ∀ (r : Int64) (u : S) (t : State) (H1 : Heap) (locs1 : List Loc), t.heap = H1 → s.vm.Alike t.vm → post r u → B u t → H.size ≤ H1.size → (∀ q : Nat, q < H.size → ¬ A1 q → H1[q]? = H[q]?) → va_S A0 H0 H1 locs1 → W p l e R s m args below meth c H1 locs1 (cells + mc) (slots + ms) Q (F0 m (pc + 3) ls (.long r :: rest))) : W p l e R s m args below meth c H locs cells slots Q (F0 m pc ls st0) := by
  intro T hT X
  rcases hr T hT X with ⟨v, st₀, t, T', L, h0, X', hL, e1, e2, ⟨⟨r, u, hv, hp, hb⟩, hF⟩, st⟩ | ⟨q, st₀, t, T', L, E, ce, h0, X', hL, e1, e2, ⟨u, hp, hb, hF⟩, hce, hcv, hcl, st⟩
  · cases hv
    obtain ⟨k1, k2, k3⟩ := vx_keep h0 e1 hS hA hf hL hF
    obtain ⟨t2, a1, b1⟩ := kk r u t T'.heap (locs ++ L) e1.symm (by rw [← e2]; exact X'.warmed.alike) hp hb k1 k2 k3 T' rfl X'
    exact ⟨t2, st t2 a1, b1⟩
  · obtain ⟨k1, k2, k3⟩ := vx_keep h0 e1 hS hAX hf hL hF
    obtain ⟨t2, a1, b1⟩ := kx E ce q u t T'.heap (locs ++ L) e1.symm (by rw [← e2]; exact X'.warmed.alike) hp hb k1 k2 k3 (by rw [e1]; exact hce) hcv hcl T' rfl X'
    exact ⟨t2, st.trans a1, b1⟩
theorem vx_callf {S SX : Type} {post : UInt32 → S → Prop} {px : SX → Prop} {B : S → State → Prop} {BX : String → SX → State → Prop} {AX : Nat → Prop} (hr : vx_Run p l e R s m args below meth c H locs cells slots mc ms (F0 m pc ls st0) rest (va_Qf post B A1 a) (vx_X px BX AX) free) (hS : va_S A0 H0 H locs) (hA : ∀ q, q < H.size → A1 q → A0 q) (hf : ∀ q, free q → A0 q) (hAX : ∀ q, q < H.size → AX q → A0 q)
    (kx : ∀ (E : String) (ce : Cell) (q9 : Addr) (u : SX) (t : State) (H1 : Heap) (locs1 : List Loc), t.heap = H1 → s.vm.Alike t.vm → px u → BX E u t → H.size ≤ H1.size → (∀ q : Nat, q < H.size → ¬ AX q → H1[q]? = H[q]?) → va_S A0 H0 H1 locs1 → H1[q9]? = some ce → ce.vm = .none → s.vm.findClass E = some ce.cls → vx_W p l e R s m args below meth c H1 locs1 (cells + mc) (slots + ms) Q (F0 m pc ls rest) q9)
    (kk : ∀ (r : UInt32) (u : S) (t : State) (H1 : Heap) (locs1 : List Loc), t.heap = H1 → s.vm.Alike t.vm → post r u → B u t → H.size ≤ H1.size → (∀ q : Nat, q < H.size → ¬ A1 q → H1[q]? = H[q]?) → va_S A0 H0 H1 locs1 → W p l e R s m args below meth c H1 locs1 (cells + mc) (slots + ms) Q (F0 m (pc + 3) ls (.float r :: rest))) : W p l e R s m args below meth c H locs cells slots Q (F0 m pc ls st0) := by
  intro T hT X
  rcases hr T hT X with ⟨v, st₀, t, T', L, h0, X', hL, e1, e2, ⟨⟨r, u, hv, hp, hb⟩, hF⟩, st⟩ | ⟨q, st₀, t, T', L, E, ce, h0, X', hL, e1, e2, ⟨u, hp, hb, hF⟩, hce, hcv, hcl, st⟩
  · cases hv
    obtain ⟨k1, k2, k3⟩ := vx_keep h0 e1 hS hA hf hL hF
    obtain ⟨t2, a1, b1⟩ := kk r u t T'.heap (locs ++ L) e1.symm (by rw [← e2]; exact X'.warmed.alike) hp hb k1 k2 k3 T' rfl X'
    exact ⟨t2, st t2 a1, b1⟩
  · obtain ⟨k1, k2, k3⟩ := vx_keep h0 e1 hS hAX hf hL hF
    obtain ⟨t2, a1, b1⟩ := kx E ce q u t T'.heap (locs ++ L) e1.symm (by rw [← e2]; exact X'.warmed.alike) hp hb k1 k2 k3 (by rw [e1]; exact hce) hcv hcl T' rfl X'
    exact ⟨t2, st.trans a1, b1⟩
theorem vx_calld {S SX : Type} {post : UInt64 → S → Prop} {px : SX → Prop} {B : S → State → Prop} {BX : String → SX → State → Prop} {AX : Nat → Prop} (hr : vx_Run p l e R s m args below meth c H locs cells slots mc ms (F0 m pc ls st0) rest (va_Qd post B A1 a) (vx_X px BX AX) free) (hS : va_S A0 H0 H locs) (hA : ∀ q, q < H.size → A1 q → A0 q) (hf : ∀ q, free q → A0 q) (hAX : ∀ q, q < H.size → AX q → A0 q)
    (kx : ∀ (E : String) (ce : Cell) (q9 : Addr) (u : SX) (t : State) (H1 : Heap) (locs1 : List Loc), t.heap = H1 → s.vm.Alike t.vm → px u → BX E u t → H.size ≤ H1.size → (∀ q : Nat, q < H.size → ¬ AX q → H1[q]? = H[q]?) → va_S A0 H0 H1 locs1 → H1[q9]? = some ce → ce.vm = .none → s.vm.findClass E = some ce.cls → vx_W p l e R s m args below meth c H1 locs1 (cells + mc) (slots + ms) Q (F0 m pc ls rest) q9)
    (kk : ∀ (r : UInt64) (u : S) (t : State) (H1 : Heap) (locs1 : List Loc), t.heap = H1 → s.vm.Alike t.vm → post r u → B u t → H.size ≤ H1.size → (∀ q : Nat, q < H.size → ¬ A1 q → H1[q]? = H[q]?) → va_S A0 H0 H1 locs1 → W p l e R s m args below meth c H1 locs1 (cells + mc) (slots + ms) Q (F0 m (pc + 3) ls (.double r :: rest))) : W p l e R s m args below meth c H locs cells slots Q (F0 m pc ls st0) := by
  intro T hT X
  rcases hr T hT X with ⟨v, st₀, t, T', L, h0, X', hL, e1, e2, ⟨⟨r, u, hv, hp, hb⟩, hF⟩, st⟩ | ⟨q, st₀, t, T', L, E, ce, h0, X', hL, e1, e2, ⟨u, hp, hb, hF⟩, hce, hcv, hcl, st⟩
  · cases hv
    obtain ⟨k1, k2, k3⟩ := vx_keep h0 e1 hS hA hf hL hF
    obtain ⟨t2, a1, b1⟩ := kk r u t T'.heap (locs ++ L) e1.symm (by rw [← e2]; exact X'.warmed.alike) hp hb k1 k2 k3 T' rfl X'
    exact ⟨t2, st t2 a1, b1⟩
  · obtain ⟨k1, k2, k3⟩ := vx_keep h0 e1 hS hAX hf hL hF
    obtain ⟨t2, a1, b1⟩ := kx E ce q u t T'.heap (locs ++ L) e1.symm (by rw [← e2]; exact X'.warmed.alike) hp hb k1 k2 k3 (by rw [e1]; exact hce) hcv hcl T' rfl X'
    exact ⟨t2, st.trans a1, b1⟩
theorem vx_callv {S SX : Type} {post : S → Prop} {px : SX → Prop} {B : S → State → Prop} {BX : String → SX → State → Prop} {AX : Nat → Prop} (hr : vx_Run p l e R s m args below meth c H locs cells slots mc ms (F0 m pc ls st0) rest (va_Qv post B A1 a) (vx_X px BX AX) free) (hS : va_S A0 H0 H locs) (hA : ∀ q, q < H.size → A1 q → A0 q) (hf : ∀ q, free q → A0 q) (hAX : ∀ q, q < H.size → AX q → A0 q)
    (kx : ∀ (E : String) (ce : Cell) (q9 : Addr) (u : SX) (t : State) (H1 : Heap) (locs1 : List Loc), t.heap = H1 → s.vm.Alike t.vm → px u → BX E u t → H.size ≤ H1.size → (∀ q : Nat, q < H.size → ¬ AX q → H1[q]? = H[q]?) → va_S A0 H0 H1 locs1 → H1[q9]? = some ce → ce.vm = .none → s.vm.findClass E = some ce.cls → vx_W p l e R s m args below meth c H1 locs1 (cells + mc) (slots + ms) Q (F0 m pc ls rest) q9)
    (kk : ∀ (u : S) (t : State) (H1 : Heap) (locs1 : List Loc), t.heap = H1 → s.vm.Alike t.vm → post u → B u t → H.size ≤ H1.size → (∀ q : Nat, q < H.size → ¬ A1 q → H1[q]? = H[q]?) → va_S A0 H0 H1 locs1 → W p l e R s m args below meth c H1 locs1 (cells + mc) (slots + ms) Q (F0 m (pc + 3) ls (rest))) : W p l e R s m args below meth c H locs cells slots Q (F0 m pc ls st0) := by
  intro T hT X
  rcases hr T hT X with ⟨v, st₀, t, T', L, h0, X', hL, e1, e2, ⟨⟨u, hv, hp, hb⟩, hF⟩, st⟩ | ⟨q, st₀, t, T', L, E, ce, h0, X', hL, e1, e2, ⟨u, hp, hb, hF⟩, hce, hcv, hcl, st⟩
  · cases hv
    obtain ⟨k1, k2, k3⟩ := vx_keep h0 e1 hS hA hf hL hF
    obtain ⟨t2, a1, b1⟩ := kk u t T'.heap (locs ++ L) e1.symm (by rw [← e2]; exact X'.warmed.alike) hp hb k1 k2 k3 T' rfl X'
    exact ⟨t2, st t2 a1, b1⟩
  · obtain ⟨k1, k2, k3⟩ := vx_keep h0 e1 hS hAX hf hL hF
    obtain ⟨t2, a1, b1⟩ := kx E ce q u t T'.heap (locs ++ L) e1.symm (by rw [← e2]; exact X'.warmed.alike) hp hb k1 k2 k3 (by rw [e1]; exact hce) hcv hcl T' rfl X'
    exact ⟨t2, st.trans a1, b1⟩
/-- caught by the row x of this method's table; the rows ahead don't take it -/
theorem vx_catch {own name : String} {E : String} {ce : Cell} {q : Addr} (hown : s.vm.findClass own = some m.cls) (pre : List ExceptionTableEntry) (x : ExceptionTableEntry) (suf : List ExceptionTableEntry) (hsplit : c.exceptionTable.toList = pre ++ x :: suf)
    (hpass : ∀ z ∈ pre, covers z pc = false ∨ (z.catchType ≠ 0 ∧ ∃ nm : String, (Cond.classLink own z.catchType nm).before args s = true ∧ va_Nc E nm s)) (hx : covers x pc = true) (h0 : x.catchType ≠ 0)
    (hlink : (Cond.classLink own x.catchType name).before args s = true) (hcast : (Cond.castable E name).before args s = true) (hcell : H[q]? = some ce) (hv : ce.vm = .none) (hcl : s.vm.findClass E = some ce.cls)
    (kk : W p l e R s m args below meth c H locs cells slots Q (F0 m x.handlerPc ls [.ref q])) : vx_W p l e R s m args below meth c H locs cells slots Q (F0 m pc ls rest) q := by
  intro T hT X
  have hpl : e.platform.magicAccessors = ({} : Platform).magicAccessors := by rw [X.admits.platform]
  obtain ⟨c3, c4, hc3, hc4, hasg⟩ := Cond.castable_spec hcast
  cases Option.some.inj (hc3.symm.trans hcl)
  obtain ⟨c5, hc5, hcl5⟩ := Cond.classLink_spec hown hlink e.platform hpl
  cases Option.some.inj (hc4.symm.trans hc5)
  obtain ⟨vm', X', st⟩ := X.thenCaughtThrough q (g := F0 m pc ls rest) rfl (Steps.refl _) (by rw [hT]; exact hcell) (by rw [hv]; rfl) (by obtain ⟨k9, h9, -⟩ := Vm.findClass_spec hcl; exact ⟨k9, h9⟩) pre x suf hsplit
    (fun z hz => by
      rcases hpass z hz with h | ⟨hz0, nm, hl1, hn1⟩
      · exact Or.inl h
      · obtain ⟨c6, hc6, hcl6⟩ := Cond.classLink_spec hown hl1 e.platform hpl
        obtain ⟨a8, b8, h1, h2, h3⟩ := hn1
        cases Option.some.inj (h1.symm.trans hcl)
        cases Option.some.inj (h2.symm.trans hc6)
        exact Or.inr ⟨hz0, _, hcl6, h3⟩) hx (Or.inr ⟨h0, c4, hcl5, hasg⟩)
  obtain ⟨t, a1, b1⟩ := kk (T.setVm vm') hT X'
  exact ⟨t, st.trans a1, b1⟩
end Rows
section Ends
variable {p : Program} {l : Launch} {e : Env} {R : Room} {s : State} {m : MethodId} {args : Array Value} {below : List Frame} {meth : Method} {c : Code} {H : Heap} {locs : List Loc} {cells slots : Nat} {Q : State → Prop}
variable {mc ms : Nat} {free : Addr → Prop} {A0 A1 : Nat → Prop} {H0 : Heap} {a : Array Value} {ls : Array Slot} {st0 rest : List Value}
variable {Qc : Array Value → State → Outcome → State → Prop} {XC : String → State → State → Prop}
/-- what a body that may throw owes at its end -/
def vx_MQ (below : List Frame) (Qc : Array Value → State → Outcome → State → Prop) (XC : String → State → State → Prop) (a : Array Value) (s : State) (mc ms : Nat) (free : Addr → Prop) : State → Prop := fun t =>
  ∃ o, t.status = .running ∧ Ended t below o ∧ vx_Q Qc XC mc ms free a s o t
theorem vx_ret {g : JFrame} {mc ms : Nat} (k : W p l e R s m args below meth c H locs cells slots (MQ below Qc args s mc ms free) g) : W p l e R s m args below meth c H locs cells slots (vx_MQ below Qc XC args s mc ms free) g := by
  intro T hT X
  obtain ⟨t, a1, o, b1, b2, b3, b4⟩ := k T hT X
  exact ⟨t, a1, o, b1, b2, Or.inl ⟨b3, b4⟩⟩
/-- not caught here: it goes on to the caller -/
theorem vx_widen {g : JFrame} {q : Addr} {k n : Nat} (h1 : cells ≤ k) (h2 : slots ≤ n) (kk : vx_W p l e R s m args below meth c H locs k n Q g q) : vx_W p l e R s m args below meth c H locs cells slots Q g q := fun T hT X => kk T hT (stand_widen X h1 h2)
theorem vx_out {pc : Nat} {E : String} {ce : Cell} {q : Addr} {mc ms : Nat} (hout : ∀ x ∈ c.exceptionTable.toList, covers x pc = false) (hlocks : meth.locks = false) (hcell : H[q]? = some ce) (hv : ce.vm = .none) (hcl : s.vm.findClass E = some ce.cls)
    (hx : ∀ t : State, t.heap = H → s.vm.Alike t.vm → XC E s t) (hf : ∀ z ∈ locs, free z.base) (hc : cells ≤ mc) (hs : slots ≤ ms) :
    vx_W p l e R s m args below meth c H locs cells slots (vx_MQ below Qc XC args s mc ms free) (F0 m pc ls rest) q := by
  intro T hT X
  obtain ⟨st1, hrun, hend, hW, hsm⟩ := X.leaveThrown q (g := F0 m pc ls rest) rfl rfl rfl hout hlocks
  have hcell9 : (T.setFrames (.throwing q :: below)).heap[q]? = some ce := by
    show T.heap[q]? = some ce
    rw [hT]; exact hcell
  exact ⟨_, st1, .threw q, hrun, hend, Or.inr ⟨q, rfl, E, ce, locs, hx _ hT hW.alike, hcell9, hv, hcl, hW, hsm.mono hc hs, hf⟩⟩
theorem vx_frame {U : State} {k n : Nat} (h : s.sameButNew ({ U with vm := s.vm } : State) locs k n) : s.heap.size ≤ U.heap.size ∧ ∀ q : Nat, q < s.heap.size → (∀ z ∈ locs, z.base ≠ q) → U.heap[q]? = s.heap[q]? := by
  obtain ⟨-, h2, -, -, -, h6⟩ := h
  refine ⟨h2, fun q hq hz => ?_⟩
  obtain ⟨c9, e1, e2, e3, e4⟩ := h6 q _ (Array.getElem?_eq_getElem hq)
  have hs : c9.slots = (s.heap[q]).slots := Array.ext_getElem? fun i => e4 i fun hm => hz _ hm rfl
  have h9 : c9 = s.heap[q] := by
    rw [hs] at e2
    exact e2
  have e5 : U.heap[q]? = some c9 := e1
  rw [e5, h9, Array.getElem?_eq_getElem hq]
/-- the words of a throw but the four that speak of the heap -/
def vx_no (w : Cond) : Bool := decide (w ≠ .isRef (.static Bundle.tN "UNASSIGNED_STACK" Bundle.steD)) && decide (w ≠ .isRef (.static Bundle.tN "SUPPRESSED_SENTINEL" Bundle.listD)) && decide (w ≠ .laysStatic Bundle.tN "UNASSIGNED_STACK" Bundle.steD) && decide (w ≠ .laysStatic Bundle.tN "SUPPRESSED_SENTINEL" Bundle.listD)
def vx_at0 (own : String) (ic : Nat) (X : String) (names : List String) : List Cond := (Bundle.ownAtoms0 own ic X names).filter vx_no
def vx_atS (own : String) (ic : Nat) (X : String) (names : List String) : List Cond := (Bundle.ownAtoms own ic X names).filter vx_no
/-- a word that the tables alone decide, or a good one -/
def vx_ot (w : Cond) : Bool := w.onTables || goodWord w
theorem vx_ot_at {args a' : Array Value} {s U : State} {w : Cond} (hW : s.WarmedH U.vm) (hvm : s.vm = U.vm) (hg : vx_ot w = true) (h : w.before args s = true) : w.before a' U = true := by
  simp only [vx_ot, Bool.or_eq_true] at hg
  rcases hg with hg | hg
  · exact va_tabs hg hvm h
  · exact word_at hW (good_of_word hg) h
/-- a list's words: the good ones out of the method's own list, the others by premises of their own -/
theorem vx_hat {args : Array Value} {s : State} {L B : List Cond} (h1 : ∀ w ∈ L.filter goodWord, w.before args s = true) (h2 : ∀ w ∈ L.filter (fun w => !goodWord w), w ∈ B) (h3 : ∀ w ∈ B, w.before args s = true) : ∀ w ∈ L, w.before args s = true := by
  intro w hw
  by_cases g : goodWord w = true
  · exact h1 w (List.mem_filter.mpr ⟨hw, g⟩)
  · refine h3 w (h2 w (List.mem_filter.mpr ⟨hw, ?_⟩))
    show (!goodWord w) = true
    cases hgw : goodWord w
    · rfl
    · exact absurd hgw g
theorem vx_c {args : Array Value} {s : State} {w : Cond} {B : List Cond} (h : w.before args s = true) (t : ∀ w ∈ B, w.before args s = true) : ∀ w' ∈ w :: B, w'.before args s = true := fun w' h' => (List.mem_cons.mp h').elim (fun e => by rw [e]; exact h) (t w')
theorem vx_n {args : Array Value} {s : State} : ∀ w ∈ ([] : List Cond), w.before args s = true := fun _ h => nomatch h
theorem vx_own {args : Array Value} {s : State} {L : List Cond} (h1 : ∀ w ∈ L.filter vx_no, w.before args s = true)
    (hU : (Cond.isRef (.static Bundle.tN "UNASSIGNED_STACK" Bundle.steD)).before args s = true) (hN : (Cond.isRef (.static Bundle.tN "SUPPRESSED_SENTINEL" Bundle.listD)).before args s = true)
    (lU : (Cond.laysStatic Bundle.tN "UNASSIGNED_STACK" Bundle.steD).before args s = true) (lN : (Cond.laysStatic Bundle.tN "SUPPRESSED_SENTINEL" Bundle.listD).before args s = true) : ∀ w ∈ L, w.before args s = true := by
  intro w hw
  by_cases e1 : w = .isRef (.static Bundle.tN "UNASSIGNED_STACK" Bundle.steD)
  · rw [e1]; exact hU
  · by_cases e2 : w = .isRef (.static Bundle.tN "SUPPRESSED_SENTINEL" Bundle.listD)
    · rw [e2]; exact hN
    · by_cases e3 : w = .laysStatic Bundle.tN "UNASSIGNED_STACK" Bundle.steD
      · rw [e3]; exact lU
      · by_cases e4 : w = .laysStatic Bundle.tN "SUPPRESSED_SENTINEL" Bundle.listD
        · rw [e4]; exact lN
        · exact h1 w (List.mem_filter.mpr ⟨hw, by unfold vx_no; rw [decide_eq_true e1, decide_eq_true e2, decide_eq_true e3, decide_eq_true e4]; rfl⟩)
/-- where a static field lies, its class's statics cell in H -/
def vx_L (C n d : String) (A : Nat → Prop) (U : State) (H : Heap) : Prop := ∃ (c : ClassId) (k : Class) (i : Nat) (f : Field) (a : Nat) (cell : Cell), U.vm.findClass C = some c ∧ U.fieldFound? C n d = some (c, k, i, f) ∧ f.isStatic = true ∧ k.statics = some a ∧ H[a]? = some cell ∧ cell.vm.isStatics = true ∧ cell.cls = c ∧ f.slot < cell.slots.size ∧ k.staticTypes[f.slot]? = some f.type ∧ ¬ A a
theorem vx_L.moved {C n d : String} {A : Nat → Prop} {u U : State} {H : Heap} (hvm : u.vm.Alike U.vm) (h : vx_L C n d A u H) : vx_L C n d A U H := by
  obtain ⟨c, k, i, f, a, cell, h1, h2, h3, h4, h5, h6, h7, h8, h9, h10⟩ := h
  obtain ⟨k', hi', he⟩ := State.fieldFound?_setVm hvm h2
  exact ⟨c, k', i, f, a, cell, by rw [hvm.findClass]; exact h1, hi', h3, by rw [he]; exact h4, h5, h6, h7, h8, by rw [he]; exact h9, h10⟩
theorem vx_L.kept {C n d : String} {A : Nat → Prop} {U : State} {H H1 : Heap} (h : vx_L C n d A U H) (hq : ∀ a : Nat, a < H.size → ¬ A a → H1[a]? = H[a]?) : vx_L C n d A U H1 := by
  obtain ⟨c, k, i, f, a, cell, h1, h2, h3, h4, h5, h6, h7, h8, h9, h10⟩ := h
  exact ⟨c, k, i, f, a, cell, h1, h2, h3, h4, by rw [hq a (Array.getElem?_eq_some_iff.mp h5).1 h10]; exact h5, h6, h7, h8, h9, h10⟩
theorem vx_L.narrow {C n d : String} {A B : Nat → Prop} {U : State} {H : Heap} (h : vx_L C n d A U H) (hAB : ∀ q, B q → A q) : vx_L C n d B U H := by
  obtain ⟨c, k, i, f, a, cell, h1, h2, h3, h4, h5, h6, h7, h8, h9, h10⟩ := h
  exact ⟨c, k, i, f, a, cell, h1, h2, h3, h4, h5, h6, h7, h8, h9, fun z => h10 (hAB _ z)⟩
theorem vx_L.word {C n d : String} {A : Nat → Prop} {s : State} {args : Array Value} (h : vx_L C n d A s s.heap) : (Cond.laysStatic C n d).before args s = true := by
  obtain ⟨c, k, i, f, a, cell, h1, h2, h3, h4, h5, h6, h7, h8, h9, -⟩ := h
  show (Cond.laysStatic C n d).holds args s none s [] = true
  exact Cond.laysStatic_of h1 h2 h3 h4 h5 h6 h7 h8 h9
/-- .. and what it holds: null or some reference -/
def vx_Zq (C n d : String) (A : Nat → Prop) (U : State) (H : Heap) : Prop := va_Zq C n d A U H ∧ vx_L C n d A U H
theorem vx_Zq.moved {C n d : String} {A : Nat → Prop} {u U : State} {H : Heap} (hvm : u.vm.Alike U.vm) (h : vx_Zq C n d A u H) : vx_Zq C n d A U H := ⟨va_Zq.moved hvm h.1, vx_L.moved hvm h.2⟩
theorem vx_Zq.kept {C n d : String} {A : Nat → Prop} {U : State} {H H1 : Heap} (h : vx_Zq C n d A U H) (hq : ∀ a : Nat, a < H.size → ¬ A a → H1[a]? = H[a]?) : vx_Zq C n d A U H1 := ⟨va_Zq.kept h.1 hq, vx_L.kept h.2 hq⟩
theorem vx_Zq.narrow {C n d : String} {A B : Nat → Prop} {U : State} {H : Heap} (h : vx_Zq C n d A U H) (hAB : ∀ q, B q → A q) : vx_Zq C n d B U H := ⟨va_Zq.narrow h.1 hAB, vx_L.narrow h.2 hAB⟩
theorem vx_Zqof {args : Array Value} {s : State} {C n d : String} {A : Nat → Prop} (hl : (Cond.laysStatic C n d).before args s = true) (hini : (Cond.initialized C).before args s = true) (h : (Cond.isRef (.static C n d)).before args s = true) (hA : ∀ a : Nat, a < s.heap.size → ¬ A a) : vx_Zq C n d A s s.heap := by
  refine ⟨va_Zqof hl hini h hA, ?_⟩
  obtain ⟨c, k, i, f, a, cell, h1, h2, h3, h4, h5, h6, h7, h8, h9⟩ := Cond.laysStatic_spec hl
  exact ⟨c, k, i, f, a, cell, h1, h2, h3, h4, h5, h6, h7, h8, h9, hA a (Array.getElem?_eq_some_iff.mp h5).1⟩
theorem vx_isRef {C n d : String} {v : Value} {A : Nat → Prop} {s : State} {args : Array Value} (h : va_Z C n d v A s s.heap) (hv : v.isRef = true) : (Cond.isRef (.static C n d)).before args s = true := by
  obtain ⟨cf, kf, fi, f, a, cell, h1, h2, h3, h4, h5, h6, h7, -⟩ := h
  have he : (Term.static C n d).eval args s none [] s = some v := by
    simp [Term.eval, State.fieldNamed?, h1, h2, h4, h5, h6, h7]
  simp only [Cond.before, Cond.holds, Cond.value, he]
  cases v <;> simp_all [Value.isRef]
theorem vx_isRefq {C n d : String} {A : Nat → Prop} {s : State} {args : Array Value} (h : va_Zq C n d A s s.heap) : (Cond.isRef (.static C n d)).before args s = true := by
  rcases h with h | ⟨t, h⟩
  · exact vx_isRef h rfl
  · exact vx_isRef h rfl
/-- the same frame, seen from here: as if the method were called anew in this heap -/
theorem vx_rebase {T : State} (X : Stand p l e R s m args below meth c T locs cells slots) {R' : Room} (hf : R'.frames ≤ R.frames) (hl : R'.locals ≤ R.locals) (hc : cells + R'.cells ≤ R.cells) (hs : slots + R'.slots ≤ R.slots) :
    Stand p l e R' ((T.setVm s.vm).setFrames (.invoking m args :: below)) m args below meth c T [] 0 0 := by
  have htop : (T.setVm s.vm).topJava?.isSome := X.here.top
  have hF : ((T.setVm s.vm).setFrames (.invoking m args :: below)).frames = .invoking m args :: below := State.frames_setFrames _ (State.cur_lt_of_top htop)
  obtain ⟨g₀, hg0⟩ := Option.isSome_iff_exists.mp htop
  obtain ⟨r, hr⟩ := State.topJava?_eq_some.mp hg0
  have hl9 : e.platform.stackLimits (T.setVm s.vm).me = e.platform.stackLimits s.me := X.limits
  have hb9 : (T.setVm s.vm).me.stackBytes = s.me.stackBytes := X.bytes
  refine ⟨X.admits, X.cas, X.clock, hF, ?_, X.hears, X.method, X.code, X.here, X.tail, X.warmed, ?_, ?_, ?_⟩
  · have h := X.room
    have hU : ((T.setVm s.vm).setFrames (.invoking m args :: below)).localsInUse = s.localsInUse := by
      rw [State.localsInUse_invoking hF (meth := meth) (c := c) X.method X.code, State.localsInUse_invoking X.frames X.method X.code]
    simp only [State.hasRoom, Bool.and_eq_true, decide_eq_true_eq] at h ⊢
    obtain ⟨⟨⟨⟨h1, h2, h3, h4, h5, h6⟩, h7⟩, h8⟩, h9⟩ := h
    rw [X.frames, List.length_cons] at h2 h3
    have q1 := X.heapSize
    have q2 := X.used
    simp only [hF, hU, List.length_cons, State.stackLimits_setFrames, State.stackBytes_setFrames, hl9, hb9]
    refine ⟨⟨⟨⟨by omega, by omega, by omega, by omega, by omega, h6⟩, ?_⟩, ?_⟩, X.book⟩
    · show T.heap.size + R'.cells ≤ e.platform.maxCells
      omega
    · show T.slotsUsed + R'.slots ≤ e.platform.maxSlots
      omega
  · rw [State.stackLimits_setFrames]; rfl
  · rw [State.stackBytes_setFrames]; rfl
  · refine ⟨?_, Nat.le_refl _, Nat.le_refl _, ?_, ?_, fun a c9 h9 => ⟨c9, h9, rfl, rfl, fun _ _ => rfl⟩⟩
    · obtain ⟨t, ht, -⟩ := State.frames_cons hr
      show T.setVm s.vm = { ((T.setVm s.vm).setFrames (.invoking m args :: below)).setFrames (T.setVm s.vm).frames with heap := T.heap, slotsUsed := T.slotsUsed }
      rw [State.setFrames_setFrames, State.setFrames_self ht]
      rfl
    · show T.slotsUsed = T.slotsUsed + ((T.heap.toList.drop T.heap.size).map (·.slots.size)).sum
      rw [List.drop_eq_nil_of_le (Nat.le_of_eq Array.length_toList)]
      rfl
    · show ((T.heap.toList.drop T.heap.size).map (·.slots.size)).sum ≤ 0
      rw [List.drop_eq_nil_of_le (Nat.le_of_eq Array.length_toList)]
      exact Nat.le_refl _
/-- 'throw new E()': new; dup; invokespecial; athrow -/
theorem vx_throw0 {cc : ByteArray} {pc : Nat} (hexec : p.tables.exec = Jvm.exec) (hb : c.code = cc) (hl : l.stackTraces = false) {own cls : String} {names : List String} {ik ic mc ms : Nat} {A : Nat → Prop}
    (hown : s.vm.findClass own = some m.cls) (hcls : Bundle.fit cls = true) (hnames : ∀ n ∈ names, Bundle.fit n = true)
    (hk : (Cond.classLink own ik cls).before args s = true) (hini : (Cond.initialized cls).before args s = true) (hat : ∀ w ∈ vx_at0 own ic cls names, w.before args s = true)
    (hgood : ∀ w ∈ Cond.classLink own ik cls :: Cond.initialized cls :: vx_at0 own ic cls names, vx_ot w = true)
    (hU : vx_Zq Bundle.tN "UNASSIGNED_STACK" Bundle.steD A s s.heap) (hN : vx_Zq Bundle.tN "SUPPRESSED_SENTINEL" Bundle.listD A s s.heap) (hS : va_S A s.heap H locs) (hsize : ls.size = c.maxLocals)
    (d0 : decode cc pc = .ok (.new ik, 3)) (d3 : decode cc (pc + 3) = .ok (.dup, 1)) (d4 : decode cc (pc + 4) = .ok (.invokespecial ic, 3)) (d7 : decode cc (pc + 7) = .ok (.athrow, 1))
    (hout : ∀ x ∈ c.exceptionTable.toList, covers x (pc + 7) = false)
    (hRframes : names.length + 3 < R.frames) (hRlocals : (rest.map fun v => v.category).sum + (13 * (names.length + 1) + 42) ≤ R.locals) (hRcells : cells + 1 ≤ R.cells) (hRslots : slots + 6 ≤ R.slots) (hlocks : meth.locks = false)
    (hx : ∀ t : State, s.vm.Alike t.vm → H.size ≤ t.heap.size → (∀ q : Nat, q < H.size → t.heap[q]? = H[q]?) → XC cls s t)
    (hf : ∀ z ∈ locs, free z.base) (hc : cells + 1 ≤ mc) (hs : slots + 6 ≤ ms) :
    W p l e R s m args below meth c H locs cells slots (vx_MQ below Qc XC args s mc ms free) (F0 m pc ls rest) := by
  intro T hT X
  have htr : e.platform.stackTraces = false := (show e.platform.stackTraces = l.stackTraces by rw [X.admits.platform]).trans hl
  have Y := vx_rebase X (R' := { frames := R.frames, locals := R.locals, cells := 1, slots := 6 }) (Nat.le_refl _) (Nat.le_refl _) hRcells hRslots
  obtain ⟨s', hA⟩ : ∃ z, z = (T.setVm s.vm).setFrames (.invoking m args :: below) := ⟨_, rfl⟩
  rw [← hA] at Y
  have hvm : s'.vm = s.vm := by rw [hA]; rfl
  have hhp : s'.heap = H := by rw [hA]; exact hT
  have hW0 : s.WarmedH s'.vm := by rw [hvm]; exact State.WarmedH.refl s
  have hat' : ∀ w ∈ vx_at0 own ic cls names, w.before args s' = true := fun w hw => vx_ot_at hW0 hvm.symm (hgood w (List.mem_cons_of_mem _ (List.mem_cons_of_mem _ hw))) (hat w hw)
  have hk' : (Cond.classLink own ik cls).before args s' = true := vx_ot_at hW0 hvm.symm (hgood _ List.mem_cons_self) hk
  have hini' : (Cond.initialized cls).before args s' = true := vx_ot_at hW0 hvm.symm (hgood _ (List.mem_cons_of_mem _ List.mem_cons_self)) hini
  have hU' : vx_Zq Bundle.tN "UNASSIGNED_STACK" Bundle.steD A s' s'.heap := by rw [hhp]; exact vx_Zq.moved hW0.alike (hU.kept hS.2.1)
  have hN' : vx_Zq Bundle.tN "SUPPRESSED_SENTINEL" Bundle.listD A s' s'.heap := by rw [hhp]; exact vx_Zq.moved hW0.alike (hN.kept hS.2.1)
  have h : ∀ w ∈ Bundle.ownAtoms0 own ic cls names, w.before args s' = true := vx_own hat' (vx_isRefq hU'.1) (vx_isRefq hN'.1) hU'.2.word hN'.2.word
  have hown' : s'.vm.findClass own = some m.cls := by rw [hvm]; exact hown
  have hins : (Cond.instantiable cls 6).before args s' = true := h _ (by simp [Bundle.ownAtoms0])
  obtain ⟨vm₁, cX, kX, hfX, hkX, -, -, X₁, st1⟩ := Y.newCold hexec (own := own) (C := cls) (index := ik) (n := 6) hown' hk' hins hini'
    (g := F0 m pc ls rest) rfl (by rw [hb]; exact d0) (Nat.le_refl _) (Nat.le_refl _)
  generalize hT1 : (T.setVm vm₁).pushCell { cls := cX, slots := kX.instanceTypes.map defaultValue, vm := .none } = T1 at X₁ st1
  have hcat : (Value.ref T.heap.size).category = 1 := rfl
  have hcellA : T1.heap[T.heap.size]? = some (freshCell cX kX) := by rw [← hT1]; exact State.heap_pushCell_size _ _
  have d3' : decode c.code (pc + 3) = .ok (.dup, 1) := by rw [hb]; exact d3
  obtain ⟨U, hsteps, hrun, hend, hW, hsame, ce, hce, hO⟩ := X₁.ctorThrow0 hexec htr (own := own) (cls := cls) (names := names) (ic := ic) hown' hcls hnames h (fun x hx => nomatch hx) hfX hkX hcellA (by rw [hhp, hT]; exact Nat.le_refl _)
    (g := { method := m, pc := pc + 4, locals := ls, stack := .ref T.heap.size :: .ref T.heap.size :: rest, locked := none }) rfl hsize rfl rfl (rest := rest) rfl
    (by rw [hb]; exact d4) (by rw [hb]; exact d7) hout hRframes (by simp only [List.map_cons, List.sum_cons, hcat]; omega) hlocks
  obtain ⟨f1, f2⟩ := vx_frame hsame
  rw [hhp] at f1 f2
  have hWs : s.WarmedH U.vm := State.WarmedH.trans hW0 hW
  have hcl : s.vm.findClass cls = some ce.cls := by
    have h9 := hO.cls
    rw [hvm] at h9
    exact h9
  have hall : s.sameButNew ({ U with vm := s.vm } : State) locs mc ms := by
    subst hA
    obtain ⟨e1, e2⟩ := hsame
    rw [State.setFrames_setFrames] at e1
    have h2 : (T.setVm s.vm).sameButNew ({ U with vm := s.vm } : State) [] (0 + 1) (0 + 6) := ⟨e1, e2⟩
    have h3 := X.same.trans h2
    rw [List.append_nil] at h3
    exact h3.mono hc hs
  refine ⟨U, ?_, .threw T.heap.size, hrun, hend, Or.inr ⟨T.heap.size, rfl, cls, ce, locs, hx U hWs.alike f1 (fun q hq => f2 q hq (fun z hz => nomatch hz)), hce, hO.vm, hcl, hWs, hall, hf⟩⟩
  refine st1 _ ?_
  show Steps p.tables e below (T1.setTop { method := m, pc := pc + 3, locals := ls, stack := .ref T.heap.size :: rest, locked := none }) _
  jvm_step X₁.here [X₁.here.top, hexec, d3', Value.category]
  exact hsteps
/-- 'throw new E("text")': new; dup; ldc; invokespecial; athrow -/
theorem vx_throwS {cc : ByteArray} {pc : Nat} (hexec : p.tables.exec = Jvm.exec) (hb : c.code = cc) (hl : l.stackTraces = false) {own cls text : String} {names : List String} {ik is ic mc ms sa : Nat} {A : Nat → Prop}
    (hown : s.vm.findClass own = some m.cls) (hcls : Bundle.fit cls = true) (hnames : ∀ n ∈ names, Bundle.fit n = true)
    (hk : (Cond.classLink own ik cls).before args s = true) (hini : (Cond.initialized cls).before args s = true) (hstr : vk_R own is text sa s) (hat : ∀ w ∈ vx_atS own ic cls names, w.before args s = true)
    (hgood : ∀ w ∈ Cond.classLink own ik cls :: Cond.initialized cls :: vx_atS own ic cls names, vx_ot w = true)
    (hU : vx_Zq Bundle.tN "UNASSIGNED_STACK" Bundle.steD A s s.heap) (hN : vx_Zq Bundle.tN "SUPPRESSED_SENTINEL" Bundle.listD A s s.heap) (hS : va_S A s.heap H locs) (hsize : ls.size = c.maxLocals)
    (d0 : decode cc pc = .ok (.new ik, 3)) (d3 : decode cc (pc + 3) = .ok (.dup, 1)) (d4 : decode cc (pc + 4) = .ok (.ldc is, 2)) (d6 : decode cc (pc + 6) = .ok (.invokespecial ic, 3)) (d9 : decode cc (pc + 9) = .ok (.athrow, 1))
    (hout : ∀ x ∈ c.exceptionTable.toList, covers x (pc + 9) = false)
    (hRframes : names.length + 3 < R.frames) (hRlocals : (rest.map fun v => v.category).sum + (13 * (names.length + 1) + 43) ≤ R.locals) (hRcells : cells + 1 ≤ R.cells) (hRslots : slots + 6 ≤ R.slots) (hlocks : meth.locks = false)
    (hx : ∀ t : State, s.vm.Alike t.vm → H.size ≤ t.heap.size → (∀ q : Nat, q < H.size → t.heap[q]? = H[q]?) → XC cls s t)
    (hf : ∀ z ∈ locs, free z.base) (hc : cells + 1 ≤ mc) (hs : slots + 6 ≤ ms) :
    W p l e R s m args below meth c H locs cells slots (vx_MQ below Qc XC args s mc ms free) (F0 m pc ls rest) := by
  intro T hT X
  have htr : e.platform.stackTraces = false := (show e.platform.stackTraces = l.stackTraces by rw [X.admits.platform]).trans hl
  have Y := vx_rebase X (R' := { frames := R.frames, locals := R.locals, cells := 1, slots := 6 }) (Nat.le_refl _) (Nat.le_refl _) hRcells hRslots
  obtain ⟨s', hA⟩ : ∃ z, z = (T.setVm s.vm).setFrames (.invoking m args :: below) := ⟨_, rfl⟩
  rw [← hA] at Y
  have hvm : s'.vm = s.vm := by rw [hA]; rfl
  have hhp : s'.heap = H := by rw [hA]; exact hT
  have hW0 : s.WarmedH s'.vm := by rw [hvm]; exact State.WarmedH.refl s
  have hat' : ∀ w ∈ vx_atS own ic cls names, w.before args s' = true := fun w hw => vx_ot_at hW0 hvm.symm (hgood w (List.mem_cons_of_mem _ (List.mem_cons_of_mem _ hw))) (hat w hw)
  have hk' : (Cond.classLink own ik cls).before args s' = true := vx_ot_at hW0 hvm.symm (hgood _ List.mem_cons_self) hk
  have hini' : (Cond.initialized cls).before args s' = true := vx_ot_at hW0 hvm.symm (hgood _ (List.mem_cons_of_mem _ List.mem_cons_self)) hini
  have hU' : vx_Zq Bundle.tN "UNASSIGNED_STACK" Bundle.steD A s' s'.heap := by rw [hhp]; exact vx_Zq.moved hW0.alike (hU.kept hS.2.1)
  have hN' : vx_Zq Bundle.tN "SUPPRESSED_SENTINEL" Bundle.listD A s' s'.heap := by rw [hhp]; exact vx_Zq.moved hW0.alike (hN.kept hS.2.1)
  have h : ∀ w ∈ Bundle.ownAtoms own ic cls names, w.before args s' = true := vx_own hat' (vx_isRefq hU'.1) (vx_isRefq hN'.1) hU'.2.word hN'.2.word
  have hown' : s'.vm.findClass own = some m.cls := by rw [hvm]; exact hown
  have hins : (Cond.instantiable cls 6).before args s' = true := h _ (by simp [Bundle.ownAtoms])
  obtain ⟨vm₁, cX, kX, hfX, hkX, -, -, X₁, st1⟩ := Y.newCold hexec (own := own) (C := cls) (index := ik) (n := 6) hown' hk' hins hini'
    (g := F0 m pc ls rest) rfl (by rw [hb]; exact d0) (Nat.le_refl _) (Nat.le_refl _)
  generalize hT1 : (T.setVm vm₁).pushCell { cls := cX, slots := kX.instanceTypes.map defaultValue, vm := .none } = T1 at X₁ st1
  have hcat : (Value.ref T.heap.size).category = 1 := rfl
  have hcellA : T1.heap[T.heap.size]? = some (freshCell cX kX) := by rw [← hT1]; exact State.heap_pushCell_size _ _
  have d3' : decode c.code (pc + 3) = .ok (.dup, 1) := by rw [hb]; exact d3
  have d4' : decode c.code (pc + 4) = .ok (.ldc is, 2) := by rw [hb]; exact d4
  have hstr' : vk_R own is text sa s' := vk_R.warm hW0 hstr
  obtain ⟨U, hsteps, hrun, hend, hW, hsame, ce, hce, hO⟩ := X₁.ctorThrowS hexec htr (own := own) (cls := cls) (names := names) (ic := ic) hown' hcls hnames h (fun x hx => nomatch hx) hfX hkX hcellA (by rw [hhp, hT]; exact Nat.le_refl _) (msg := .ref sa) rfl
    (g := { method := m, pc := pc + 6, locals := ls, stack := .ref sa :: .ref T.heap.size :: .ref T.heap.size :: rest, locked := none }) rfl hsize rfl rfl (rest := rest) rfl
    (by rw [hb]; exact d6) (by rw [hb]; exact d9) hout hRframes (by simp only [List.map_cons, List.sum_cons, hcat]; omega) hlocks
  obtain ⟨f1, f2⟩ := vx_frame hsame
  rw [hhp] at f1 f2
  have hWs : s.WarmedH U.vm := State.WarmedH.trans hW0 hW
  have hcl : s.vm.findClass cls = some ce.cls := by
    have h9 := hO.cls
    rw [hvm] at h9
    exact h9
  have hall : s.sameButNew ({ U with vm := s.vm } : State) locs mc ms := by
    subst hA
    obtain ⟨e1, e2⟩ := hsame
    rw [State.setFrames_setFrames] at e1
    have h2 : (T.setVm s.vm).sameButNew ({ U with vm := s.vm } : State) [] (0 + 1) (0 + 6) := ⟨e1, e2⟩
    have h3 := X.same.trans h2
    rw [List.append_nil] at h3
    exact h3.mono hc hs
  refine ⟨U, ?_, .threw T.heap.size, hrun, hend, Or.inr ⟨T.heap.size, rfl, cls, ce, locs, hx U hWs.alike f1 (fun q hq => f2 q hq (fun z hz => nomatch hz)), hce, hO.vm, hcl, hWs, hall, hf⟩⟩
  refine st1 _ ?_
  show Steps p.tables e below (T1.setTop { method := m, pc := pc + 3, locals := ls, stack := .ref T.heap.size :: rest, locked := none }) _
  jvm_step X₁.here [X₁.here.top, hexec, d3', Value.category]
  exact X₁.ldcString hexec (own := own) (text := text) (index := is) (a := sa) hown' hstr'.1 hstr'.2
    (g := { method := m, pc := pc + 4, locals := ls, stack := .ref T.heap.size :: .ref T.heap.size :: rest, locked := none }) rfl d4' _ hsteps
/-- 'throw new E("text")', the text by a wide index -/
theorem vx_throwSW {cc : ByteArray} {pc : Nat} (hexec : p.tables.exec = Jvm.exec) (hb : c.code = cc) (hl : l.stackTraces = false) {own cls text : String} {names : List String} {ik is ic mc ms sa : Nat} {A : Nat → Prop}
    (hown : s.vm.findClass own = some m.cls) (hcls : Bundle.fit cls = true) (hnames : ∀ n ∈ names, Bundle.fit n = true)
    (hk : (Cond.classLink own ik cls).before args s = true) (hini : (Cond.initialized cls).before args s = true) (hstr : vk_R own is text sa s) (hat : ∀ w ∈ vx_atS own ic cls names, w.before args s = true)
    (hgood : ∀ w ∈ Cond.classLink own ik cls :: Cond.initialized cls :: vx_atS own ic cls names, vx_ot w = true)
    (hU : vx_Zq Bundle.tN "UNASSIGNED_STACK" Bundle.steD A s s.heap) (hN : vx_Zq Bundle.tN "SUPPRESSED_SENTINEL" Bundle.listD A s s.heap) (hS : va_S A s.heap H locs) (hsize : ls.size = c.maxLocals)
    (d0 : decode cc pc = .ok (.new ik, 3)) (d3 : decode cc (pc + 3) = .ok (.dup, 1)) (d4 : decode cc (pc + 4) = .ok (.ldc_w is, 3)) (d7 : decode cc (pc + 7) = .ok (.invokespecial ic, 3)) (d10 : decode cc (pc + 10) = .ok (.athrow, 1))
    (hout : ∀ x ∈ c.exceptionTable.toList, covers x (pc + 10) = false)
    (hRframes : names.length + 3 < R.frames) (hRlocals : (rest.map fun v => v.category).sum + (13 * (names.length + 1) + 43) ≤ R.locals) (hRcells : cells + 1 ≤ R.cells) (hRslots : slots + 6 ≤ R.slots) (hlocks : meth.locks = false)
    (hx : ∀ t : State, s.vm.Alike t.vm → H.size ≤ t.heap.size → (∀ q : Nat, q < H.size → t.heap[q]? = H[q]?) → XC cls s t)
    (hf : ∀ z ∈ locs, free z.base) (hc : cells + 1 ≤ mc) (hs : slots + 6 ≤ ms) :
    W p l e R s m args below meth c H locs cells slots (vx_MQ below Qc XC args s mc ms free) (F0 m pc ls rest) := by
  intro T hT X
  have htr : e.platform.stackTraces = false := (show e.platform.stackTraces = l.stackTraces by rw [X.admits.platform]).trans hl
  have Y := vx_rebase X (R' := { frames := R.frames, locals := R.locals, cells := 1, slots := 6 }) (Nat.le_refl _) (Nat.le_refl _) hRcells hRslots
  obtain ⟨s', hA⟩ : ∃ z, z = (T.setVm s.vm).setFrames (.invoking m args :: below) := ⟨_, rfl⟩
  rw [← hA] at Y
  have hvm : s'.vm = s.vm := by rw [hA]; rfl
  have hhp : s'.heap = H := by rw [hA]; exact hT
  have hW0 : s.WarmedH s'.vm := by rw [hvm]; exact State.WarmedH.refl s
  have hat' : ∀ w ∈ vx_atS own ic cls names, w.before args s' = true := fun w hw => vx_ot_at hW0 hvm.symm (hgood w (List.mem_cons_of_mem _ (List.mem_cons_of_mem _ hw))) (hat w hw)
  have hk' : (Cond.classLink own ik cls).before args s' = true := vx_ot_at hW0 hvm.symm (hgood _ List.mem_cons_self) hk
  have hini' : (Cond.initialized cls).before args s' = true := vx_ot_at hW0 hvm.symm (hgood _ (List.mem_cons_of_mem _ List.mem_cons_self)) hini
  have hU' : vx_Zq Bundle.tN "UNASSIGNED_STACK" Bundle.steD A s' s'.heap := by rw [hhp]; exact vx_Zq.moved hW0.alike (hU.kept hS.2.1)
  have hN' : vx_Zq Bundle.tN "SUPPRESSED_SENTINEL" Bundle.listD A s' s'.heap := by rw [hhp]; exact vx_Zq.moved hW0.alike (hN.kept hS.2.1)
  have h : ∀ w ∈ Bundle.ownAtoms own ic cls names, w.before args s' = true := vx_own hat' (vx_isRefq hU'.1) (vx_isRefq hN'.1) hU'.2.word hN'.2.word
  have hown' : s'.vm.findClass own = some m.cls := by rw [hvm]; exact hown
  have hins : (Cond.instantiable cls 6).before args s' = true := h _ (by simp [Bundle.ownAtoms])
  obtain ⟨vm₁, cX, kX, hfX, hkX, -, -, X₁, st1⟩ := Y.newCold hexec (own := own) (C := cls) (index := ik) (n := 6) hown' hk' hins hini'
    (g := F0 m pc ls rest) rfl (by rw [hb]; exact d0) (Nat.le_refl _) (Nat.le_refl _)
  generalize hT1 : (T.setVm vm₁).pushCell { cls := cX, slots := kX.instanceTypes.map defaultValue, vm := .none } = T1 at X₁ st1
  have hcat : (Value.ref T.heap.size).category = 1 := rfl
  have hcellA : T1.heap[T.heap.size]? = some (freshCell cX kX) := by rw [← hT1]; exact State.heap_pushCell_size _ _
  have d3' : decode c.code (pc + 3) = .ok (.dup, 1) := by rw [hb]; exact d3
  have d4' : decode c.code (pc + 4) = .ok (.ldc_w is, 3) := by rw [hb]; exact d4
  have hstr' : vk_R own is text sa s' := vk_R.warm hW0 hstr
  obtain ⟨U, hsteps, hrun, hend, hW, hsame, ce, hce, hO⟩ := X₁.ctorThrowS hexec htr (own := own) (cls := cls) (names := names) (ic := ic) hown' hcls hnames h (fun x hx => nomatch hx) hfX hkX hcellA (by rw [hhp, hT]; exact Nat.le_refl _) (msg := .ref sa) rfl
    (g := { method := m, pc := pc + 7, locals := ls, stack := .ref sa :: .ref T.heap.size :: .ref T.heap.size :: rest, locked := none }) rfl hsize rfl rfl (rest := rest) rfl
    (by rw [hb]; exact d7) (by rw [hb]; exact d10) hout hRframes (by simp only [List.map_cons, List.sum_cons, hcat]; omega) hlocks
  obtain ⟨f1, f2⟩ := vx_frame hsame
  rw [hhp] at f1 f2
  have hWs : s.WarmedH U.vm := State.WarmedH.trans hW0 hW
  have hcl : s.vm.findClass cls = some ce.cls := by
    have h9 := hO.cls
    rw [hvm] at h9
    exact h9
  have hall : s.sameButNew ({ U with vm := s.vm } : State) locs mc ms := by
    subst hA
    obtain ⟨e1, e2⟩ := hsame
    rw [State.setFrames_setFrames] at e1
    have h2 : (T.setVm s.vm).sameButNew ({ U with vm := s.vm } : State) [] (0 + 1) (0 + 6) := ⟨e1, e2⟩
    have h3 := X.same.trans h2
    rw [List.append_nil] at h3
    exact h3.mono hc hs
  refine ⟨U, ?_, .threw T.heap.size, hrun, hend, Or.inr ⟨T.heap.size, rfl, cls, ce, locs, hx U hWs.alike f1 (fun q hq => f2 q hq (fun z hz => nomatch hz)), hce, hO.vm, hcl, hWs, hall, hf⟩⟩
  refine st1 _ ?_
  show Steps p.tables e below (T1.setTop { method := m, pc := pc + 3, locals := ls, stack := .ref T.heap.size :: rest, locked := none }) _
  jvm_step X₁.here [X₁.here.top, hexec, d3', Value.category]
  exact X₁.ldcStringW hexec (own := own) (text := text) (index := is) (a := sa) hown' hstr'.1 hstr'.2
    (g := { method := m, pc := pc + 4, locals := ls, stack := .ref T.heap.size :: .ref T.heap.size :: rest, locked := none }) rfl d4' _ hsteps
end Ends
section Bodies
variable {l : Launch}
theorem vx_ofW {y : MethodName} {ws ws' : List Cond} {rm : Room} {Pc : Array Value → State → Prop} {Qc : Array Value → State → Outcome → State → Prop} {XC : String → State → State → Prop} {mc ms : Nat} {free : Addr → Prop} {cc : ByteArray} {maxL : Nat} {ret : Option FieldType}
    (hy : plainName y.cls = true) (hw : ws = Cond.code y cc maxL ret :: ws')
    (body : ∀ p e s m args below meth c s₁, BodyLoose p l y (headSpec ws rm) cc maxL ret e s m args below meth c s₁ → c.maxLocals = maxL → (∀ x ∈ c.exceptionTable.toList, False) → Pc args s →
      W p l e (headSpec ws rm).room s m args below meth c s.heap [] 0 0 (vx_MQ below Qc XC args s mc ms free) (entryFrame m args maxL)) : vx_Met l y ws rm Pc Qc XC mc ms free := by
  refine MetFree.of_bodyS (code := cc) (maxLocals := maxL) (ret := ret) hy ?_ ?_
  · intro args s m h hn
    obtain ⟨meth, c, h1, h2, h3, h4, h5, h6, -, -⟩ := Cond.code_spec hn (atoms_spec (ws := ws) h _ (by rw [hw]; exact List.mem_cons_self))
    exact ⟨meth, c, h1, h2, h3, h4, h5, h6⟩
  · intro p e s m args below meth c s₁ B hml hP _
    have hh0 : s₁.heap = s.heap := by rw [B.state]; rfl
    have ht : ∀ x ∈ c.exceptionTable.toList, False := by
      obtain ⟨meth9, c9, h1, h2, -, -, -, -, h7, -⟩ := Cond.code_spec B.named (atoms_spec (ws := ws) B.pre _ (by rw [hw]; exact List.mem_cons_self))
      cases Option.some.inj (h1.symm.trans B.method)
      cases Option.some.inj (h2.symm.trans (Stand.of_body B).code)
      intro x hx
      rw [Array.isEmpty_iff.mp h7] at hx
      cases hx
    obtain ⟨t, a1, o, b1, b2, b3⟩ := body p e s m args below meth c s₁ B hml ht hP s₁ hh0 (Stand.of_body B)
    exact ⟨t, o, a1, b1, b2, b3⟩
/-- the table of a body with handlers -/
theorem vx_table {p : Program} {x y : MethodName} {S : Spec} {cc bytes : ByteArray} {maxL maxL' : Nat} {ret ret' : Option FieldType} {e : Env} {s s₁ : State} {m : MethodId} {args : Array Value} {below : List Frame} {meth : Method} {c : Code} {hh : List (Nat × Nat × Nat × Nat)}
    (B : BodyLoose p l y S cc maxL ret e s m args below meth c s₁) (h : (Cond.codeWith y bytes maxL' ret' hh).before args s = true) : c.exceptionTable.toList = tableOf hh := by
  obtain ⟨m9, meth9, c9, hn9, h1, h2, -, -, h6, -⟩ := Cond.codeWith_spec h
  cases Option.some.inj (hn9.symm.trans B.named)
  cases Option.some.inj (h1.symm.trans B.method)
  cases Option.some.inj (h2.symm.trans (Stand.of_body B).code)
  rw [← h6, table_eq]
end Bodies
end VXA
/-! ===== END ===== -/
/-! ===== BEGIN a static call of a method with an exception table ===== -/
section VXS
variable {p : Program} {l : Launch} {e : Env} {R : Room} {s : State} {m : MethodId} {args : Array Value} {below : List Frame} {meth : Method} {c : Code} {T : State} {H : Heap} {locs : List Loc} {cells slots : Nat}
abbrev vx_CSW (R : Room) (s : State) (args : Array Value) (own : String) (index : Nat) (y : MethodName) (bytes : ByteArray) (maxL : Nat) (ret : Option FieldType) (hh : List (Nat × Nat × Nat × Nat)) (ws : List Cond) (rm : Room) (mc ms n : Nat) : Prop :=
  (rm.cells = mc ∧ rm.slots = ms ∧ rm.frames + 1 ≤ R.frames ∧ 8 + (maxL + 11) + rm.locals ≤ R.locals ∧ (∀ w ∈ ws, ∀ (a' : Array Value) (U : State), s.WarmedH U.vm → w.before a' U = true) ∧ Cond.codeWith y bytes maxL ret hh ∈ ws) ∧
  (Cond.codeWith y bytes maxL ret hh).before args s = true ∧ (Cond.initialized y.cls).before args s = true ∧ (y.cls ≠ "java/lang/invoke/MethodHandle" ∧ y.cls ≠ "java/lang/invoke/VarHandle") ∧
  (∀ sig, parseMethodDescriptor y.desc = some sig → n = sig.parameters.length) ∧ (Cond.methodLink own index y).before args s = true ∧ (Cond.static y).before args s = true
theorem vx_cwSW {own : String} {index maxL mc ms : Nat} {y : MethodName} {bytes : ByteArray} {ret : Option FieldType} {hh : List (Nat × Nat × Nat × Nat)} {Ts ws ws' : List Cond} {rm : Room} (n : Nat) (ht : ∀ w ∈ Ts, w.before args s = true) (hT : GoodIn Ts (va_wsS own index y ws)) (hw : ws = Cond.codeWith y bytes maxL ret hh :: ws') (hrc : rm.cells = mc) (hrs : rm.slots = ms)
    (hd : y.cls ≠ "java/lang/invoke/MethodHandle" ∧ y.cls ≠ "java/lang/invoke/VarHandle" ∧ (parseMethodDescriptor y.desc).map (fun d => d.parameters.length) = some n) (hR : rm.frames + 1 ≤ R.frames ∧ 8 + (maxL + 11) + rm.locals ≤ R.locals) :
    vx_CSW R s args own index y bytes maxL ret hh ws rm mc ms n := by
  have ok : ∀ w ∈ va_wsS own index y ws, w.before args s = true := fun w h => ht w (hT w h).1
  have hG : GoodIn Ts ws := fun w h => hT w (by unfold va_wsS; exact List.mem_append_right _ h)
  have hc : Cond.codeWith y bytes maxL ret hh ∈ ws := by rw [hw]; exact List.mem_cons_self
  refine ⟨⟨hrc, hrs, hR.1, hR.2, pay_in ht hG, hc⟩, ht _ (hG _ hc).1, ok _ (by simp [va_wsS]), ⟨hd.1, hd.2.1⟩, fun sig h => ?_, ok _ (by simp [va_wsS]), ok _ (by simp [va_wsS])⟩
  have h2 := hd.2.2
  rw [h] at h2
  exact (Option.some.inj h2).symm
theorem vx_callSW (X : Stand p l e R s m args below meth c T locs cells slots) (hexec : p.tables.exec = Jvm.exec) {own : String} {index : Nat} {y : MethodName} {bytes : ByteArray} {maxL : Nat} {ret : Option FieldType} {hh : List (Nat × Nat × Nat × Nat)}
    (hown : s.vm.findClass own = some m.cls) (hlink : (Cond.methodLink own index y).before args s = true) (hstat : (Cond.static y).before args s = true) (hinit : (Cond.initialized y.cls).before args s = true)
    (hcode : (Cond.codeWith y bytes maxL ret hh).before args s = true) (hy : y.cls ≠ "java/lang/invoke/MethodHandle" ∧ y.cls ≠ "java/lang/invoke/VarHandle")
    {W9 : Nat} {Pre : Pt → Array Value → Prop} {Post : Pt → Array Value → Option Value → Pt → Prop} (hK : Back l R p e below s args y 3 W9 Pre Post)
    {g : JFrame} (hg : g.method = m) (hsize : g.locals.size = c.maxLocals) {argsL rest : List Value} (hlen : ∀ sig, parseMethodDescriptor y.desc = some sig → argsL.length = sig.parameters.length)
    (hstack : g.stack = argsL.reverse ++ rest) (hW : 2 * g.monitorRoom + (rest.map fun v => v.category).sum ≤ W9) (hdg : decode c.code g.pc = .ok (.invokestatic index, 3))
    (hpre : ∀ vm₁, s.WarmedH vm₁ → Pre ⟨T.setVm vm₁, locs, cells, slots⟩ argsL.toArray) :
    ∃ (v : Option Value) (vm₁ : Vm) (B : Pt), s.WarmedH vm₁ ∧ Stand p l e R s m args below meth c B.U B.locs B.cells B.slots ∧ Post ⟨T.setVm vm₁, locs, cells, slots⟩ argsL.toArray v B ∧
      ∀ target, Steps p.tables e below (B.U.setTop { g with pc := g.pc + 3, stack := v.toList ++ rest }) target → Steps p.tables e below (T.setTop g) target := by
  obtain ⟨mk, methM, cM, hnamed, hmethM, -, -, -, -, -, -, hsigM⟩ := Cond.codeWith_spec hcode
  have hstatic : methM.isStatic = true := Cond.static_spec hnamed hmethM hstat
  obtain ⟨kP, hkP, -⟩ := className_of_methodNamed hnamed
  have hinitP : kP.init = .initialized := Cond.initialized_spec (findClass_of_methodNamed hnamed) hkP hinit
  obtain ⟨vm₁, X₁, hstep₁⟩ := X.invokestatic hexec hown hlink hnamed hmethM hstatic hkP hinitP hy (g := g) hg (argsL := argsL) (rest := rest) (hlen _ hsigM) hstack hdg
  obtain ⟨v, B, X', hpost, hsteps⟩ := hK m meth c ⟨T.setVm vm₁, locs, cells, slots⟩ { g with stack := rest } (.invokestatic index) mk argsL.toArray X₁ hg hsize hdg hW (X₁.named hnamed) (hpre vm₁ X₁.warmed)
  exact ⟨v, vm₁, B, X₁.warmed, X', hpost, fun target h => hstep₁ _ fun acts => by rw [doInvoke_state]; exact hsteps.trans h⟩
theorem vx_runSW {y : MethodName} {bytes cc : ByteArray} {maxL nL mc ms n index : Nat} {ret : Option FieldType} {hh : List (Nat × Nat × Nat × Nat)} {ws : List Cond} {rm : Room} {Pc : Array Value → State → Prop} {Qc : Array Value → State → Outcome → State → Prop} {free : Addr → Prop} {Ts : List Cond} {own : String} {As rest : List Value} {g : JFrame}
    (S : CallFix p m c cc nL s args Ts own) (hM : Met l y ws rm Pc Qc mc ms free) (cw : vx_CSW R s args own index y bytes maxL ret hh ws rm mc ms n) (hp : PreS s H Pc As)
    (hg : g.method = m) (hn : As.length = n) (hsize : g.locals.size = nL) (hstack : g.stack = As.reverse ++ rest) (hW : 2 * g.monitorRoom + (rest.map fun v => v.category).sum ≤ 8) (hdg : decode cc g.pc = .ok (.invokestatic index, 3)) (hf : cells + mc ≤ R.cells ∧ slots + ms ≤ R.slots) :
    va_Run p l e R s m args below meth c H locs cells slots mc ms g rest (Qc As.toArray) (free) := by
  obtain ⟨⟨hrc, hrs, hfr, hlo, hws, hcw⟩, hcode, hini, hy, hlen, hl, hstt⟩ := cw
  have hK : Back l R p e below s args y 3 8 (PreOf R mc ms Pc) (PostOf Qc mc ms free) := va_backW (hh := hh) (bytes := bytes) (maxL := maxL) (ret := ret) hM hp.1 hrc hrs hfr hlo hws hcw (fun a' U hW => word_at hW (Or.inl (by first | rfl | simp [Cond.onTables, Cond.keeps, Cond.steady])) hini)
  obtain ⟨hx, hb, hml, ho, -⟩ := S
  intro T hT X
  obtain ⟨v, vm₁, ⟨U', l2, c2, s2⟩, hW₁, X', ⟨g', mk, t, L, e1, e2, hq, h1, hL, h2, h3⟩, st⟩ := vx_callSW X hx (hh := hh) (bytes := bytes) (maxL := maxL) (ret := ret) ho hl hstt hini hcode hy hK hg (hsize.trans hml.symm) (argsL := As) (rest := rest) (fun sig h => hn.trans (hlen sig h)) hstack hW (by rw [hb]; exact hdg)
    (fun vm₁ hW₁ => ⟨hf.1, hf.2, hp.2 (T.setVm vm₁) hT hW₁⟩)
  dsimp only [Pt.U, Pt.locs, Pt.cells, Pt.slots] at X' e1 e2 h1 h2 h3 st
  subst h1; subst h2; subst h3
  exact ⟨v, (T.setVm vm₁).calling g' mk As.toArray, t, U', L, hT, X', hL, e1, e2, hq, st⟩
/-- not caught here, past rows that name other classes: it goes on to the caller -/
theorem vx_outP {p : Program} {l : Launch} {e : Env} {R : Room} {s : State} {m : MethodId} {args : Array Value} {below : List Frame} {meth : Method} {c : Code} {H : Heap} {locs : List Loc} {cells slots : Nat} {free : Addr → Prop} {ls : Array Slot} {rest : List Value} {Qc : Array Value → State → Outcome → State → Prop} {XC : String → State → State → Prop}
    {pc : Nat} {own E : String} {ce : Cell} {q : Addr} {mc ms : Nat} (hown : s.vm.findClass own = some m.cls) (hlocks : meth.locks = false)
    (hpass : ∀ z ∈ c.exceptionTable.toList, covers z pc = false ∨ (z.catchType ≠ 0 ∧ ∃ nm : String, (Cond.classLink own z.catchType nm).before args s = true ∧ va_Nc E nm s)) (hcell : H[q]? = some ce) (hv : ce.vm = .none) (hcl : s.vm.findClass E = some ce.cls)
    (hx : ∀ t : State, t.heap = H → s.vm.Alike t.vm → XC E s t) (hf : ∀ z ∈ locs, free z.base) (hc : cells ≤ mc) (hs : slots ≤ ms) :
    vx_W p l e R s m args below meth c H locs cells slots (vx_MQ below Qc XC args s mc ms free) (F0 m pc ls rest) q := by
  intro T hT X
  have hpl : e.platform.magicAccessors = ({} : Platform).magicAccessors := by rw [X.admits.platform]
  obtain ⟨vm', hW', X', st⟩ := X.outThrough hlocks q (g := F0 m pc ls rest) rfl rfl rfl (cell := ce) (by rw [hT]; exact hcell) (by rw [hv]; rfl)
    (by obtain ⟨k9, h9, -⟩ := Vm.findClass_spec hcl; exact ⟨k9, h9⟩) (fun z hz => by
      rcases hpass z hz with h | ⟨hz0, nm, hl1, hn1⟩
      · exact Or.inl h
      · obtain ⟨c6, hc6, hcl6⟩ := Cond.classLink_spec hown hl1 e.platform hpl
        obtain ⟨a8, b8, h1, h2, h3⟩ := hn1
        cases Option.some.inj (h1.symm.trans hcl)
        cases Option.some.inj (h2.symm.trans hc6)
        exact Or.inr ⟨hz0, _, hcl6, h3⟩)
  obtain ⟨g₀, hfr⟩ := X'.frames_eq
  have hcell9 : ((T.setVm vm').setFrames (.throwing q :: below)).heap[q]? = some ce := by
    show T.heap[q]? = some ce
    rw [hT]; exact hcell
  have hend : Ended ((T.setVm vm').setFrames (.throwing q :: below)) below (.threw q) := State.frames_setFrames _ (State.cur_lt_of_frames hfr)
  refine ⟨(T.setVm vm').setFrames (.throwing q :: below), ?_, .threw q, X'.here.running, hend, Or.inr ⟨q, rfl, E, ce, locs, hx _ hT (X'.ends _).1.alike, hcell9, hv, hcl, (X'.ends _).1, (X'.ends _).2.mono hc hs, hf⟩⟩
  rw [X.pushThrowing_eq]
  exact st
/-- a thing of a world lies in the heap -/
theorem vx_lt {D : va_G} {cl : List vw_C} {ws : va_W} {H1 : Heap} (h : va_P D cl ws H1) {k : Nat} {q : Nat × va_E} (hk : ws[k]? = some q) : q.1 < H1.size := (h k q hk).lt
end VXS
/-! ===== END ===== -/
/-! ===== BEGIN methods with a table of their own: called by a name, returning or throwing ===== -/
section VXH
/-! vx_backW, vx_callVX, vx_callSX, vx_callVW, vx_runVW, vx_runVX, vx_runSX, vx_ofWH follow the same proofs as their sisters above (Free/Laws.lean, Shelf42/LK1.lean); vx_outP calls Shelf42/NT130.lean (outThrough). -/
section
variable {l : Launch} {R : Room} {p : Program} {e : Env} {below : List Frame} {s : State} {sargs : Array Value} {y : MethodName} {len W9 : Nat}
theorem vx_backW {ws : List Cond} {rm : Room} {Pc : Array Value → State → Prop} {Qc : Array Value → State → Outcome → State → Prop} {XC : String → State → State → Prop} {mc ms : Nat} {free : Addr → Prop} {bytes : ByteArray} {maxL : Nat} {ret : Option FieldType} {hh : List (Nat × Nat × Nat × Nat)}
    (hM : vx_Met l y ws rm Pc Qc XC mc ms free) (hblind : FrameBlind Pc) (hrc : rm.cells = mc) (hrs : rm.slots = ms)
    (hframes : rm.frames + 1 ≤ R.frames) (hlocals : W9 + (maxL + 11) + rm.locals ≤ R.locals)
    (hws : ∀ w ∈ ws, ∀ a' U, s.WarmedH U.vm → w.before a' U = true) (hcode : Cond.codeWith y bytes maxL ret hh ∈ ws) (hinit : ∀ a' U, s.WarmedH U.vm → (Cond.initialized y.cls).before a' U = true) :
    vx_Back l R p e below s sargs y len W9 (PreOf R mc ms Pc) (PostOf Qc mc ms free) (vx_Post XC mc ms free) := by
  intro m meth c A g ig mk a X hg hsize hdg hW hn hp
  have h1 : (headSpec ws rm).pre.before a A.U = true := atoms_intro fun w hw => hws w hw _ _ X.warmed
  have h2 : (Cond.codeWith y bytes maxL ret hh).before a A.U = true := hws _ hcode _ _ X.warmed
  have h3 : (Cond.initialized y.cls).before a A.U = true := hinit _ _ X.warmed
  have h4 : A.cells + (headSpec ws rm).room.cells ≤ R.cells := by rw [show (headSpec ws rm).room.cells = mc from hrc]; exact hp.1
  have h5 : A.slots + (headSpec ws rm).room.slots ≤ R.slots := by rw [show (headSpec ws rm).room.slots = ms from hrs]; exact hp.2.1
  have hPc : Pc a (A.U.calling g mk a) := hblind _ _ _ _ hp.2.2
  obtain ⟨U, Ls, c0, s0⟩ := A
  dsimp only [Pt.U, Pt.locs, Pt.cells, Pt.slots] at h1 h2 h3 h4 h5 X hn hPc ⊢
  obtain ⟨m9, methY, cY, hn9, hmY, hcY, -, hlY, -⟩ := Cond.codeWith_spec h2
  cases Option.some.inj (hn9.symm.trans hn)
  obtain ⟨kY, hkY, -⟩ := className_of_methodNamed hn
  have hinitY : kY.init = .initialized := Cond.initialized_spec (findClass_of_methodNamed hn) hkY h3
  have h : At U g.method c below := by rw [hg]; exact X.here
  have hlocals9 : W9 + (maxL + 11) + (headSpec ws rm).room.locals ≤ R.locals := hlocals
  have happ : (headSpec ws rm).appliesLoose y e.platform (U.calling g mk a) = true :=
    Spec.appliesLoose_calling (g := g) h hdg hn hkY hinitY
      (X.room_calling (g := g) (R' := (headSpec ws rm).room) hsize hmY hcY hframes (by rw [hlY]; omega) h4 h5) h1
  obtain ⟨mid, hmid⟩ := h.above
  have hfr : (U.setTop g).frames = (.java g :: mid) ++ below := by rw [State.frames_setTop' g h.top, hmid]; rfl
  obtain ⟨o, s₂, hsteps, -, hend, hq⟩ := Steps.callFree hM p X.admits X.cas X.clock (acts := []) hfr happ hPc trivial
  have hq' : vx_Q Qc XC mc ms free a (U.calling g mk a) o s₂ := hq
  rw [State.frames_setTop' g h.top] at hend
  obtain ⟨g₀, hg0⟩ := Option.isSome_iff_exists.mp h.top
  obtain ⟨r, hr⟩ := State.topJava?_eq_some.mp hg0
  have hr' : (({ U with heap := s₂.heap, slotsUsed := s₂.slotsUsed } : State).setVm s₂.vm).frames = .java g₀ :: r := hr
  rcases hq' with ⟨hqc, L, hfe, hL⟩ | ⟨q, rfl, E, ce, L, hx, hce, hcv, hcl, hW₂, hsm, hL⟩
  · obtain ⟨⟨v, rfl⟩, hW₂, e2, q2, q3, q4, q5, q6⟩ := id hfe
    have e3 : s₂ = ({ (U.calling g mk a).setFrames s₂.frames with heap := s₂.heap, slotsUsed := s₂.slotsUsed } : State).setVm s₂.vm := by
      have : s₂ = ({ s₂ with vm := (U.calling g mk a).vm } : State).setVm s₂.vm := rfl
      rw [e2] at this
      exact this
    obtain ⟨c₂, i₂, len₂, hc₂, hd₂, hf₂⟩ := hend
    have hW' : U.WarmedH s₂.vm := hW₂
    have hcc : c₂ = c := by
      have h1 : s₂.code? g.method = U.code? g.method := by
        rw [State.code?_eq, State.code?_eq, hW'.alike.method?]
      exact Option.some.inj (hc₂.symm.trans (h1.trans h.code))
    subst hcc
    have hlen : len₂ = len := by rw [hdg] at hd₂; cases hd₂; rfl
    subst hlen
    have hs₂ : s₂ = (({ U with heap := s₂.heap, slotsUsed := s₂.slotsUsed } : State).setVm s₂.vm).setTop { g with pc := g.pc + len₂, stack := v.toList ++ g.stack } := by
      refine e3.trans ?_
      rw [hf₂, State.calling_eq h.top, State.setFrames_setFrames, State.setTop_of_frames _ hr', hr]
      rfl
    have hsame : U.sameButNew ({ U with heap := s₂.heap, slotsUsed := s₂.slotsUsed } : State) L mc ms := by
      refine ⟨?_, q2, q3, q4, q5, q6⟩
      obtain ⟨t, ht, -⟩ := State.frames_cons hr
      show ({ U with heap := s₂.heap, slotsUsed := s₂.slotsUsed } : State) = { U.setFrames U.frames with heap := s₂.heap, slotsUsed := s₂.slotsUsed }
      rw [State.setFrames_self ht]
    subst hg
    refine Or.inl ⟨v, ⟨(({ U with heap := s₂.heap, slotsUsed := s₂.slotsUsed } : State).setVm s₂.vm), Ls ++ L, c0 + mc, s0 + ms⟩,
      ⟨X.admits, X.cas, X.clock, X.frames, X.room, X.hears, X.method, X.code, (X.here.setHeapUsed s₂.heap s₂.slotsUsed).setVm hW'.alike, X.tail, State.WarmedH.trans X.warmed hW', X.limits, X.bytes, X.same.trans (hsame.setVm s.vm)⟩,
      ⟨g, mk, s₂, L, rfl, rfl, hqc, rfl, hL, rfl, rfl⟩, ?_⟩
    show Steps p.tables e below _ ((({ U with heap := s₂.heap, slotsUsed := s₂.slotsUsed } : State).setVm s₂.vm).setTop { g with pc := g.pc + len₂, stack := v.toList ++ g.stack })
    rw [← hs₂]
    exact hsteps
  · obtain ⟨e2, q2, q3, q4, q5, q6⟩ := id hsm
    have e3 : s₂ = ({ (U.calling g mk a).setFrames s₂.frames with heap := s₂.heap, slotsUsed := s₂.slotsUsed } : State).setVm s₂.vm := by
      have : s₂ = ({ s₂ with vm := (U.calling g mk a).vm } : State).setVm s₂.vm := rfl
      rw [e2] at this
      exact this
    have hf₂ : s₂.frames = .throwing q :: .java g :: U.frames.tail := hend
    have hW' : U.WarmedH s₂.vm := hW₂
    have hs₂ : s₂ = ((({ U with heap := s₂.heap, slotsUsed := s₂.slotsUsed } : State).setVm s₂.vm).setTop g).pushFrame (.throwing q) := by
      refine e3.trans ?_
      rw [hf₂, State.calling_eq h.top, State.setFrames_setFrames, State.pushFrame, State.frames_setTop _ hr', State.setTop_of_frames _ hr', State.setFrames_setFrames, hr]
      rfl
    have hsame : U.sameButNew ({ U with heap := s₂.heap, slotsUsed := s₂.slotsUsed } : State) L mc ms := by
      refine ⟨?_, q2, q3, q4, q5, q6⟩
      obtain ⟨t, ht, -⟩ := State.frames_cons hr
      show ({ U with heap := s₂.heap, slotsUsed := s₂.slotsUsed } : State) = { U.setFrames U.frames with heap := s₂.heap, slotsUsed := s₂.slotsUsed }
      rw [State.setFrames_self ht]
    subst hg
    refine Or.inr ⟨q, ⟨(({ U with heap := s₂.heap, slotsUsed := s₂.slotsUsed } : State).setVm s₂.vm), Ls ++ L, c0 + mc, s0 + ms⟩,
      ⟨X.admits, X.cas, X.clock, X.frames, X.room, X.hears, X.method, X.code, (X.here.setHeapUsed s₂.heap s₂.slotsUsed).setVm hW'.alike, X.tail, State.WarmedH.trans X.warmed hW', X.limits, X.bytes, X.same.trans (hsame.setVm s.vm)⟩,
      ⟨g, mk, s₂, L, E, ce, rfl, rfl, hx, hce, hcv, hcl, rfl, hL, rfl, rfl⟩, ?_⟩
    show Steps p.tables e below _ (((({ U with heap := s₂.heap, slotsUsed := s₂.slotsUsed } : State).setVm s₂.vm).setTop g).pushFrame (.throwing q))
    rw [← hs₂]
    exact hsteps
end
variable {p : Program} {l : Launch} {e : Env} {R : Room} {s : State} {m : MethodId} {args : Array Value} {below : List Frame} {meth : Method} {c : Code} {T : State} {H : Heap} {locs : List Loc} {cells slots : Nat}
theorem vx_callVX (X : Stand p l e R s m args below meth c T locs cells slots) (hexec : p.tables.exec = Jvm.exec) {own C : String} {index : Nat} {y : MethodName} {bytes : ByteArray} {maxL : Nat} {ret : Option FieldType} {hh : List (Nat × Nat × Nat × Nat)}
    (hown : s.vm.findClass own = some m.cls) (hlink : (Cond.methodLink own index y).before args s = true) (hinst : (Cond.instanceMethod y).before args s = true) (hsel : (Cond.selects C y y).before args s = true)
    (hcode : (Cond.codeWith y bytes maxL ret hh).before args s = true) (hy : y.cls ≠ "java/lang/invoke/MethodHandle" ∧ y.cls ≠ "java/lang/invoke/VarHandle")
    {W9 : Nat} {Pre : Pt → Array Value → Prop} {Post : Pt → Array Value → Option Value → Pt → Prop} {PostX : Pt → Array Value → Addr → Pt → Prop} (hK : vx_Back l R p e below s args y 3 W9 Pre Post PostX)
    {b : Addr} {cellB : Cell} (hcell : T.heap[b]? = some cellB) (hobj : cellB.vm.isStatics = false) (hcls : s.vm.findClass C = some cellB.cls)
    {g : JFrame} (hg : g.method = m) (hsize : g.locals.size = c.maxLocals) {argsL rest : List Value} (hlen : ∀ sig, parseMethodDescriptor y.desc = some sig → argsL.length = sig.parameters.length)
    (hstack : g.stack = argsL.reverse ++ .ref b :: rest) (hW : 2 * g.monitorRoom + (rest.map fun v => v.category).sum ≤ W9) (hdg : decode c.code g.pc = .ok (.invokevirtual index, 3))
    (hpre : ∀ vm₁, s.WarmedH vm₁ → Pre ⟨T.setVm vm₁, locs, cells, slots⟩ (Value.ref b :: argsL).toArray) :
    (∃ (v : Option Value) (vm₁ : Vm) (B : Pt), s.WarmedH vm₁ ∧ Stand p l e R s m args below meth c B.U B.locs B.cells B.slots ∧ Post ⟨T.setVm vm₁, locs, cells, slots⟩ (Value.ref b :: argsL).toArray v B ∧
      ∀ target, Steps p.tables e below (B.U.setTop { g with pc := g.pc + 3, stack := v.toList ++ rest }) target → Steps p.tables e below (T.setTop g) target) ∨
    (∃ (q : Addr) (vm₁ : Vm) (B : Pt), s.WarmedH vm₁ ∧ Stand p l e R s m args below meth c B.U B.locs B.cells B.slots ∧ PostX ⟨T.setVm vm₁, locs, cells, slots⟩ (Value.ref b :: argsL).toArray q B ∧
      Steps p.tables e below (T.setTop g) ((B.U.setTop { g with stack := rest }).pushFrame (.throwing q))) := by
  obtain ⟨mk, methM, hnamed, hmethM, hstM, habM⟩ := Cond.instanceMethod_spec hinst
  obtain ⟨m8, methM', cM, hn8, hmethM', -, -, -, -, -, -, hsigM⟩ := Cond.codeWith_spec hcode
  cases Option.some.inj (hn8.symm.trans hnamed)
  cases hmethM.symm.trans hmethM'
  obtain ⟨c2, r2, m2, q1, q2, q3, q4, kP, hkP, hkPi⟩ := Cond.selects_spec hsel
  cases hcls.symm.trans q1
  cases (State.methodFound?_of_named hnamed hy).symm.trans q2
  cases hnamed.symm.trans q3
  have hselP : selectMethod e.platform s.vm cellB.cls mk = .method mk := by rw [Launch.admits_selectMethod X.admits]; exact q4
  obtain ⟨vm₁, X₁, hstep₁⟩ := X.invokevirtual hexec hown hlink hnamed hmethM hstM hkP hkPi hy (a := b) (cell := cellB) hcell
    (fun z h => by rw [h] at hobj; cases hobj) hselP hmethM habM hkP hkPi (g := g) hg (argsL := argsL) (rest := rest) (hlen _ hsigM) hstack hdg
  rcases hK m meth c ⟨T.setVm vm₁, locs, cells, slots⟩ { g with stack := rest } (.invokevirtual index) mk (Value.ref b :: argsL).toArray X₁ hg hsize hdg hW (X₁.named hnamed) (hpre vm₁ X₁.warmed) with ⟨v, B, X', hpost, hsteps⟩ | ⟨q, B, X', hpost, hsteps⟩
  · exact Or.inl ⟨v, vm₁, B, X₁.warmed, X', hpost, fun target h => hstep₁ _ fun acts => by rw [doInvoke_state]; exact hsteps.trans h⟩
  · exact Or.inr ⟨q, vm₁, B, X₁.warmed, X', hpost, hstep₁ _ fun acts => by rw [doInvoke_state]; exact hsteps⟩
theorem vx_callSX (X : Stand p l e R s m args below meth c T locs cells slots) (hexec : p.tables.exec = Jvm.exec) {own : String} {index : Nat} {y : MethodName} {bytes : ByteArray} {maxL : Nat} {ret : Option FieldType} {hh : List (Nat × Nat × Nat × Nat)}
    (hown : s.vm.findClass own = some m.cls) (hlink : (Cond.methodLink own index y).before args s = true) (hstat : (Cond.static y).before args s = true) (hinit : (Cond.initialized y.cls).before args s = true)
    (hcode : (Cond.codeWith y bytes maxL ret hh).before args s = true) (hy : y.cls ≠ "java/lang/invoke/MethodHandle" ∧ y.cls ≠ "java/lang/invoke/VarHandle")
    {W9 : Nat} {Pre : Pt → Array Value → Prop} {Post : Pt → Array Value → Option Value → Pt → Prop} {PostX : Pt → Array Value → Addr → Pt → Prop} (hK : vx_Back l R p e below s args y 3 W9 Pre Post PostX)
    {g : JFrame} (hg : g.method = m) (hsize : g.locals.size = c.maxLocals) {argsL rest : List Value} (hlen : ∀ sig, parseMethodDescriptor y.desc = some sig → argsL.length = sig.parameters.length)
    (hstack : g.stack = argsL.reverse ++ rest) (hW : 2 * g.monitorRoom + (rest.map fun v => v.category).sum ≤ W9) (hdg : decode c.code g.pc = .ok (.invokestatic index, 3))
    (hpre : ∀ vm₁, s.WarmedH vm₁ → Pre ⟨T.setVm vm₁, locs, cells, slots⟩ argsL.toArray) :
    (∃ (v : Option Value) (vm₁ : Vm) (B : Pt), s.WarmedH vm₁ ∧ Stand p l e R s m args below meth c B.U B.locs B.cells B.slots ∧ Post ⟨T.setVm vm₁, locs, cells, slots⟩ argsL.toArray v B ∧
      ∀ target, Steps p.tables e below (B.U.setTop { g with pc := g.pc + 3, stack := v.toList ++ rest }) target → Steps p.tables e below (T.setTop g) target) ∨
    (∃ (q : Addr) (vm₁ : Vm) (B : Pt), s.WarmedH vm₁ ∧ Stand p l e R s m args below meth c B.U B.locs B.cells B.slots ∧ PostX ⟨T.setVm vm₁, locs, cells, slots⟩ argsL.toArray q B ∧
      Steps p.tables e below (T.setTop g) ((B.U.setTop { g with stack := rest }).pushFrame (.throwing q))) := by
  obtain ⟨mk, methM, cM, hnamed, hmethM, -, -, -, -, -, -, hsigM⟩ := Cond.codeWith_spec hcode
  have hstatic : methM.isStatic = true := Cond.static_spec hnamed hmethM hstat
  obtain ⟨kP, hkP, -⟩ := className_of_methodNamed hnamed
  have hinitP : kP.init = .initialized := Cond.initialized_spec (findClass_of_methodNamed hnamed) hkP hinit
  obtain ⟨vm₁, X₁, hstep₁⟩ := X.invokestatic hexec hown hlink hnamed hmethM hstatic hkP hinitP hy (g := g) hg (argsL := argsL) (rest := rest) (hlen _ hsigM) hstack hdg
  rcases hK m meth c ⟨T.setVm vm₁, locs, cells, slots⟩ { g with stack := rest } (.invokestatic index) mk argsL.toArray X₁ hg hsize hdg hW (X₁.named hnamed) (hpre vm₁ X₁.warmed) with ⟨v, B, X', hpost, hsteps⟩ | ⟨q, B, X', hpost, hsteps⟩
  · exact Or.inl ⟨v, vm₁, B, X₁.warmed, X', hpost, fun target h => hstep₁ _ fun acts => by rw [doInvoke_state]; exact hsteps.trans h⟩
  · exact Or.inr ⟨q, vm₁, B, X₁.warmed, X', hpost, hstep₁ _ fun acts => by rw [doInvoke_state]; exact hsteps⟩
theorem vx_callVW (X : Stand p l e R s m args below meth c T locs cells slots) (hexec : p.tables.exec = Jvm.exec) {own C : String} {index : Nat} {y : MethodName} {bytes : ByteArray} {maxL : Nat} {ret : Option FieldType} {hh : List (Nat × Nat × Nat × Nat)}
    (hown : s.vm.findClass own = some m.cls) (hlink : (Cond.methodLink own index y).before args s = true) (hinst : (Cond.instanceMethod y).before args s = true) (hsel : (Cond.selects C y y).before args s = true)
    (hcode : (Cond.codeWith y bytes maxL ret hh).before args s = true) (hy : y.cls ≠ "java/lang/invoke/MethodHandle" ∧ y.cls ≠ "java/lang/invoke/VarHandle")
    {W9 : Nat} {Pre : Pt → Array Value → Prop} {Post : Pt → Array Value → Option Value → Pt → Prop} (hK : Back l R p e below s args y 3 W9 Pre Post)
    {b : Addr} {cellB : Cell} (hcell : T.heap[b]? = some cellB) (hobj : cellB.vm.isStatics = false) (hcls : s.vm.findClass C = some cellB.cls)
    {g : JFrame} (hg : g.method = m) (hsize : g.locals.size = c.maxLocals) {argsL rest : List Value} (hlen : ∀ sig, parseMethodDescriptor y.desc = some sig → argsL.length = sig.parameters.length)
    (hstack : g.stack = argsL.reverse ++ .ref b :: rest) (hW : 2 * g.monitorRoom + (rest.map fun v => v.category).sum ≤ W9) (hdg : decode c.code g.pc = .ok (.invokevirtual index, 3))
    (hpre : ∀ vm₁, s.WarmedH vm₁ → Pre ⟨T.setVm vm₁, locs, cells, slots⟩ (Value.ref b :: argsL).toArray) :
    ∃ (v : Option Value) (vm₁ : Vm) (B : Pt), s.WarmedH vm₁ ∧ Stand p l e R s m args below meth c B.U B.locs B.cells B.slots ∧ Post ⟨T.setVm vm₁, locs, cells, slots⟩ (Value.ref b :: argsL).toArray v B ∧
      ∀ target, Steps p.tables e below (B.U.setTop { g with pc := g.pc + 3, stack := v.toList ++ rest }) target → Steps p.tables e below (T.setTop g) target := by
  obtain ⟨mk, methM, hnamed, hmethM, hstM, habM⟩ := Cond.instanceMethod_spec hinst
  obtain ⟨m8, methM', cM, hn8, hmethM', -, -, -, -, -, -, hsigM⟩ := Cond.codeWith_spec hcode
  cases Option.some.inj (hn8.symm.trans hnamed)
  cases hmethM.symm.trans hmethM'
  obtain ⟨c2, r2, m2, q1, q2, q3, q4, kP, hkP, hkPi⟩ := Cond.selects_spec hsel
  cases hcls.symm.trans q1
  cases (State.methodFound?_of_named hnamed hy).symm.trans q2
  cases hnamed.symm.trans q3
  have hselP : selectMethod e.platform s.vm cellB.cls mk = .method mk := by rw [Launch.admits_selectMethod X.admits]; exact q4
  obtain ⟨vm₁, X₁, hstep₁⟩ := X.invokevirtual hexec hown hlink hnamed hmethM hstM hkP hkPi hy (a := b) (cell := cellB) hcell
    (fun z h => by rw [h] at hobj; cases hobj) hselP hmethM habM hkP hkPi (g := g) hg (argsL := argsL) (rest := rest) (hlen _ hsigM) hstack hdg
  obtain ⟨v, B, X', hpost, hsteps⟩ := hK m meth c ⟨T.setVm vm₁, locs, cells, slots⟩ { g with stack := rest } (.invokevirtual index) mk (Value.ref b :: argsL).toArray X₁ hg hsize hdg hW (X₁.named hnamed) (hpre vm₁ X₁.warmed)
  exact ⟨v, vm₁, B, X₁.warmed, X', hpost, fun target h => hstep₁ _ fun acts => by rw [doInvoke_state]; exact hsteps.trans h⟩
abbrev vx_CVW (R : Room) (s : State) (args : Array Value) (own C : String) (index : Nat) (y : MethodName) (bytes : ByteArray) (maxL : Nat) (ret : Option FieldType) (hh : List (Nat × Nat × Nat × Nat)) (ws : List Cond) (rm : Room) (mc ms n : Nat) : Prop :=
  (rm.cells = mc ∧ rm.slots = ms ∧ rm.frames + 1 ≤ R.frames ∧ 8 + (maxL + 11) + rm.locals ≤ R.locals ∧ (∀ w ∈ ws, ∀ (a' : Array Value) (U : State), s.WarmedH U.vm → w.before a' U = true) ∧ Cond.codeWith y bytes maxL ret hh ∈ ws) ∧
  (Cond.codeWith y bytes maxL ret hh).before args s = true ∧ (Cond.initialized y.cls).before args s = true ∧ (y.cls ≠ "java/lang/invoke/MethodHandle" ∧ y.cls ≠ "java/lang/invoke/VarHandle") ∧
  (∀ sig, parseMethodDescriptor y.desc = some sig → n = sig.parameters.length) ∧ (Cond.methodLink own index y).before args s = true ∧ (Cond.instanceMethod y).before args s = true ∧ (Cond.selects C y y).before args s = true
theorem vx_cwVW {own C : String} {index maxL mc ms : Nat} {y : MethodName} {bytes : ByteArray} {ret : Option FieldType} {hh : List (Nat × Nat × Nat × Nat)} {Ts ws ws' : List Cond} {rm : Room} (n : Nat) (ht : ∀ w ∈ Ts, w.before args s = true) (hT : GoodIn Ts (wsV own index C y ws)) (hw : ws = Cond.codeWith y bytes maxL ret hh :: ws') (hrc : rm.cells = mc) (hrs : rm.slots = ms)
    (hd : y.cls = C ∧ y.cls ≠ "java/lang/invoke/MethodHandle" ∧ y.cls ≠ "java/lang/invoke/VarHandle" ∧ (parseMethodDescriptor y.desc).map (fun d => d.parameters.length) = some n) (hR : rm.frames + 1 ≤ R.frames ∧ 8 + (maxL + 11) + rm.locals ≤ R.locals) :
    vx_CVW R s args own C index y bytes maxL ret hh ws rm mc ms n := by
  obtain ⟨hC, hd⟩ := hd
  subst hC
  have ok : ∀ w ∈ wsV own index y.cls y ws, w.before args s = true := fun w h => ht w (hT w h).1
  have hG : GoodIn Ts ws := fun w h => hT w (by unfold wsV; exact List.mem_append_right _ h)
  have hc : Cond.codeWith y bytes maxL ret hh ∈ ws := by rw [hw]; exact List.mem_cons_self
  refine ⟨⟨hrc, hrs, hR.1, hR.2, pay_in ht hG, hc⟩, ht _ (hG _ hc).1, ok _ (by simp [wsV]), ⟨hd.1, hd.2.1⟩, fun sig h => ?_, ok _ (by simp [wsV]), ok _ (by simp [wsV]), ok _ (by simp [wsV])⟩
  have h2 := hd.2.2
  rw [h] at h2
  exact (Option.some.inj h2).symm
theorem vx_runVW {y : MethodName} {bytes cc : ByteArray} {maxL nL mc ms n index : Nat} {ret : Option FieldType} {hh : List (Nat × Nat × Nat × Nat)} {ws : List Cond} {rm : Room} {Pc : Array Value → State → Prop} {Qc : Array Value → State → Outcome → State → Prop} {free : Addr → Prop} {Ts : List Cond} {own C : String} {b : Addr} {As rest : List Value} {g : JFrame}
    (S : CallFix p m c cc nL s args Ts own) (hM : Met l y ws rm Pc Qc mc ms free) (cw : vx_CVW R s args own C index y bytes maxL ret hh ws rm mc ms n) (hp : PreV s H C b Pc As)
    (hg : g.method = m) (hn : As.length = n) (hsize : g.locals.size = nL) (hstack : g.stack = As.reverse ++ .ref b :: rest) (hW : 2 * g.monitorRoom + (rest.map fun v => v.category).sum ≤ 8) (hdg : decode cc g.pc = .ok (.invokevirtual index, 3)) (hf : cells + mc ≤ R.cells ∧ slots + ms ≤ R.slots) :
    va_Run p l e R s m args below meth c H locs cells slots mc ms g rest (Qc (Value.ref b :: As).toArray) free := by
  obtain ⟨⟨hrc, hrs, hfr, hlo, hws, hcw⟩, hcode, hini, hy, hlen, hl, hin, hse⟩ := cw
  have hK : Back l R p e below s args y 3 8 (PreOf R mc ms Pc) (PostOf Qc mc ms free) := va_backW (hh := hh) (bytes := bytes) (maxL := maxL) (ret := ret) hM hp.1 hrc hrs hfr hlo hws hcw (fun a' U hW => word_at hW (Or.inl (by first | rfl | simp [Cond.onTables, Cond.keeps, Cond.steady])) hini)
  obtain ⟨hx, hb, hml, ho, -⟩ := S
  obtain ⟨-, ⟨cellB, hcB, hoB, hclB⟩, hPc⟩ := hp
  intro T hT X
  obtain ⟨v, vm₁, ⟨U', l2, c2, s2⟩, hW₁, X', ⟨g', mk, t, L, e1, e2, hq, h1, hL, h2, h3⟩, st⟩ := vx_callVW X hx (C := C) (hh := hh) (bytes := bytes) (maxL := maxL) (ret := ret) ho hl hin hse hcode hy hK (by rw [hT]; exact hcB) hoB hclB hg (hsize.trans hml.symm) (argsL := As) (rest := rest) (fun sig h => hn.trans (hlen sig h)) hstack hW (by rw [hb]; exact hdg)
    (fun vm₁ hW₁ => ⟨hf.1, hf.2, hPc (T.setVm vm₁) hT hW₁⟩)
  dsimp only [Pt.U, Pt.locs, Pt.cells, Pt.slots] at X' e1 e2 h1 h2 h3 st
  subst h1; subst h2; subst h3
  exact ⟨v, (T.setVm vm₁).calling g' mk (Value.ref b :: As).toArray, t, U', L, hT, X', hL, e1, e2, hq, st⟩
section
variable {y : MethodName} {bytes cc : ByteArray} {maxL nL mc ms n index : Nat} {ret : Option FieldType} {ws : List Cond} {rm : Room} {Pc : Array Value → State → Prop} {Qc : Array Value → State → Outcome → State → Prop} {XC : String → State → State → Prop} {free : Addr → Prop} {Ts : List Cond} {own C : String} {b : Addr} {As rest : List Value} {g : JFrame}
theorem vx_runVX {hh : List (Nat × Nat × Nat × Nat)} (S : CallFix p m c cc nL s args Ts own) (hM : vx_Met l y ws rm Pc Qc XC mc ms free) (cw : vx_CVW R s args own C index y bytes maxL ret hh ws rm mc ms n) (hp : PreV s H C b Pc As)
    (hg : g.method = m) (hn : As.length = n) (hsize : g.locals.size = nL) (hstack : g.stack = As.reverse ++ .ref b :: rest) (hW : 2 * g.monitorRoom + (rest.map fun v => v.category).sum ≤ 8) (hdg : decode cc g.pc = .ok (.invokevirtual index, 3)) (hf : cells + mc ≤ R.cells ∧ slots + ms ≤ R.slots) :
    vx_Run p l e R s m args below meth c H locs cells slots mc ms g rest (Qc (Value.ref b :: As).toArray) XC free := by
  obtain ⟨⟨hrc, hrs, hfr, hlo, hws, hcw⟩, hcode, hini, hy, hlen, hl, hin, hse⟩ := cw
  have hK : vx_Back l R p e below s args y 3 8 (PreOf R mc ms Pc) (PostOf Qc mc ms free) (vx_Post XC mc ms free) := vx_backW (hh := hh) (bytes := bytes) (maxL := maxL) (ret := ret) hM hp.1 hrc hrs hfr hlo hws hcw (fun a' U hW => word_at hW (Or.inl (by first | rfl | simp [Cond.onTables, Cond.keeps, Cond.steady])) hini)
  obtain ⟨hx, hb, hml, ho, -⟩ := S
  obtain ⟨-, ⟨cellB, hcB, hoB, hclB⟩, hPc⟩ := hp
  intro T hT X
  rcases vx_callVX X hx (C := C) (hh := hh) (bytes := bytes) (maxL := maxL) (ret := ret) ho hl hin hse hcode hy hK (by rw [hT]; exact hcB) hoB hclB hg (hsize.trans hml.symm) (argsL := As) (rest := rest) (fun sig h => hn.trans (hlen sig h)) hstack hW (by rw [hb]; exact hdg)
    (fun vm₁ hW₁ => ⟨hf.1, hf.2, hPc (T.setVm vm₁) hT hW₁⟩) with ⟨v, vm₁, ⟨U', l2, c2, s2⟩, hW₁, X', ⟨g', mk, t, L, e1, e2, hq, h1, hL, h2, h3⟩, st⟩ | ⟨q, vm₁, ⟨U', l2, c2, s2⟩, hW₁, X', ⟨g', mk, t, L, E, ce, e1, e2, hq, hce, hcv, hcl, h1, hL, h2, h3⟩, st⟩
  · dsimp only [Pt.U, Pt.locs, Pt.cells, Pt.slots] at X' e1 e2 h1 h2 h3 st
    subst h1; subst h2; subst h3
    exact Or.inl ⟨v, (T.setVm vm₁).calling g' mk (Value.ref b :: As).toArray, t, U', L, hT, X', hL, e1, e2, hq, st⟩
  · dsimp only [Pt.U, Pt.locs, Pt.cells, Pt.slots] at X' e1 e2 h1 h2 h3 st hcl
    subst h1; subst h2; subst h3
    exact Or.inr ⟨q, (T.setVm vm₁).calling g' mk (Value.ref b :: As).toArray, t, U', L, E, ce, hT, X', hL, e1, e2, hq, hce, hcv, vx_cls hW₁ hcl, st⟩
theorem vx_runSX {hh : List (Nat × Nat × Nat × Nat)} (S : CallFix p m c cc nL s args Ts own) (hM : vx_Met l y ws rm Pc Qc XC mc ms free) (cw : vx_CSW R s args own index y bytes maxL ret hh ws rm mc ms n) (hp : PreS s H Pc As)
    (hg : g.method = m) (hn : As.length = n) (hsize : g.locals.size = nL) (hstack : g.stack = As.reverse ++ rest) (hW : 2 * g.monitorRoom + (rest.map fun v => v.category).sum ≤ 8) (hdg : decode cc g.pc = .ok (.invokestatic index, 3)) (hf : cells + mc ≤ R.cells ∧ slots + ms ≤ R.slots) :
    vx_Run p l e R s m args below meth c H locs cells slots mc ms g rest (Qc As.toArray) XC free := by
  obtain ⟨⟨hrc, hrs, hfr, hlo, hws, hcw⟩, hcode, hini, hy, hlen, hl, hstt⟩ := cw
  have hK : vx_Back l R p e below s args y 3 8 (PreOf R mc ms Pc) (PostOf Qc mc ms free) (vx_Post XC mc ms free) := vx_backW (hh := hh) (bytes := bytes) (maxL := maxL) (ret := ret) hM hp.1 hrc hrs hfr hlo hws hcw (fun a' U hW => word_at hW (Or.inl (by first | rfl | simp [Cond.onTables, Cond.keeps, Cond.steady])) hini)
  obtain ⟨hx, hb, hml, ho, -⟩ := S
  intro T hT X
  rcases vx_callSX X hx (hh := hh) (bytes := bytes) (maxL := maxL) (ret := ret) ho hl hstt hini hcode hy hK hg (hsize.trans hml.symm) (argsL := As) (rest := rest) (fun sig h => hn.trans (hlen sig h)) hstack hW (by rw [hb]; exact hdg)
    (fun vm₁ hW₁ => ⟨hf.1, hf.2, hp.2 (T.setVm vm₁) hT hW₁⟩) with ⟨v, vm₁, ⟨U', l2, c2, s2⟩, hW₁, X', ⟨g', mk, t, L, e1, e2, hq, h1, hL, h2, h3⟩, st⟩ | ⟨q, vm₁, ⟨U', l2, c2, s2⟩, hW₁, X', ⟨g', mk, t, L, E, ce, e1, e2, hq, hce, hcv, hcl, h1, hL, h2, h3⟩, st⟩
  · dsimp only [Pt.U, Pt.locs, Pt.cells, Pt.slots] at X' e1 e2 h1 h2 h3 st
    subst h1; subst h2; subst h3
    exact Or.inl ⟨v, (T.setVm vm₁).calling g' mk As.toArray, t, U', L, hT, X', hL, e1, e2, hq, st⟩
  · dsimp only [Pt.U, Pt.locs, Pt.cells, Pt.slots] at X' e1 e2 h1 h2 h3 st hcl
    subst h1; subst h2; subst h3
    exact Or.inr ⟨q, (T.setVm vm₁).calling g' mk As.toArray, t, U', L, E, ce, hT, X', hL, e1, e2, hq, hce, hcv, vx_cls hW₁ hcl, st⟩
end
end VXH
theorem vx_ofWH {l : Launch} {y : MethodName} {ws ws' : List Cond} {rm : Room} {Pc : Array Value → State → Prop} {Qc : Array Value → State → Outcome → State → Prop} {XC : String → State → State → Prop} {mc ms : Nat} {free : Addr → Prop} {cc : ByteArray} {maxL : Nat} {ret : Option FieldType} {hh : List (Nat × Nat × Nat × Nat)}
    (hy : plainName y.cls = true) (hw : ws = Cond.codeWith y cc maxL ret hh :: ws')
    (body : ∀ p e s m args below meth c s₁, BodyLoose p l y (headSpec ws rm) cc maxL ret e s m args below meth c s₁ → c.maxLocals = maxL → Pc args s →
      W p l e (headSpec ws rm).room s m args below meth c s.heap [] 0 0 (vx_MQ below Qc XC args s mc ms free) (entryFrame m args maxL)) : vx_Met l y ws rm Pc Qc XC mc ms free := by
  refine MetFree.of_bodyS (code := cc) (maxLocals := maxL) (ret := ret) hy ?_ ?_
  · intro args s m h hn
    obtain ⟨m9, meth, c, hn9, h1, h2, h3, h4, -, h5, h6, -⟩ := Cond.codeWith_spec (atoms_spec (ws := ws) h _ (by rw [hw]; exact List.mem_cons_self))
    cases hn.symm.trans hn9
    exact ⟨meth, c, h1, h2, h3, h4, h5, h6⟩
  · intro p e s m args below meth c s₁ B hml hP _
    have hh0 : s₁.heap = s.heap := by rw [B.state]; rfl
    obtain ⟨t, a1, o, b1, b2, b3⟩ := body p e s m args below meth c s₁ B hml hP s₁ hh0 (Stand.of_body B)
    exact ⟨t, o, a1, b1, b2, b3⟩
/-! ===== END ===== -/
end
section
def RX0 : String := "BellStreet$Bell"
def TX0 : u_T := fun k => match k with
  | 0 => ("BellStreet$Bell", "melody", "LBellStreet$Melody;", false)
  | 1 => ("BellStreet$Bell", "load", "I", false)
  | 2 => ("BellStreet$Bell", "isRinging", "Z", false)
  | _ => ("BellStreet$Bell", "stopsAt", "I", false)
def tyX0 : Nat → FieldType := fun k => match k with
  | 0 => .object "BellStreet$Melody"
  | 1 => .int
  | 2 => .boolean
  | _ => .int
abbrev wsX00 : List Cond := u_ws RX0 TX0 4
theorem nmX0 : ∀ a, a < 4 → ∀ b, b < 4 → a ≠ b → (TX0 a).2.1 ≠ (TX0 b).2.1 := by decide +kernel
theorem tyX0_ok : ∀ k, k < 4 → parseFieldDescriptor (TX0 k).2.2.1 = some (tyX0 k) := by decide +kernel
abbrev cX0_init : ByteArray := prog_2_method_1_code
def yX0_init : MethodName := ⟨RX0, "<init>", "()V"⟩
abbrev cX0_ringUntil : ByteArray := prog_2_method_2_code
def yX0_ringUntil : MethodName := ⟨RX0, "ringUntil", "(I)V"⟩
def RX1 : String := "BellStreet$Crew"
def TX1 : u_T := fun k => match k with
  | 0 => ("BellStreet$Crew", "goal", "LBellStreet$House;", false)
  | _ => ("BellStreet$Crew", "doneAt", "I", false)
def tyX1 : Nat → FieldType := fun k => match k with
  | 0 => .object "BellStreet$House"
  | _ => .int
abbrev wsX10 : List Cond := u_ws RX1 TX1 2
theorem nmX1 : ∀ a, a < 2 → ∀ b, b < 2 → a ≠ b → (TX1 a).2.1 ≠ (TX1 b).2.1 := by decide +kernel
theorem tyX1_ok : ∀ k, k < 2 → parseFieldDescriptor (TX1 k).2.2.1 = some (tyX1 k) := by decide +kernel
abbrev cX1_init : ByteArray := prog_3_method_1_code
def yX1_init : MethodName := ⟨RX1, "<init>", "()V"⟩
abbrev cX1_finish : ByteArray := prog_3_method_2_code
def yX1_finish : MethodName := ⟨RX1, "finish", "(I)V"⟩
def RX2 : String := "BellStreet$House"
def TX2 : u_T := fun k => match k with
  | 0 => ("BellStreet$House", "number", "I", true)
  | 1 => ("BellStreet$House", "street", "I", true)
  | 2 => ("BellStreet$House", "bells", "[LBellStreet$Bell;", true)
  | 3 => ("BellStreet$House", "rights", "[I", true)
  | 4 => ("BellStreet$House", "sound", "Z", false)
  | 5 => ("BellStreet$House", "quietFrom", "I", false)
  | 6 => ("BellStreet$House", "quietTo", "I", false)
  | 7 => ("BellStreet$House", "score", "I", false)
  | 8 => ("BellStreet$House", "rungSeconds", "I", false)
  | 9 => ("BellStreet$House", "rungQuietSeconds", "I", false)
  | 10 => ("BellStreet$House", "hushedPresses", "I", false)
  | 11 => ("BellStreet$House", "faultsOfTheDay", "I", false)
  | _ => ("BellStreet$House", "keptQuietToday", "Z", false)
def tyX2 : Nat → FieldType := fun k => match k with
  | 0 => .int
  | 1 => .int
  | 2 => .array (.object "BellStreet$Bell")
  | 3 => .array .int
  | 4 => .boolean
  | 5 => .int
  | 6 => .int
  | 7 => .int
  | 8 => .int
  | 9 => .int
  | 10 => .int
  | 11 => .int
  | _ => .boolean
abbrev wsX20 : List Cond := u_ws RX2 TX2 13
theorem nmX2 : ∀ a, a < 13 → ∀ b, b < 13 → a ≠ b → (TX2 a).2.1 ≠ (TX2 b).2.1 := by decide +kernel
theorem tyX2_ok : ∀ k, k < 13 → parseFieldDescriptor (TX2 k).2.2.1 = some (tyX2 k) := by decide +kernel
abbrev cX2_init : ByteArray := prog_4_method_1_code
def yX2_init : MethodName := ⟨RX2, "<init>", "(I)V"⟩
abbrev cX2_isQuietAt : ByteArray := prog_4_method_2_code
def yX2_isQuietAt : MethodName := ⟨RX2, "isQuietAt", "(I)Z"⟩
abbrev cX2_quietSeconds : ByteArray := prog_4_method_3_code
def yX2_quietSeconds : MethodName := ⟨RX2, "quietSeconds", "(II)I"⟩
abbrev cX2_shared : ByteArray := prog_4_method_4_code
def yX2_shared : MethodName := ⟨RX2, "shared", "(IIII)I"⟩
abbrev cX2_mayRing : ByteArray := prog_4_method_5_code
def yX2_mayRing : MethodName := ⟨RX2, "mayRing", "(LBellStreet$Melody;)Z"⟩
abbrev cX2_useRight : ByteArray := prog_4_method_6_code
def yX2_useRight : MethodName := ⟨RX2, "useRight", "(LBellStreet$Melody;)V"⟩
abbrev cX2_ringingSet : ByteArray := prog_4_method_7_code
def yX2_ringingSet : MethodName := ⟨RX2, "ringingSet", "()I"⟩
abbrev cX2_ringingLoad : ByteArray := prog_4_method_8_code
def yX2_ringingLoad : MethodName := ⟨RX2, "ringingLoad", "()I"⟩
abbrev cX2_startBells : ByteArray := prog_4_method_9_code
def yX2_startBells : MethodName := ⟨RX2, "startBells", "(I)I"⟩
abbrev cX2_breakDown : ByteArray := prog_4_method_10_code
def yX2_breakDown : MethodName := ⟨RX2, "breakDown", "()V"⟩
abbrev cX2_firstStop : ByteArray := prog_4_method_11_code
def yX2_firstStop : MethodName := ⟨RX2, "firstStop", "(I)I"⟩
abbrev cX2_stopEndedBells : ByteArray := prog_4_method_12_code
def yX2_stopEndedBells : MethodName := ⟨RX2, "stopEndedBells", "(I)V"⟩
abbrev cX2_spend : ByteArray := prog_4_method_13_code
def yX2_spend : MethodName := ⟨RX2, "spend", "(II)V"⟩
abbrev cX2_closeDay : ByteArray := prog_4_method_14_code
def yX2_closeDay : MethodName := ⟨RX2, "closeDay", "()V"⟩
def RX3 : String := "BellStreet$Melody"
def TX3 : u_T := fun k => match k with
  | 0 => ("BellStreet$Melody", "number", "I", true)
  | 1 => ("BellStreet$Melody", "owner", "I", true)
  | 2 => ("BellStreet$Melody", "count", "I", true)
  | _ => ("BellStreet$Melody", "tones", "J", true)
def tyX3 : Nat → FieldType := fun k => match k with
  | 0 => .int
  | 1 => .int
  | 2 => .int
  | _ => .long
abbrev wsX30 : List Cond := u_ws RX3 TX3 4
theorem nmX3 : ∀ a, a < 4 → ∀ b, b < 4 → a ≠ b → (TX3 a).2.1 ≠ (TX3 b).2.1 := by decide +kernel
theorem tyX3_ok : ∀ k, k < 4 → parseFieldDescriptor (TX3 k).2.2.1 = some (tyX3 k) := by decide +kernel
abbrev cX3_init : ByteArray := prog_5_method_1_code
def yX3_init : MethodName := ⟨RX3, "<init>", "(IIIJ)V"⟩
abbrev cX3_lasts : ByteArray := prog_5_method_2_code
def yX3_lasts : MethodName := ⟨RX3, "lasts", "()I"⟩
abbrev cX3_tone : ByteArray := prog_5_method_3_code
def yX3_tone : MethodName := ⟨RX3, "tone", "(I)I"⟩
abbrev cX3_tonesShifted : ByteArray := prog_5_method_4_code
def yX3_tonesShifted : MethodName := ⟨RX3, "tonesShifted", "(I)J"⟩
abbrev cX3_tonesTurned : ByteArray := prog_5_method_5_code
def yX3_tonesTurned : MethodName := ⟨RX3, "tonesTurned", "()J"⟩
abbrev cX3_isShiftOf : ByteArray := prog_5_method_6_code
def yX3_isShiftOf : MethodName := ⟨RX3, "isShiftOf", "(LBellStreet$Melody;)Z"⟩
def RX4 : String := "BellStreet"
def TX4 : u_T := fun k => match k with
  | 0 => ("BellStreet", "houses", "[LBellStreet$House;", true)
  | 1 => ("BellStreet", "crews", "[LBellStreet$Crew;", true)
  | 2 => ("BellStreet", "melodies", "[LBellStreet$Melody;", true)
  | 3 => ("BellStreet", "toldFaults", "[I", true)
  | 4 => ("BellStreet", "melodyCount", "I", false)
  | 5 => ("BellStreet", "faultCount", "I", false)
  | _ => ("BellStreet", "now", "I", false)
def tyX4 : Nat → FieldType := fun k => match k with
  | 0 => .array (.object "BellStreet$House")
  | 1 => .array (.object "BellStreet$Crew")
  | 2 => .array (.object "BellStreet$Melody")
  | 3 => .array .int
  | 4 => .int
  | 5 => .int
  | _ => .int
abbrev wsX40 : List Cond := u_ws RX4 TX4 7
theorem nmX4 : ∀ a, a < 7 → ∀ b, b < 7 → a ≠ b → (TX4 a).2.1 ≠ (TX4 b).2.1 := by decide +kernel
theorem tyX4_ok : ∀ k, k < 7 → parseFieldDescriptor (TX4 k).2.2.1 = some (tyX4 k) := by decide +kernel
abbrev cX4_init : ByteArray := prog_1_method_1_code
def yX4_init : MethodName := ⟨RX4, "<init>", "()V"⟩
abbrev cX4_addMelody : ByteArray := prog_1_method_2_code
def yX4_addMelody : MethodName := ⟨RX4, "addMelody", "(IIJ)I"⟩
abbrev cX4_toneAt : ByteArray := prog_1_method_3_code
def yX4_toneAt : MethodName := ⟨RX4, "toneAt", "(II)I"⟩
abbrev cX4_shifted : ByteArray := prog_1_method_4_code
def yX4_shifted : MethodName := ⟨RX4, "shifted", "(II)J"⟩
abbrev cX4_turned : ByteArray := prog_1_method_5_code
def yX4_turned : MethodName := ⟨RX4, "turned", "(I)J"⟩
abbrev cX4_areAlike : ByteArray := prog_1_method_6_code
def yX4_areAlike : MethodName := ⟨RX4, "areAlike", "(II)Z"⟩
abbrev cX4_license : ByteArray := prog_1_method_7_code
def yX4_license : MethodName := ⟨RX4, "license", "(III)I"⟩
abbrev cX4_setQuiet : ByteArray := prog_1_method_8_code
def yX4_setQuiet : MethodName := ⟨RX4, "setQuiet", "(III)Z"⟩
abbrev cX4_lay : ByteArray := prog_1_method_9_code
def yX4_lay : MethodName := ⟨RX4, "lay", "(IIII)I"⟩
abbrev cX4_press : ByteArray := prog_1_method_10_code
def yX4_press : MethodName := ⟨RX4, "press", "(II)I"⟩
abbrev cX4_fault : ByteArray := prog_1_method_11_code
def yX4_fault : MethodName := ⟨RX4, "fault", "(I)I"⟩
abbrev cX4_repair : ByteArray := prog_1_method_12_code
def yX4_repair : MethodName := ⟨RX4, "repair", "(I)I"⟩
abbrev cX4_pass : ByteArray := prog_1_method_13_code
def yX4_pass : MethodName := ⟨RX4, "pass", "(I)I"⟩
abbrev cX4_time : ByteArray := prog_1_method_14_code
def yX4_time : MethodName := ⟨RX4, "time", "()I"⟩
abbrev cX4_ringing : ByteArray := prog_1_method_15_code
def yX4_ringing : MethodName := ⟨RX4, "ringing", "(I)I"⟩
abbrev cX4_isSound : ByteArray := prog_1_method_16_code
def yX4_isSound : MethodName := ⟨RX4, "isSound", "(I)Z"⟩
abbrev cX4_ringsLeft : ByteArray := prog_1_method_17_code
def yX4_ringsLeft : MethodName := ⟨RX4, "ringsLeft", "(II)I"⟩
abbrev cX4_points : ByteArray := prog_1_method_18_code
def yX4_points : MethodName := ⟨RX4, "points", "(I)I"⟩
abbrev cX4_secondsRung : ByteArray := prog_1_method_19_code
def yX4_secondsRung : MethodName := ⟨RX4, "secondsRung", "(I)I"⟩
abbrev cX4_quietBroken : ByteArray := prog_1_method_20_code
def yX4_quietBroken : MethodName := ⟨RX4, "quietBroken", "(I)I"⟩
abbrev cX4_hushed : ByteArray := prog_1_method_21_code
def yX4_hushed : MethodName := ⟨RX4, "hushed", "(I)I"⟩
abbrev cX4_faults : ByteArray := prog_1_method_22_code
def yX4_faults : MethodName := ⟨RX4, "faults", "()I"⟩
abbrev cX4_faultAt : ByteArray := prog_1_method_23_code
def yX4_faultAt : MethodName := ⟨RX4, "faultAt", "(I)I"⟩
abbrev cX4_checkHouse : ByteArray := prog_1_method_24_code
def yX4_checkHouse : MethodName := ⟨RX4, "checkHouse", "(I)V"⟩
abbrev cX4_houseAt : ByteArray := prog_1_method_25_code
def yX4_houseAt : MethodName := ⟨RX4, "houseAt", "(I)LBellStreet$House;"⟩
abbrev cX4_bellAt : ByteArray := prog_1_method_26_code
def yX4_bellAt : MethodName := ⟨RX4, "bellAt", "(II)LBellStreet$Bell;"⟩
abbrev cX4_melodyAt : ByteArray := prog_1_method_27_code
def yX4_melodyAt : MethodName := ⟨RX4, "melodyAt", "(I)LBellStreet$Melody;"⟩
abbrev cX4_nextChange : ByteArray := prog_1_method_28_code
def yX4_nextChange : MethodName := ⟨RX4, "nextChange", "(I)I"⟩
abbrev cX4_passStretch : ByteArray := prog_1_method_29_code
def yX4_passStretch : MethodName := ⟨RX4, "passStretch", "(I)V"⟩
def RX5 : String := "BellStreetModel"
def TX5 : u_T := fun k => match k with
  | _ => ("", "", "", false)
def tyX5 : Nat → FieldType := fun k => match k with
  | _ => .int
abbrev wsX50 : List Cond := u_ws RX5 TX5 0
theorem nmX5 : ∀ a, a < 0 → ∀ b, b < 0 → a ≠ b → (TX5 a).2.1 ≠ (TX5 b).2.1 := by decide +kernel
theorem tyX5_ok : ∀ k, k < 0 → parseFieldDescriptor (TX5 k).2.2.1 = some (tyX5 k) := by decide +kernel
def RJ9 : String := "java/lang/Math"
def TJ9 : u_T := fun k => match k with
  | _ => ("", "", "", false)
def tyJ9 : Nat → FieldType := fun k => match k with
  | _ => .int
abbrev wsJ90 : List Cond := u_ws RJ9 TJ9 0
theorem nmJ9 : ∀ a, a < 0 → ∀ b, b < 0 → a ≠ b → (TJ9 a).2.1 ≠ (TJ9 b).2.1 := by decide +kernel
theorem tyJ9_ok : ∀ k, k < 0 → parseFieldDescriptor (TJ9 k).2.2.1 = some (tyJ9 k) := by decide +kernel
abbrev cJ9_max_7cf53 : ByteArray := prog_12_method_65_code
def yJ9_max_7cf53 : MethodName := ⟨RJ9, "max", "(II)I"⟩
abbrev cJ9_min_7cf53 : ByteArray := prog_12_method_69_code
def yJ9_min_7cf53 : MethodName := ⟨RJ9, "min", "(II)I"⟩
def RJ0 : String := "java/lang/String"
def TJ0 : u_T := fun k => match k with
  | _ => ("", "", "", false)
def tyJ0 : Nat → FieldType := fun k => match k with
  | _ => .int
abbrev wsJ00 : List Cond := u_ws RJ0 TJ0 0
theorem nmJ0 : ∀ a, a < 0 → ∀ b, b < 0 → a ≠ b → (TJ0 a).2.1 ≠ (TJ0 b).2.1 := by decide +kernel
theorem tyJ0_ok : ∀ k, k < 0 → parseFieldDescriptor (TJ0 k).2.2.1 = some (tyJ0 k) := by decide +kernel
def RL : String := "BellStreetLaw"
abbrev cL_low : ByteArray := method_2_code
def yL_low : MethodName := ⟨RL, "low", "(II)I"⟩
abbrev cL_cell : ByteArray := method_3_code
def yL_cell : MethodName := ⟨RL, "cell", "([II)I"⟩
abbrev cL_melody : ByteArray := method_4_code
def yL_melody : MethodName := ⟨RL, "melody", "(LBellStreet;IIJ)I"⟩
abbrev cL_license : ByteArray := method_5_code
def yL_license : MethodName := ⟨RL, "license", "(LBellStreet;III)I"⟩
abbrev cL_press : ByteArray := method_6_code
def yL_press : MethodName := ⟨RL, "press", "(LBellStreet;II)I"⟩
abbrev cL_fault : ByteArray := method_7_code
def yL_fault : MethodName := ⟨RL, "fault", "(LBellStreet;I)I"⟩
abbrev cL_repair : ByteArray := method_8_code
def yL_repair : MethodName := ⟨RL, "repair", "(LBellStreet;I)I"⟩
abbrev cL_bits : ByteArray := method_9_code
def yL_bits : MethodName := ⟨RL, "bits", "(I)I"⟩
abbrev cL_holds : ByteArray := method_10_code
def yL_holds : MethodName := ⟨RL, "holds", "(LBellStreet;)Z"⟩
abbrev cL_melodies : ByteArray := method_11_code
def yL_melodies : MethodName := ⟨RL, "melodies", "(LBellStreet;IIJI)Z"⟩
abbrev cL_presses : ByteArray := method_12_code
def yL_presses : MethodName := ⟨RL, "presses", "(LBellStreet;II)Z"⟩
abbrev cL_faulty : ByteArray := method_13_code
def yL_faulty : MethodName := ⟨RL, "faulty", "(LBellStreet;I)Z"⟩
abbrev cL_law : ByteArray := code
def yL_law : MethodName := ⟨RL, "law", "([I)Z"⟩
def wsX0_init : List Cond := .code yX0_init cX0_init 1 none :: ([.methodLink RX0 1 objectInit, .instanceMethod objectInit, .code objectInit ⟨#[0xb1]⟩ 1 none, .fieldLink RX0 7 "BellStreet$Bell" "melody" "LBellStreet$Melody;", .fieldLink RX0 13 "BellStreet$Bell" "load" "I", .fieldLink RX0 17 "BellStreet$Bell" "isRinging" "Z", .fieldLink RX0 21 "BellStreet$Bell" "stopsAt" "I"] ++ wsX00)
def wsX0_ringUntil : List Cond := .code yX0_ringUntil cX0_ringUntil 2 none :: ([.fieldLink RX0 17 "BellStreet$Bell" "isRinging" "Z", .fieldLink RX0 21 "BellStreet$Bell" "stopsAt" "I"] ++ wsX00)
def wsX1_init : List Cond := .code yX1_init cX1_init 1 none :: ([.methodLink RX1 1 objectInit, .instanceMethod objectInit, .code objectInit ⟨#[0xb1]⟩ 1 none, .fieldLink RX1 7 "BellStreet$Crew" "goal" "LBellStreet$House;", .fieldLink RX1 13 "BellStreet$Crew" "doneAt" "I"] ++ wsX10)
def wsX1_finish : List Cond := .code yX1_finish cX1_finish 2 none :: ([.fieldLink RX1 7 "BellStreet$Crew" "goal" "LBellStreet$House;", .fieldLink RX1 13 "BellStreet$Crew" "doneAt" "I"] ++ wsX10 ++ wsX20)
def wsX2_init_r1 : List Cond := [Cond.methodLink RX2 3 objectInit, Cond.instanceMethod objectInit, Cond.code objectInit ⟨#[0xb1]⟩ 1 none, Cond.classLink RX2 9 RX0, Cond.fieldLink RX2 11 "BellStreet$House" "bells" "[LBellStreet$Bell;", Cond.arrayClass .int, Cond.fieldLink RX2 17 "BellStreet$House" "rights" "[I", Cond.fieldLink RX2 21 "BellStreet$House" "sound" "Z", Cond.fieldLink RX2 25 "BellStreet$House" "quietFrom" "I", Cond.fieldLink RX2 29 "BellStreet$House" "quietTo" "I", Cond.fieldLink RX2 32 "BellStreet$House" "score" "I", Cond.fieldLink RX2 35 "BellStreet$House" "rungSeconds" "I", Cond.fieldLink RX2 38 "BellStreet$House" "rungQuietSeconds" "I", Cond.fieldLink RX2 41 "BellStreet$House" "hushedPresses" "I", Cond.fieldLink RX2 44 "BellStreet$House" "faultsOfTheDay" "I", Cond.fieldLink RX2 47 "BellStreet$House" "keptQuietToday" "Z", Cond.fieldLink RX2 50 "BellStreet$House" "number" "I", Cond.fieldLink RX2 53 "BellStreet$House" "street" "I", Cond.instantiable RX0 4, Cond.initialized RX0, Cond.instanceMethod yX0_init, Cond.code yX0_init cX0_init 1 none, Cond.methodLink RX0 1 objectInit, Cond.fieldLink RX0 7 "BellStreet$Bell" "melody" "LBellStreet$Melody;"]
def wsX2_init_r2 : List Cond := [Cond.fieldLink RX0 13 "BellStreet$Bell" "load" "I", Cond.fieldLink RX0 17 "BellStreet$Bell" "isRinging" "Z", Cond.fieldLink RX0 21 "BellStreet$Bell" "stopsAt" "I"]
def wsX2_init : List Cond := .code yX2_init cX2_init 3 none :: ((wsX2_init_r1 ++ wsX2_init_r2) ++ wsX20 ++ wsX00)
def wsX2_shared : List Cond := .code yX2_shared cX2_shared 4 (some .int) :: ([.methodLink RX2 65 Lib.Math.min.name, .static Lib.Math.min.name, .initialized "java/lang/Math", .code Lib.Math.min.name Lib.Math.min.code 2 (some .int), .methodLink RX2 70 Lib.Math.max.name, .static Lib.Math.max.name, .code Lib.Math.max.name Lib.Math.max.code 2 (some .int)])
def wsX2_quietSeconds : List Cond := .code yX2_quietSeconds cX2_quietSeconds 5 (some .int) :: ([.fieldLink RX2 25 "BellStreet$House" "quietFrom" "I", .fieldLink RX2 29 "BellStreet$House" "quietTo" "I", .methodLink RX2 61 yX2_shared, .static yX2_shared, .initialized RX2, .code yX2_shared cX2_shared 4 (some .int), .methodLink RX2 65 Lib.Math.min.name, .static Lib.Math.min.name, .initialized "java/lang/Math", .code Lib.Math.min.name Lib.Math.min.code 2 (some .int), .methodLink RX2 70 Lib.Math.max.name, .static Lib.Math.max.name, .code Lib.Math.max.name Lib.Math.max.code 2 (some .int)] ++ wsX20)
def wsX2_isQuietAt : List Cond := .code yX2_isQuietAt cX2_isQuietAt 2 (some .boolean) :: ([.methodLink RX2 57 yX2_quietSeconds, .instanceMethod yX2_quietSeconds, .selects RX2 yX2_quietSeconds yX2_quietSeconds, .initialized RX2, .code yX2_quietSeconds cX2_quietSeconds 5 (some .int), .fieldLink RX2 25 "BellStreet$House" "quietFrom" "I", .fieldLink RX2 29 "BellStreet$House" "quietTo" "I", .methodLink RX2 61 yX2_shared, .static yX2_shared, .code yX2_shared cX2_shared 4 (some .int), .methodLink RX2 65 Lib.Math.min.name, .static Lib.Math.min.name, .initialized "java/lang/Math", .code Lib.Math.min.name Lib.Math.min.code 2 (some .int), .methodLink RX2 70 Lib.Math.max.name, .static Lib.Math.max.name, .code Lib.Math.max.name Lib.Math.max.code 2 (some .int)] ++ wsX20)
def wsX2_mayRing : List Cond := .code yX2_mayRing cX2_mayRing 2 (some .boolean) :: ([.fieldLink RX2 50 "BellStreet$House" "number" "I", .fieldLink RX2 17 "BellStreet$House" "rights" "[I"] ++ wsX30 ++ wsX20)
def wsX2_useRight : List Cond := .code yX2_useRight cX2_useRight 2 none :: ([.fieldLink RX2 50 "BellStreet$House" "number" "I", .fieldLink RX2 17 "BellStreet$House" "rights" "[I"] ++ wsX30 ++ wsX20)
def wsX2_ringingSet : List Cond := .code yX2_ringingSet cX2_ringingSet 3 (some .int) :: ([.fieldLink RX2 11 "BellStreet$House" "bells" "[LBellStreet$Bell;"] ++ wsX20 ++ wsX00)
def wsX2_ringingLoad : List Cond := .code yX2_ringingLoad cX2_ringingLoad 6 (some .int) :: ([.fieldLink RX2 11 "BellStreet$House" "bells" "[LBellStreet$Bell;"] ++ wsX20 ++ wsX00)
def wsX3_lasts : List Cond := .code yX3_lasts cX3_lasts 1 (some .int) :: ([.fieldLink RX3 18 "BellStreet$Melody" "count" "I"] ++ wsX30)
def wsX2_startBells : List Cond := .code yX2_startBells cX2_startBells 7 (some .int) :: ([.fieldLink RX2 11 "BellStreet$House" "bells" "[LBellStreet$Bell;", .methodLink RX2 89 yX3_lasts, .instanceMethod yX3_lasts, .selects RX3 yX3_lasts yX3_lasts, .initialized RX3, .code yX3_lasts cX3_lasts 1 (some .int), .fieldLink RX3 18 "BellStreet$Melody" "count" "I", .methodLink RX2 93 yX0_ringUntil, .instanceMethod yX0_ringUntil, .selects RX0 yX0_ringUntil yX0_ringUntil, .initialized RX0, .code yX0_ringUntil cX0_ringUntil 2 none, .fieldLink RX0 17 "BellStreet$Bell" "isRinging" "Z", .fieldLink RX0 21 "BellStreet$Bell" "stopsAt" "I"] ++ wsX20 ++ wsX00 ++ wsX30)
def wsX2_breakDown : List Cond := .code yX2_breakDown cX2_breakDown 5 none :: ([.fieldLink RX2 21 "BellStreet$House" "sound" "Z", .fieldLink RX2 11 "BellStreet$House" "bells" "[LBellStreet$Bell;"] ++ wsX20 ++ wsX00)
def wsX2_firstStop : List Cond := .code yX2_firstStop cX2_firstStop 7 (some .int) :: ([.fieldLink RX2 11 "BellStreet$House" "bells" "[LBellStreet$Bell;"] ++ wsX20 ++ wsX00)
def wsX2_stopEndedBells : List Cond := .code yX2_stopEndedBells cX2_stopEndedBells 6 none :: ([.fieldLink RX2 11 "BellStreet$House" "bells" "[LBellStreet$Bell;"] ++ wsX20 ++ wsX00)
def wsX2_spend_r1 : List Cond := [Cond.fieldLink RX2 35 "BellStreet$House" "rungSeconds" "I", Cond.fieldLink RX2 38 "BellStreet$House" "rungQuietSeconds" "I", Cond.fieldLink RX2 47 "BellStreet$House" "keptQuietToday" "Z", Cond.methodLink RX2 100 yX2_ringingSet, Cond.instanceMethod yX2_ringingSet, Cond.selects RX2 yX2_ringingSet yX2_ringingSet, Cond.initialized RX2, Cond.code yX2_ringingSet cX2_ringingSet 3 (some .int), Cond.fieldLink RX2 11 "BellStreet$House" "bells" "[LBellStreet$Bell;", Cond.methodLink RX2 57 yX2_quietSeconds, Cond.instanceMethod yX2_quietSeconds, Cond.selects RX2 yX2_quietSeconds yX2_quietSeconds, Cond.code yX2_quietSeconds cX2_quietSeconds 5 (some .int), Cond.fieldLink RX2 25 "BellStreet$House" "quietFrom" "I", Cond.fieldLink RX2 29 "BellStreet$House" "quietTo" "I", Cond.methodLink RX2 61 yX2_shared, Cond.static yX2_shared, Cond.code yX2_shared cX2_shared 4 (some .int), Cond.methodLink RX2 65 Lib.Math.min.name, Cond.static Lib.Math.min.name, Cond.initialized "java/lang/Math", Cond.code Lib.Math.min.name Lib.Math.min.code 2 (some .int), Cond.methodLink RX2 70 Lib.Math.max.name, Cond.static Lib.Math.max.name]
def wsX2_spend_r2 : List Cond := [Cond.code Lib.Math.max.name Lib.Math.max.code 2 (some .int)]
def wsX2_spend : List Cond := .code yX2_spend cX2_spend 4 none :: ((wsX2_spend_r1 ++ wsX2_spend_r2) ++ wsX20 ++ wsX00)
def wsX2_closeDay : List Cond := .code yX2_closeDay cX2_closeDay 1 none :: ([.fieldLink RX2 47 "BellStreet$House" "keptQuietToday" "Z", .fieldLink RX2 32 "BellStreet$House" "score" "I", .fieldLink RX2 44 "BellStreet$House" "faultsOfTheDay" "I"] ++ wsX20)
def wsX3_init : List Cond := .code yX3_init cX3_init 6 none :: ([.methodLink RX3 3 objectInit, .instanceMethod objectInit, .code objectInit ⟨#[0xb1]⟩ 1 none, .fieldLink RX3 9 "BellStreet$Melody" "number" "I", .fieldLink RX3 15 "BellStreet$Melody" "owner" "I", .fieldLink RX3 18 "BellStreet$Melody" "count" "I", .fieldLink RX3 21 "BellStreet$Melody" "tones" "J"] ++ wsX30)
def wsX3_tone : List Cond := .code yX3_tone cX3_tone 2 (some .int) :: ([.fieldLink RX3 21 "BellStreet$Melody" "tones" "J"] ++ wsX30)
def wsX3_tonesShifted : List Cond := .code yX3_tonesShifted cX3_tonesShifted 5 (some .long) :: ([.fieldLink RX3 18 "BellStreet$Melody" "count" "I", .methodLink RX3 25 yX3_tone, .instanceMethod yX3_tone, .selects RX3 yX3_tone yX3_tone, .initialized RX3, .code yX3_tone cX3_tone 2 (some .int), .fieldLink RX3 21 "BellStreet$Melody" "tones" "J"] ++ wsX30)
def wsX3_tonesTurned : List Cond := .code yX3_tonesTurned cX3_tonesTurned 4 (some .long) :: ([.fieldLink RX3 18 "BellStreet$Melody" "count" "I", .methodLink RX3 25 yX3_tone, .instanceMethod yX3_tone, .selects RX3 yX3_tone yX3_tone, .initialized RX3, .code yX3_tone cX3_tone 2 (some .int), .fieldLink RX3 21 "BellStreet$Melody" "tones" "J"] ++ wsX30)
def wsX3_isShiftOf : List Cond := .code yX3_isShiftOf cX3_isShiftOf 3 (some .boolean) :: ([.fieldLink RX3 18 "BellStreet$Melody" "count" "I", .fieldLink RX3 21 "BellStreet$Melody" "tones" "J", .methodLink RX3 25 yX3_tone, .instanceMethod yX3_tone, .selects RX3 yX3_tone yX3_tone, .initialized RX3, .code yX3_tone cX3_tone 2 (some .int), .methodLink RX3 29 yX3_tonesShifted, .instanceMethod yX3_tonesShifted, .selects RX3 yX3_tonesShifted yX3_tonesShifted, .code yX3_tonesShifted cX3_tonesShifted 5 (some .long)] ++ wsX30)
def wsX4_init_r1 : List Cond := [Cond.methodLink RX4 1 objectInit, Cond.instanceMethod objectInit, Cond.code objectInit ⟨#[0xb1]⟩ 1 none, Cond.classLink RX4 9 RX2, Cond.fieldLink RX4 11 "BellStreet" "houses" "[LBellStreet$House;", Cond.classLink RX4 15 RX1, Cond.fieldLink RX4 17 "BellStreet" "crews" "[LBellStreet$Crew;", Cond.classLink RX4 21 RX3, Cond.fieldLink RX4 23 "BellStreet" "melodies" "[LBellStreet$Melody;", Cond.arrayClass .int, Cond.fieldLink RX4 27 "BellStreet" "toldFaults" "[I", Cond.fieldLink RX4 31 "BellStreet" "melodyCount" "I", Cond.fieldLink RX4 35 "BellStreet" "faultCount" "I", Cond.fieldLink RX4 38 "BellStreet" "now" "I", Cond.instantiable RX2 13, Cond.initialized RX2, Cond.instantiable RX1 2, Cond.initialized RX1, Cond.methodLink RX4 41 yX2_init, Cond.instanceMethod yX2_init, Cond.code yX2_init cX2_init 3 none, Cond.methodLink RX2 3 objectInit, Cond.classLink RX2 9 RX0, Cond.fieldLink RX2 11 "BellStreet$House" "bells" "[LBellStreet$Bell;"]
def wsX4_init_r2 : List Cond := [Cond.fieldLink RX2 17 "BellStreet$House" "rights" "[I", Cond.fieldLink RX2 21 "BellStreet$House" "sound" "Z", Cond.fieldLink RX2 25 "BellStreet$House" "quietFrom" "I", Cond.fieldLink RX2 29 "BellStreet$House" "quietTo" "I", Cond.fieldLink RX2 32 "BellStreet$House" "score" "I", Cond.fieldLink RX2 35 "BellStreet$House" "rungSeconds" "I", Cond.fieldLink RX2 38 "BellStreet$House" "rungQuietSeconds" "I", Cond.fieldLink RX2 41 "BellStreet$House" "hushedPresses" "I", Cond.fieldLink RX2 44 "BellStreet$House" "faultsOfTheDay" "I", Cond.fieldLink RX2 47 "BellStreet$House" "keptQuietToday" "Z", Cond.fieldLink RX2 50 "BellStreet$House" "number" "I", Cond.fieldLink RX2 53 "BellStreet$House" "street" "I", Cond.instantiable RX0 4, Cond.initialized RX0, Cond.instanceMethod yX0_init, Cond.code yX0_init cX0_init 1 none, Cond.methodLink RX0 1 objectInit, Cond.fieldLink RX0 7 "BellStreet$Bell" "melody" "LBellStreet$Melody;", Cond.fieldLink RX0 13 "BellStreet$Bell" "load" "I", Cond.fieldLink RX0 17 "BellStreet$Bell" "isRinging" "Z", Cond.fieldLink RX0 21 "BellStreet$Bell" "stopsAt" "I", Cond.instanceMethod yX1_init, Cond.code yX1_init cX1_init 1 none, Cond.methodLink RX1 1 objectInit]
def wsX4_init_r3 : List Cond := [Cond.fieldLink RX1 7 "BellStreet$Crew" "goal" "LBellStreet$House;", Cond.fieldLink RX1 13 "BellStreet$Crew" "doneAt" "I"]
def wsX4_init : List Cond := .code yX4_init cX4_init 2 none :: ((wsX4_init_r1 ++ (wsX4_init_r2 ++ wsX4_init_r3)) ++ wsX40 ++ wsX20 ++ wsX10 ++ wsX00)
def wsX4_checkHouse : List Cond := .code yX4_checkHouse cX4_checkHouse 2 none :: ([.classLink RX4 72 "java/lang/IndexOutOfBoundsException", .initialized "java/lang/IndexOutOfBoundsException"] ++ (vx_atS RX4 76 "java/lang/IndexOutOfBoundsException" ["java/lang/RuntimeException", "java/lang/Exception"]).filter goodWord)
def wsX4_addMelody_r1 : List Cond := [Cond.classLink RX4 48 "java/lang/IllegalArgumentException", Cond.initialized "java/lang/IllegalArgumentException", Cond.classLink RX4 57 "java/lang/IllegalStateException", Cond.initialized "java/lang/IllegalStateException", Cond.fieldLink RX4 31 "BellStreet" "melodyCount" "I", Cond.fieldLink RX4 23 "BellStreet" "melodies" "[LBellStreet$Melody;", Cond.classLink RX4 21 RX3, Cond.instantiable RX3 4, Cond.initialized RX3, Cond.methodLink RX4 45 yX4_checkHouse, Cond.instanceMethod yX4_checkHouse, Cond.selects RX4 yX4_checkHouse yX4_checkHouse, Cond.initialized RX4, Cond.code yX4_checkHouse cX4_checkHouse 2 none, Cond.classLink RX4 72 "java/lang/IndexOutOfBoundsException", Cond.initialized "java/lang/IndexOutOfBoundsException", Cond.methodLink RX4 62 yX3_init, Cond.instanceMethod yX3_init, Cond.code yX3_init cX3_init 6 none, Cond.methodLink RX3 3 objectInit, Cond.instanceMethod objectInit, Cond.code objectInit ⟨#[0xb1]⟩ 1 none, Cond.fieldLink RX3 9 "BellStreet$Melody" "number" "I", Cond.fieldLink RX3 15 "BellStreet$Melody" "owner" "I"]
def wsX4_addMelody_r2 : List Cond := [Cond.fieldLink RX3 18 "BellStreet$Melody" "count" "I", Cond.fieldLink RX3 21 "BellStreet$Melody" "tones" "J"]
def wsX4_addMelody : List Cond := .code yX4_addMelody cX4_addMelody 6 (some .int) :: ((wsX4_addMelody_r1 ++ wsX4_addMelody_r2) ++ wsX40 ++ wsX30 ++ (vx_atS RX4 52 "java/lang/IllegalArgumentException" ["java/lang/RuntimeException", "java/lang/Exception"]).filter goodWord ++ (vx_atS RX4 61 "java/lang/IllegalStateException" ["java/lang/RuntimeException", "java/lang/Exception"]).filter goodWord ++ (vx_atS RX4 76 "java/lang/IndexOutOfBoundsException" ["java/lang/RuntimeException", "java/lang/Exception"]).filter goodWord)
def wsX4_melodyAt : List Cond := .code yX4_melodyAt cX4_melodyAt 3 (some (.object "BellStreet$Melody")) :: ([.classLink RX4 72 "java/lang/IndexOutOfBoundsException", .initialized "java/lang/IndexOutOfBoundsException", .fieldLink RX4 23 "BellStreet" "melodies" "[LBellStreet$Melody;"] ++ wsX40 ++ (vx_atS RX4 76 "java/lang/IndexOutOfBoundsException" ["java/lang/RuntimeException", "java/lang/Exception"]).filter goodWord)
def wsX4_toneAt : List Cond := .code yX4_toneAt cX4_toneAt 4 (some .int) :: ([.classLink RX4 72 "java/lang/IndexOutOfBoundsException", .initialized "java/lang/IndexOutOfBoundsException", .methodLink RX4 65 yX4_melodyAt, .instanceMethod yX4_melodyAt, .selects RX4 yX4_melodyAt yX4_melodyAt, .initialized RX4, .code yX4_melodyAt cX4_melodyAt 3 (some (.object "BellStreet$Melody")), .fieldLink RX4 23 "BellStreet" "melodies" "[LBellStreet$Melody;", .methodLink RX4 77 yX3_tone, .instanceMethod yX3_tone, .selects RX3 yX3_tone yX3_tone, .initialized RX3, .code yX3_tone cX3_tone 2 (some .int), .fieldLink RX3 21 "BellStreet$Melody" "tones" "J"] ++ wsX30 ++ wsX40 ++ (vx_atS RX4 76 "java/lang/IndexOutOfBoundsException" ["java/lang/RuntimeException", "java/lang/Exception"]).filter goodWord)
def wsX4_shifted : List Cond := .code yX4_shifted cX4_shifted 4 (some .long) :: ([.classLink RX4 48 "java/lang/IllegalArgumentException", .initialized "java/lang/IllegalArgumentException", .methodLink RX4 65 yX4_melodyAt, .instanceMethod yX4_melodyAt, .selects RX4 yX4_melodyAt yX4_melodyAt, .initialized RX4, .code yX4_melodyAt cX4_melodyAt 3 (some (.object "BellStreet$Melody")), .classLink RX4 72 "java/lang/IndexOutOfBoundsException", .initialized "java/lang/IndexOutOfBoundsException", .fieldLink RX4 23 "BellStreet" "melodies" "[LBellStreet$Melody;", .methodLink RX4 83 yX3_tonesShifted, .instanceMethod yX3_tonesShifted, .selects RX3 yX3_tonesShifted yX3_tonesShifted, .initialized RX3, .code yX3_tonesShifted cX3_tonesShifted 5 (some .long), .fieldLink RX3 18 "BellStreet$Melody" "count" "I", .methodLink RX3 25 yX3_tone, .instanceMethod yX3_tone, .selects RX3 yX3_tone yX3_tone, .code yX3_tone cX3_tone 2 (some .int), .fieldLink RX3 21 "BellStreet$Melody" "tones" "J"] ++ wsX40 ++ wsX30 ++ (vx_atS RX4 52 "java/lang/IllegalArgumentException" ["java/lang/RuntimeException", "java/lang/Exception"]).filter goodWord ++ (vx_atS RX4 76 "java/lang/IndexOutOfBoundsException" ["java/lang/RuntimeException", "java/lang/Exception"]).filter goodWord)
def wsX4_turned : List Cond := .code yX4_turned cX4_turned 2 (some .long) :: ([.methodLink RX4 65 yX4_melodyAt, .instanceMethod yX4_melodyAt, .selects RX4 yX4_melodyAt yX4_melodyAt, .initialized RX4, .code yX4_melodyAt cX4_melodyAt 3 (some (.object "BellStreet$Melody")), .classLink RX4 72 "java/lang/IndexOutOfBoundsException", .initialized "java/lang/IndexOutOfBoundsException", .fieldLink RX4 23 "BellStreet" "melodies" "[LBellStreet$Melody;", .methodLink RX4 87 yX3_tonesTurned, .instanceMethod yX3_tonesTurned, .selects RX3 yX3_tonesTurned yX3_tonesTurned, .initialized RX3, .code yX3_tonesTurned cX3_tonesTurned 4 (some .long), .fieldLink RX3 18 "BellStreet$Melody" "count" "I", .methodLink RX3 25 yX3_tone, .instanceMethod yX3_tone, .selects RX3 yX3_tone yX3_tone, .code yX3_tone cX3_tone 2 (some .int), .fieldLink RX3 21 "BellStreet$Melody" "tones" "J"] ++ wsX40 ++ wsX30 ++ (vx_atS RX4 76 "java/lang/IndexOutOfBoundsException" ["java/lang/RuntimeException", "java/lang/Exception"]).filter goodWord)
def wsX4_areAlike : List Cond := .code yX4_areAlike cX4_areAlike 3 (some .boolean) :: ([.methodLink RX4 65 yX4_melodyAt, .instanceMethod yX4_melodyAt, .selects RX4 yX4_melodyAt yX4_melodyAt, .initialized RX4, .code yX4_melodyAt cX4_melodyAt 3 (some (.object "BellStreet$Melody")), .classLink RX4 72 "java/lang/IndexOutOfBoundsException", .initialized "java/lang/IndexOutOfBoundsException", .fieldLink RX4 23 "BellStreet" "melodies" "[LBellStreet$Melody;", .methodLink RX4 91 yX3_isShiftOf, .instanceMethod yX3_isShiftOf, .selects RX3 yX3_isShiftOf yX3_isShiftOf, .initialized RX3, .code yX3_isShiftOf cX3_isShiftOf 3 (some .boolean), .fieldLink RX3 18 "BellStreet$Melody" "count" "I", .fieldLink RX3 21 "BellStreet$Melody" "tones" "J", .methodLink RX3 25 yX3_tone, .instanceMethod yX3_tone, .selects RX3 yX3_tone yX3_tone, .code yX3_tone cX3_tone 2 (some .int), .methodLink RX3 29 yX3_tonesShifted, .instanceMethod yX3_tonesShifted, .selects RX3 yX3_tonesShifted yX3_tonesShifted, .code yX3_tonesShifted cX3_tonesShifted 5 (some .long)] ++ wsX40 ++ wsX30 ++ (vx_atS RX4 76 "java/lang/IndexOutOfBoundsException" ["java/lang/RuntimeException", "java/lang/Exception"]).filter goodWord)
def wsX4_houseAt : List Cond := .code yX4_houseAt cX4_houseAt 2 (some (.object "BellStreet$House")) :: ([.fieldLink RX4 11 "BellStreet" "houses" "[LBellStreet$House;", .methodLink RX4 45 yX4_checkHouse, .instanceMethod yX4_checkHouse, .selects RX4 yX4_checkHouse yX4_checkHouse, .initialized RX4, .code yX4_checkHouse cX4_checkHouse 2 none, .classLink RX4 72 "java/lang/IndexOutOfBoundsException", .initialized "java/lang/IndexOutOfBoundsException"] ++ wsX40 ++ (vx_atS RX4 76 "java/lang/IndexOutOfBoundsException" ["java/lang/RuntimeException", "java/lang/Exception"]).filter goodWord)
def wsX4_license : List Cond := .code yX4_license cX4_license 6 (some .int) :: ([.classLink RX4 48 "java/lang/IllegalArgumentException", .initialized "java/lang/IllegalArgumentException", .classLink RX4 57 "java/lang/IllegalStateException", .initialized "java/lang/IllegalStateException", .methodLink RX4 95 yX4_houseAt, .instanceMethod yX4_houseAt, .selects RX4 yX4_houseAt yX4_houseAt, .initialized RX4, .code yX4_houseAt cX4_houseAt 2 (some (.object "BellStreet$House")), .fieldLink RX4 11 "BellStreet" "houses" "[LBellStreet$House;", .methodLink RX4 45 yX4_checkHouse, .instanceMethod yX4_checkHouse, .selects RX4 yX4_checkHouse yX4_checkHouse, .code yX4_checkHouse cX4_checkHouse 2 none, .classLink RX4 72 "java/lang/IndexOutOfBoundsException", .initialized "java/lang/IndexOutOfBoundsException", .methodLink RX4 65 yX4_melodyAt, .instanceMethod yX4_melodyAt, .selects RX4 yX4_melodyAt yX4_melodyAt, .code yX4_melodyAt cX4_melodyAt 3 (some (.object "BellStreet$Melody")), .fieldLink RX4 23 "BellStreet" "melodies" "[LBellStreet$Melody;"] ++ wsX30 ++ wsX20 ++ wsX40 ++ (vx_atS RX4 52 "java/lang/IllegalArgumentException" ["java/lang/RuntimeException", "java/lang/Exception"]).filter goodWord ++ (vx_atS RX4 61 "java/lang/IllegalStateException" ["java/lang/RuntimeException", "java/lang/Exception"]).filter goodWord ++ (vx_atS RX4 76 "java/lang/IndexOutOfBoundsException" ["java/lang/RuntimeException", "java/lang/Exception"]).filter goodWord)
def wsX4_setQuiet_r1 : List Cond := [Cond.classLink RX4 48 "java/lang/IllegalArgumentException", Cond.initialized "java/lang/IllegalArgumentException", Cond.fieldLink RX4 38 "BellStreet" "now" "I", Cond.methodLink RX4 95 yX4_houseAt, Cond.instanceMethod yX4_houseAt, Cond.selects RX4 yX4_houseAt yX4_houseAt, Cond.initialized RX4, Cond.code yX4_houseAt cX4_houseAt 2 (some (.object "BellStreet$House")), Cond.fieldLink RX4 11 "BellStreet" "houses" "[LBellStreet$House;", Cond.methodLink RX4 45 yX4_checkHouse, Cond.instanceMethod yX4_checkHouse, Cond.selects RX4 yX4_checkHouse yX4_checkHouse, Cond.code yX4_checkHouse cX4_checkHouse 2 none, Cond.classLink RX4 72 "java/lang/IndexOutOfBoundsException", Cond.initialized "java/lang/IndexOutOfBoundsException", Cond.methodLink RX4 119 yX2_isQuietAt, Cond.instanceMethod yX2_isQuietAt, Cond.selects RX2 yX2_isQuietAt yX2_isQuietAt, Cond.initialized RX2, Cond.code yX2_isQuietAt cX2_isQuietAt 2 (some .boolean), Cond.methodLink RX2 57 yX2_quietSeconds, Cond.instanceMethod yX2_quietSeconds, Cond.selects RX2 yX2_quietSeconds yX2_quietSeconds, Cond.code yX2_quietSeconds cX2_quietSeconds 5 (some .int)]
def wsX4_setQuiet_r2 : List Cond := [Cond.fieldLink RX2 25 "BellStreet$House" "quietFrom" "I", Cond.fieldLink RX2 29 "BellStreet$House" "quietTo" "I", Cond.methodLink RX2 61 yX2_shared, Cond.static yX2_shared, Cond.code yX2_shared cX2_shared 4 (some .int), Cond.methodLink RX2 65 Lib.Math.min.name, Cond.static Lib.Math.min.name, Cond.initialized "java/lang/Math", Cond.code Lib.Math.min.name Lib.Math.min.code 2 (some .int), Cond.methodLink RX2 70 Lib.Math.max.name, Cond.static Lib.Math.max.name, Cond.code Lib.Math.max.name Lib.Math.max.code 2 (some .int)]
def wsX4_setQuiet : List Cond := .code yX4_setQuiet cX4_setQuiet 5 (some .boolean) :: ((wsX4_setQuiet_r1 ++ wsX4_setQuiet_r2) ++ wsX20 ++ wsX40 ++ (vx_atS RX4 52 "java/lang/IllegalArgumentException" ["java/lang/RuntimeException", "java/lang/Exception"]).filter goodWord ++ (vx_atS RX4 76 "java/lang/IndexOutOfBoundsException" ["java/lang/RuntimeException", "java/lang/Exception"]).filter goodWord)
def wsX4_bellAt : List Cond := .code yX4_bellAt cX4_bellAt 4 (some (.object "BellStreet$Bell")) :: ([.classLink RX4 72 "java/lang/IndexOutOfBoundsException", .initialized "java/lang/IndexOutOfBoundsException", .methodLink RX4 95 yX4_houseAt, .instanceMethod yX4_houseAt, .selects RX4 yX4_houseAt yX4_houseAt, .initialized RX4, .code yX4_houseAt cX4_houseAt 2 (some (.object "BellStreet$House")), .fieldLink RX4 11 "BellStreet" "houses" "[LBellStreet$House;", .methodLink RX4 45 yX4_checkHouse, .instanceMethod yX4_checkHouse, .selects RX4 yX4_checkHouse yX4_checkHouse, .code yX4_checkHouse cX4_checkHouse 2 none] ++ wsX20 ++ wsX40 ++ (vx_atS RX4 76 "java/lang/IndexOutOfBoundsException" ["java/lang/RuntimeException", "java/lang/Exception"]).filter goodWord)
def wsX4_lay : List Cond := .code yX4_lay cX4_lay 8 (some .int) :: ([.classLink RX4 48 "java/lang/IllegalArgumentException", .initialized "java/lang/IllegalArgumentException", .methodLink RX4 123 yX4_bellAt, .instanceMethod yX4_bellAt, .selects RX4 yX4_bellAt yX4_bellAt, .initialized RX4, .code yX4_bellAt cX4_bellAt 4 (some (.object "BellStreet$Bell")), .classLink RX4 72 "java/lang/IndexOutOfBoundsException", .initialized "java/lang/IndexOutOfBoundsException", .methodLink RX4 95 yX4_houseAt, .instanceMethod yX4_houseAt, .selects RX4 yX4_houseAt yX4_houseAt, .code yX4_houseAt cX4_houseAt 2 (some (.object "BellStreet$House")), .fieldLink RX4 11 "BellStreet" "houses" "[LBellStreet$House;", .methodLink RX4 45 yX4_checkHouse, .instanceMethod yX4_checkHouse, .selects RX4 yX4_checkHouse yX4_checkHouse, .code yX4_checkHouse cX4_checkHouse 2 none, .methodLink RX4 65 yX4_melodyAt, .instanceMethod yX4_melodyAt, .selects RX4 yX4_melodyAt yX4_melodyAt, .code yX4_melodyAt cX4_melodyAt 3 (some (.object "BellStreet$Melody")), .fieldLink RX4 23 "BellStreet" "melodies" "[LBellStreet$Melody;"] ++ wsX00 ++ wsX30 ++ wsX20 ++ wsX40 ++ (vx_atS RX4 52 "java/lang/IllegalArgumentException" ["java/lang/RuntimeException", "java/lang/Exception"]).filter goodWord ++ (vx_atS RX4 76 "java/lang/IndexOutOfBoundsException" ["java/lang/RuntimeException", "java/lang/Exception"]).filter goodWord)
def wsX4_press_r1 : List Cond := [Cond.classLink RX4 57 "java/lang/IllegalStateException", Cond.initialized "java/lang/IllegalStateException", Cond.fieldLink RX4 38 "BellStreet" "now" "I", Cond.methodLink RX4 95 yX4_houseAt, Cond.instanceMethod yX4_houseAt, Cond.selects RX4 yX4_houseAt yX4_houseAt, Cond.initialized RX4, Cond.code yX4_houseAt cX4_houseAt 2 (some (.object "BellStreet$House")), Cond.fieldLink RX4 11 "BellStreet" "houses" "[LBellStreet$House;", Cond.methodLink RX4 45 yX4_checkHouse, Cond.instanceMethod yX4_checkHouse, Cond.selects RX4 yX4_checkHouse yX4_checkHouse, Cond.code yX4_checkHouse cX4_checkHouse 2 none, Cond.classLink RX4 72 "java/lang/IndexOutOfBoundsException", Cond.initialized "java/lang/IndexOutOfBoundsException", Cond.methodLink RX4 123 yX4_bellAt, Cond.instanceMethod yX4_bellAt, Cond.selects RX4 yX4_bellAt yX4_bellAt, Cond.code yX4_bellAt cX4_bellAt 4 (some (.object "BellStreet$Bell")), Cond.methodLink RX4 119 yX2_isQuietAt, Cond.instanceMethod yX2_isQuietAt, Cond.selects RX2 yX2_isQuietAt yX2_isQuietAt, Cond.initialized RX2, Cond.code yX2_isQuietAt cX2_isQuietAt 2 (some .boolean)]
def wsX4_press_r2 : List Cond := [Cond.methodLink RX2 57 yX2_quietSeconds, Cond.instanceMethod yX2_quietSeconds, Cond.selects RX2 yX2_quietSeconds yX2_quietSeconds, Cond.code yX2_quietSeconds cX2_quietSeconds 5 (some .int), Cond.fieldLink RX2 25 "BellStreet$House" "quietFrom" "I", Cond.fieldLink RX2 29 "BellStreet$House" "quietTo" "I", Cond.methodLink RX2 61 yX2_shared, Cond.static yX2_shared, Cond.code yX2_shared cX2_shared 4 (some .int), Cond.methodLink RX2 65 Lib.Math.min.name, Cond.static Lib.Math.min.name, Cond.initialized "java/lang/Math", Cond.code Lib.Math.min.name Lib.Math.min.code 2 (some .int), Cond.methodLink RX2 70 Lib.Math.max.name, Cond.static Lib.Math.max.name, Cond.code Lib.Math.max.name Lib.Math.max.code 2 (some .int), Cond.methodLink RX4 153 yX2_mayRing, Cond.instanceMethod yX2_mayRing, Cond.selects RX2 yX2_mayRing yX2_mayRing, Cond.code yX2_mayRing cX2_mayRing 2 (some .boolean), Cond.fieldLink RX2 50 "BellStreet$House" "number" "I", Cond.fieldLink RX2 17 "BellStreet$House" "rights" "[I", Cond.methodLink RX4 156 yX2_ringingLoad, Cond.instanceMethod yX2_ringingLoad]
def wsX4_press_r3 : List Cond := [Cond.selects RX2 yX2_ringingLoad yX2_ringingLoad, Cond.code yX2_ringingLoad cX2_ringingLoad 6 (some .int), Cond.fieldLink RX2 11 "BellStreet$House" "bells" "[LBellStreet$Bell;", Cond.methodLink RX4 160 yX2_breakDown, Cond.instanceMethod yX2_breakDown, Cond.selects RX2 yX2_breakDown yX2_breakDown, Cond.code yX2_breakDown cX2_breakDown 5 none, Cond.fieldLink RX2 21 "BellStreet$House" "sound" "Z", Cond.methodLink RX4 163 yX2_useRight, Cond.instanceMethod yX2_useRight, Cond.selects RX2 yX2_useRight yX2_useRight, Cond.code yX2_useRight cX2_useRight 2 none, Cond.methodLink RX4 167 yX3_lasts, Cond.instanceMethod yX3_lasts, Cond.selects RX3 yX3_lasts yX3_lasts, Cond.initialized RX3, Cond.code yX3_lasts cX3_lasts 1 (some .int), Cond.fieldLink RX3 18 "BellStreet$Melody" "count" "I", Cond.methodLink RX4 170 yX0_ringUntil, Cond.instanceMethod yX0_ringUntil, Cond.selects RX0 yX0_ringUntil yX0_ringUntil, Cond.initialized RX0, Cond.code yX0_ringUntil cX0_ringUntil 2 none, Cond.fieldLink RX0 17 "BellStreet$Bell" "isRinging" "Z"]
def wsX4_press_r4 : List Cond := [Cond.fieldLink RX0 21 "BellStreet$Bell" "stopsAt" "I"]
def wsX4_press : List Cond := .code yX4_press cX4_press 6 (some .int) :: ((wsX4_press_r1 ++ (wsX4_press_r2 ++ (wsX4_press_r3 ++ wsX4_press_r4))) ++ wsX00 ++ wsX20 ++ wsX40 ++ wsX30 ++ (vx_atS RX4 61 "java/lang/IllegalStateException" ["java/lang/RuntimeException", "java/lang/Exception"]).filter goodWord ++ (vx_atS RX4 76 "java/lang/IndexOutOfBoundsException" ["java/lang/RuntimeException", "java/lang/Exception"]).filter goodWord)
def wsX4_fault_r1 : List Cond := [Cond.classLink RX4 57 "java/lang/IllegalStateException", Cond.initialized "java/lang/IllegalStateException", Cond.fieldLink RX4 35 "BellStreet" "faultCount" "I", Cond.fieldLink RX4 11 "BellStreet" "houses" "[LBellStreet$House;", Cond.fieldLink RX4 38 "BellStreet" "now" "I", Cond.fieldLink RX4 27 "BellStreet" "toldFaults" "[I", Cond.methodLink RX4 95 yX4_houseAt, Cond.instanceMethod yX4_houseAt, Cond.selects RX4 yX4_houseAt yX4_houseAt, Cond.initialized RX4, Cond.code yX4_houseAt cX4_houseAt 2 (some (.object "BellStreet$House")), Cond.methodLink RX4 45 yX4_checkHouse, Cond.instanceMethod yX4_checkHouse, Cond.selects RX4 yX4_checkHouse yX4_checkHouse, Cond.code yX4_checkHouse cX4_checkHouse 2 none, Cond.classLink RX4 72 "java/lang/IndexOutOfBoundsException", Cond.initialized "java/lang/IndexOutOfBoundsException", Cond.methodLink RX4 180 yX2_startBells, Cond.instanceMethod yX2_startBells, Cond.selects RX2 yX2_startBells yX2_startBells, Cond.initialized RX2, Cond.code yX2_startBells cX2_startBells 7 (some .int), Cond.fieldLink RX2 11 "BellStreet$House" "bells" "[LBellStreet$Bell;", Cond.methodLink RX2 89 yX3_lasts]
def wsX4_fault_r2 : List Cond := [Cond.instanceMethod yX3_lasts, Cond.selects RX3 yX3_lasts yX3_lasts, Cond.initialized RX3, Cond.code yX3_lasts cX3_lasts 1 (some .int), Cond.fieldLink RX3 18 "BellStreet$Melody" "count" "I", Cond.methodLink RX2 93 yX0_ringUntil, Cond.instanceMethod yX0_ringUntil, Cond.selects RX0 yX0_ringUntil yX0_ringUntil, Cond.initialized RX0, Cond.code yX0_ringUntil cX0_ringUntil 2 none, Cond.fieldLink RX0 17 "BellStreet$Bell" "isRinging" "Z", Cond.fieldLink RX0 21 "BellStreet$Bell" "stopsAt" "I", Cond.methodLink RX4 160 yX2_breakDown, Cond.instanceMethod yX2_breakDown, Cond.selects RX2 yX2_breakDown yX2_breakDown, Cond.code yX2_breakDown cX2_breakDown 5 none, Cond.fieldLink RX2 21 "BellStreet$House" "sound" "Z"]
def wsX4_fault : List Cond := .code yX4_fault cX4_fault 8 (some .int) :: ((wsX4_fault_r1 ++ wsX4_fault_r2) ++ wsX20 ++ wsX40 ++ wsX00 ++ wsX30 ++ (vx_atS RX4 61 "java/lang/IllegalStateException" ["java/lang/RuntimeException", "java/lang/Exception"]).filter goodWord ++ (vx_atS RX4 76 "java/lang/IndexOutOfBoundsException" ["java/lang/RuntimeException", "java/lang/Exception"]).filter goodWord)
def wsX4_repair : List Cond := .code yX4_repair cX4_repair 4 (some .int) :: ([.classLink RX4 57 "java/lang/IllegalStateException", .initialized "java/lang/IllegalStateException", .fieldLink RX4 17 "BellStreet" "crews" "[LBellStreet$Crew;", .fieldLink RX4 38 "BellStreet" "now" "I", .methodLink RX4 95 yX4_houseAt, .instanceMethod yX4_houseAt, .selects RX4 yX4_houseAt yX4_houseAt, .initialized RX4, .code yX4_houseAt cX4_houseAt 2 (some (.object "BellStreet$House")), .fieldLink RX4 11 "BellStreet" "houses" "[LBellStreet$House;", .methodLink RX4 45 yX4_checkHouse, .instanceMethod yX4_checkHouse, .selects RX4 yX4_checkHouse yX4_checkHouse, .code yX4_checkHouse cX4_checkHouse 2 none, .classLink RX4 72 "java/lang/IndexOutOfBoundsException", .initialized "java/lang/IndexOutOfBoundsException"] ++ wsX40 ++ wsX20 ++ wsX10 ++ (vx_atS RX4 61 "java/lang/IllegalStateException" ["java/lang/RuntimeException", "java/lang/Exception"]).filter goodWord ++ (vx_atS RX4 76 "java/lang/IndexOutOfBoundsException" ["java/lang/RuntimeException", "java/lang/Exception"]).filter goodWord)
def wsX4_nextChange : List Cond := .code yX4_nextChange cX4_nextChange 7 (some .int) :: ([.fieldLink RX4 38 "BellStreet" "now" "I", .methodLink RX4 232 Lib.Math.min.name, .static Lib.Math.min.name, .initialized "java/lang/Math", .code Lib.Math.min.name Lib.Math.min.code 2 (some .int), .fieldLink RX4 11 "BellStreet" "houses" "[LBellStreet$House;", .fieldLink RX4 17 "BellStreet" "crews" "[LBellStreet$Crew;", .methodLink RX4 238 yX2_firstStop, .instanceMethod yX2_firstStop, .selects RX2 yX2_firstStop yX2_firstStop, .initialized RX2, .code yX2_firstStop cX2_firstStop 7 (some .int), .fieldLink RX2 11 "BellStreet$House" "bells" "[LBellStreet$Bell;"] ++ wsX40 ++ wsX10 ++ wsX20 ++ wsX00)
def wsX4_passStretch_r1 : List Cond := [Cond.fieldLink RX4 11 "BellStreet" "houses" "[LBellStreet$House;", Cond.fieldLink RX4 38 "BellStreet" "now" "I", Cond.fieldLink RX4 17 "BellStreet" "crews" "[LBellStreet$Crew;", Cond.methodLink RX4 241 yX2_spend, Cond.instanceMethod yX2_spend, Cond.selects RX2 yX2_spend yX2_spend, Cond.initialized RX2, Cond.code yX2_spend cX2_spend 4 none, Cond.fieldLink RX2 35 "BellStreet$House" "rungSeconds" "I", Cond.fieldLink RX2 38 "BellStreet$House" "rungQuietSeconds" "I", Cond.fieldLink RX2 47 "BellStreet$House" "keptQuietToday" "Z", Cond.methodLink RX2 100 yX2_ringingSet, Cond.instanceMethod yX2_ringingSet, Cond.selects RX2 yX2_ringingSet yX2_ringingSet, Cond.code yX2_ringingSet cX2_ringingSet 3 (some .int), Cond.fieldLink RX2 11 "BellStreet$House" "bells" "[LBellStreet$Bell;", Cond.methodLink RX2 57 yX2_quietSeconds, Cond.instanceMethod yX2_quietSeconds, Cond.selects RX2 yX2_quietSeconds yX2_quietSeconds, Cond.code yX2_quietSeconds cX2_quietSeconds 5 (some .int), Cond.fieldLink RX2 25 "BellStreet$House" "quietFrom" "I", Cond.fieldLink RX2 29 "BellStreet$House" "quietTo" "I", Cond.methodLink RX2 61 yX2_shared, Cond.static yX2_shared]
def wsX4_passStretch_r2 : List Cond := [Cond.code yX2_shared cX2_shared 4 (some .int), Cond.methodLink RX2 65 Lib.Math.min.name, Cond.static Lib.Math.min.name, Cond.initialized "java/lang/Math", Cond.code Lib.Math.min.name Lib.Math.min.code 2 (some .int), Cond.methodLink RX2 70 Lib.Math.max.name, Cond.static Lib.Math.max.name, Cond.code Lib.Math.max.name Lib.Math.max.code 2 (some .int), Cond.methodLink RX4 245 yX2_stopEndedBells, Cond.instanceMethod yX2_stopEndedBells, Cond.selects RX2 yX2_stopEndedBells yX2_stopEndedBells, Cond.code yX2_stopEndedBells cX2_stopEndedBells 6 none, Cond.methodLink RX4 248 yX1_finish, Cond.instanceMethod yX1_finish, Cond.selects RX1 yX1_finish yX1_finish, Cond.initialized RX1, Cond.code yX1_finish cX1_finish 2 none, Cond.fieldLink RX1 7 "BellStreet$Crew" "goal" "LBellStreet$House;", Cond.fieldLink RX1 13 "BellStreet$Crew" "doneAt" "I", Cond.methodLink RX4 251 yX2_closeDay, Cond.instanceMethod yX2_closeDay, Cond.selects RX2 yX2_closeDay yX2_closeDay, Cond.code yX2_closeDay cX2_closeDay 1 none, Cond.fieldLink RX2 32 "BellStreet$House" "score" "I"]
def wsX4_passStretch_r3 : List Cond := [Cond.fieldLink RX2 44 "BellStreet$House" "faultsOfTheDay" "I"]
def wsX4_passStretch : List Cond := .code yX4_passStretch cX4_passStretch 6 none :: ((wsX4_passStretch_r1 ++ (wsX4_passStretch_r2 ++ wsX4_passStretch_r3)) ++ wsX40 ++ wsX20 ++ wsX00 ++ wsX10)
def wsX4_pass_r1 : List Cond := [Cond.classLink RX4 48 "java/lang/IllegalArgumentException", Cond.initialized "java/lang/IllegalArgumentException", Cond.classLink RX4 57 "java/lang/IllegalStateException", Cond.initialized "java/lang/IllegalStateException", Cond.fieldLink RX4 38 "BellStreet" "now" "I", Cond.constant RX4 199 (1000000), Cond.methodLink RX4 202 yX4_nextChange, Cond.instanceMethod yX4_nextChange, Cond.selects RX4 yX4_nextChange yX4_nextChange, Cond.initialized RX4, Cond.code yX4_nextChange cX4_nextChange 7 (some .int), Cond.methodLink RX4 232 Lib.Math.min.name, Cond.static Lib.Math.min.name, Cond.initialized "java/lang/Math", Cond.code Lib.Math.min.name Lib.Math.min.code 2 (some .int), Cond.fieldLink RX4 11 "BellStreet" "houses" "[LBellStreet$House;", Cond.fieldLink RX4 17 "BellStreet" "crews" "[LBellStreet$Crew;", Cond.methodLink RX4 238 yX2_firstStop, Cond.instanceMethod yX2_firstStop, Cond.selects RX2 yX2_firstStop yX2_firstStop, Cond.initialized RX2, Cond.code yX2_firstStop cX2_firstStop 7 (some .int), Cond.fieldLink RX2 11 "BellStreet$House" "bells" "[LBellStreet$Bell;", Cond.methodLink RX4 205 yX4_passStretch]
def wsX4_pass_r2 : List Cond := [Cond.instanceMethod yX4_passStretch, Cond.selects RX4 yX4_passStretch yX4_passStretch, Cond.code yX4_passStretch cX4_passStretch 6 none, Cond.methodLink RX4 241 yX2_spend, Cond.instanceMethod yX2_spend, Cond.selects RX2 yX2_spend yX2_spend, Cond.code yX2_spend cX2_spend 4 none, Cond.fieldLink RX2 35 "BellStreet$House" "rungSeconds" "I", Cond.fieldLink RX2 38 "BellStreet$House" "rungQuietSeconds" "I", Cond.fieldLink RX2 47 "BellStreet$House" "keptQuietToday" "Z", Cond.methodLink RX2 100 yX2_ringingSet, Cond.instanceMethod yX2_ringingSet, Cond.selects RX2 yX2_ringingSet yX2_ringingSet, Cond.code yX2_ringingSet cX2_ringingSet 3 (some .int), Cond.methodLink RX2 57 yX2_quietSeconds, Cond.instanceMethod yX2_quietSeconds, Cond.selects RX2 yX2_quietSeconds yX2_quietSeconds, Cond.code yX2_quietSeconds cX2_quietSeconds 5 (some .int), Cond.fieldLink RX2 25 "BellStreet$House" "quietFrom" "I", Cond.fieldLink RX2 29 "BellStreet$House" "quietTo" "I", Cond.methodLink RX2 61 yX2_shared, Cond.static yX2_shared, Cond.code yX2_shared cX2_shared 4 (some .int), Cond.methodLink RX2 65 Lib.Math.min.name]
def wsX4_pass_r3 : List Cond := [Cond.methodLink RX2 70 Lib.Math.max.name, Cond.static Lib.Math.max.name, Cond.code Lib.Math.max.name Lib.Math.max.code 2 (some .int), Cond.methodLink RX4 245 yX2_stopEndedBells, Cond.instanceMethod yX2_stopEndedBells, Cond.selects RX2 yX2_stopEndedBells yX2_stopEndedBells, Cond.code yX2_stopEndedBells cX2_stopEndedBells 6 none, Cond.methodLink RX4 248 yX1_finish, Cond.instanceMethod yX1_finish, Cond.selects RX1 yX1_finish yX1_finish, Cond.initialized RX1, Cond.code yX1_finish cX1_finish 2 none, Cond.fieldLink RX1 7 "BellStreet$Crew" "goal" "LBellStreet$House;", Cond.fieldLink RX1 13 "BellStreet$Crew" "doneAt" "I", Cond.methodLink RX4 251 yX2_closeDay, Cond.instanceMethod yX2_closeDay, Cond.selects RX2 yX2_closeDay yX2_closeDay, Cond.code yX2_closeDay cX2_closeDay 1 none, Cond.fieldLink RX2 32 "BellStreet$House" "score" "I", Cond.fieldLink RX2 44 "BellStreet$House" "faultsOfTheDay" "I"]
def wsX4_pass : List Cond := .code yX4_pass cX4_pass 4 (some .int) :: ((wsX4_pass_r1 ++ (wsX4_pass_r2 ++ wsX4_pass_r3)) ++ wsX40 ++ wsX10 ++ wsX20 ++ wsX00 ++ (vx_atS RX4 52 "java/lang/IllegalArgumentException" ["java/lang/RuntimeException", "java/lang/Exception"]).filter goodWord ++ (vx_atS RX4 61 "java/lang/IllegalStateException" ["java/lang/RuntimeException", "java/lang/Exception"]).filter goodWord)
def wsX4_time : List Cond := .code yX4_time cX4_time 1 (some .int) :: ([.fieldLink RX4 38 "BellStreet" "now" "I"] ++ wsX40)
def wsX4_ringing : List Cond := .code yX4_ringing cX4_ringing 2 (some .int) :: ([.methodLink RX4 95 yX4_houseAt, .instanceMethod yX4_houseAt, .selects RX4 yX4_houseAt yX4_houseAt, .initialized RX4, .code yX4_houseAt cX4_houseAt 2 (some (.object "BellStreet$House")), .fieldLink RX4 11 "BellStreet" "houses" "[LBellStreet$House;", .methodLink RX4 45 yX4_checkHouse, .instanceMethod yX4_checkHouse, .selects RX4 yX4_checkHouse yX4_checkHouse, .code yX4_checkHouse cX4_checkHouse 2 none, .classLink RX4 72 "java/lang/IndexOutOfBoundsException", .initialized "java/lang/IndexOutOfBoundsException", .methodLink RX4 208 yX2_ringingSet, .instanceMethod yX2_ringingSet, .selects RX2 yX2_ringingSet yX2_ringingSet, .initialized RX2, .code yX2_ringingSet cX2_ringingSet 3 (some .int), .fieldLink RX2 11 "BellStreet$House" "bells" "[LBellStreet$Bell;"] ++ wsX40 ++ wsX20 ++ wsX00 ++ (vx_atS RX4 76 "java/lang/IndexOutOfBoundsException" ["java/lang/RuntimeException", "java/lang/Exception"]).filter goodWord)
def wsX4_isSound : List Cond := .code yX4_isSound cX4_isSound 2 (some .boolean) :: ([.methodLink RX4 95 yX4_houseAt, .instanceMethod yX4_houseAt, .selects RX4 yX4_houseAt yX4_houseAt, .initialized RX4, .code yX4_houseAt cX4_houseAt 2 (some (.object "BellStreet$House")), .fieldLink RX4 11 "BellStreet" "houses" "[LBellStreet$House;", .methodLink RX4 45 yX4_checkHouse, .instanceMethod yX4_checkHouse, .selects RX4 yX4_checkHouse yX4_checkHouse, .code yX4_checkHouse cX4_checkHouse 2 none, .classLink RX4 72 "java/lang/IndexOutOfBoundsException", .initialized "java/lang/IndexOutOfBoundsException"] ++ wsX20 ++ wsX40 ++ (vx_atS RX4 76 "java/lang/IndexOutOfBoundsException" ["java/lang/RuntimeException", "java/lang/Exception"]).filter goodWord)
def wsX4_ringsLeft : List Cond := .code yX4_ringsLeft cX4_ringsLeft 4 (some .int) :: ([.methodLink RX4 95 yX4_houseAt, .instanceMethod yX4_houseAt, .selects RX4 yX4_houseAt yX4_houseAt, .initialized RX4, .code yX4_houseAt cX4_houseAt 2 (some (.object "BellStreet$House")), .fieldLink RX4 11 "BellStreet" "houses" "[LBellStreet$House;", .methodLink RX4 45 yX4_checkHouse, .instanceMethod yX4_checkHouse, .selects RX4 yX4_checkHouse yX4_checkHouse, .code yX4_checkHouse cX4_checkHouse 2 none, .classLink RX4 72 "java/lang/IndexOutOfBoundsException", .initialized "java/lang/IndexOutOfBoundsException", .methodLink RX4 65 yX4_melodyAt, .instanceMethod yX4_melodyAt, .selects RX4 yX4_melodyAt yX4_melodyAt, .code yX4_melodyAt cX4_melodyAt 3 (some (.object "BellStreet$Melody")), .fieldLink RX4 23 "BellStreet" "melodies" "[LBellStreet$Melody;"] ++ wsX30 ++ wsX20 ++ wsX40 ++ (vx_atS RX4 76 "java/lang/IndexOutOfBoundsException" ["java/lang/RuntimeException", "java/lang/Exception"]).filter goodWord)
def wsX4_points : List Cond := .code yX4_points cX4_points 2 (some .int) :: ([.methodLink RX4 95 yX4_houseAt, .instanceMethod yX4_houseAt, .selects RX4 yX4_houseAt yX4_houseAt, .initialized RX4, .code yX4_houseAt cX4_houseAt 2 (some (.object "BellStreet$House")), .fieldLink RX4 11 "BellStreet" "houses" "[LBellStreet$House;", .methodLink RX4 45 yX4_checkHouse, .instanceMethod yX4_checkHouse, .selects RX4 yX4_checkHouse yX4_checkHouse, .code yX4_checkHouse cX4_checkHouse 2 none, .classLink RX4 72 "java/lang/IndexOutOfBoundsException", .initialized "java/lang/IndexOutOfBoundsException"] ++ wsX20 ++ wsX40 ++ (vx_atS RX4 76 "java/lang/IndexOutOfBoundsException" ["java/lang/RuntimeException", "java/lang/Exception"]).filter goodWord)
def wsX4_secondsRung : List Cond := .code yX4_secondsRung cX4_secondsRung 2 (some .int) :: ([.methodLink RX4 95 yX4_houseAt, .instanceMethod yX4_houseAt, .selects RX4 yX4_houseAt yX4_houseAt, .initialized RX4, .code yX4_houseAt cX4_houseAt 2 (some (.object "BellStreet$House")), .fieldLink RX4 11 "BellStreet" "houses" "[LBellStreet$House;", .methodLink RX4 45 yX4_checkHouse, .instanceMethod yX4_checkHouse, .selects RX4 yX4_checkHouse yX4_checkHouse, .code yX4_checkHouse cX4_checkHouse 2 none, .classLink RX4 72 "java/lang/IndexOutOfBoundsException", .initialized "java/lang/IndexOutOfBoundsException"] ++ wsX20 ++ wsX40 ++ (vx_atS RX4 76 "java/lang/IndexOutOfBoundsException" ["java/lang/RuntimeException", "java/lang/Exception"]).filter goodWord)
def wsX4_quietBroken : List Cond := .code yX4_quietBroken cX4_quietBroken 2 (some .int) :: ([.methodLink RX4 95 yX4_houseAt, .instanceMethod yX4_houseAt, .selects RX4 yX4_houseAt yX4_houseAt, .initialized RX4, .code yX4_houseAt cX4_houseAt 2 (some (.object "BellStreet$House")), .fieldLink RX4 11 "BellStreet" "houses" "[LBellStreet$House;", .methodLink RX4 45 yX4_checkHouse, .instanceMethod yX4_checkHouse, .selects RX4 yX4_checkHouse yX4_checkHouse, .code yX4_checkHouse cX4_checkHouse 2 none, .classLink RX4 72 "java/lang/IndexOutOfBoundsException", .initialized "java/lang/IndexOutOfBoundsException"] ++ wsX20 ++ wsX40 ++ (vx_atS RX4 76 "java/lang/IndexOutOfBoundsException" ["java/lang/RuntimeException", "java/lang/Exception"]).filter goodWord)
def wsX4_hushed : List Cond := .code yX4_hushed cX4_hushed 2 (some .int) :: ([.methodLink RX4 95 yX4_houseAt, .instanceMethod yX4_houseAt, .selects RX4 yX4_houseAt yX4_houseAt, .initialized RX4, .code yX4_houseAt cX4_houseAt 2 (some (.object "BellStreet$House")), .fieldLink RX4 11 "BellStreet" "houses" "[LBellStreet$House;", .methodLink RX4 45 yX4_checkHouse, .instanceMethod yX4_checkHouse, .selects RX4 yX4_checkHouse yX4_checkHouse, .code yX4_checkHouse cX4_checkHouse 2 none, .classLink RX4 72 "java/lang/IndexOutOfBoundsException", .initialized "java/lang/IndexOutOfBoundsException"] ++ wsX20 ++ wsX40 ++ (vx_atS RX4 76 "java/lang/IndexOutOfBoundsException" ["java/lang/RuntimeException", "java/lang/Exception"]).filter goodWord)
def wsX4_faults : List Cond := .code yX4_faults cX4_faults 1 (some .int) :: ([.fieldLink RX4 35 "BellStreet" "faultCount" "I"] ++ wsX40)
def wsX4_faultAt : List Cond := .code yX4_faultAt cX4_faultAt 2 (some .int) :: ([.classLink RX4 72 "java/lang/IndexOutOfBoundsException", .initialized "java/lang/IndexOutOfBoundsException", .fieldLink RX4 35 "BellStreet" "faultCount" "I", .fieldLink RX4 27 "BellStreet" "toldFaults" "[I"] ++ wsX40 ++ (vx_atS RX4 76 "java/lang/IndexOutOfBoundsException" ["java/lang/RuntimeException", "java/lang/Exception"]).filter goodWord)
def wsJ9_max_7cf53 : List Cond := .code yJ9_max_7cf53 cJ9_max_7cf53 2 (some .int) :: ([])
def wsJ9_min_7cf53 : List Cond := .code yJ9_min_7cf53 cJ9_min_7cf53 2 (some .int) :: ([])
def wsL_low : List Cond := .code yL_low cL_low 2 (some .int) :: ([.constant RL 7 (2147483647)])
def wsL_cell : List Cond := .code yL_cell cL_cell 2 (some .int) :: ([.constant RL 8 (40503)])
def wsL_melody_r1 : List Cond := [Cond.classLink RL 15 "java/lang/IllegalStateException", Cond.methodLink RL 9 yX4_addMelody, Cond.instanceMethod yX4_addMelody, Cond.selects RX4 yX4_addMelody yX4_addMelody, Cond.initialized RX4, Cond.code yX4_addMelody cX4_addMelody 6 (some .int), Cond.classLink RX4 48 "java/lang/IllegalArgumentException", Cond.initialized "java/lang/IllegalArgumentException", Cond.classLink RX4 57 "java/lang/IllegalStateException", Cond.initialized "java/lang/IllegalStateException", Cond.fieldLink RX4 31 "BellStreet" "melodyCount" "I", Cond.fieldLink RX4 23 "BellStreet" "melodies" "[LBellStreet$Melody;", Cond.classLink RX4 21 RX3, Cond.instantiable RX3 4, Cond.initialized RX3, Cond.methodLink RX4 45 yX4_checkHouse, Cond.instanceMethod yX4_checkHouse, Cond.selects RX4 yX4_checkHouse yX4_checkHouse, Cond.code yX4_checkHouse cX4_checkHouse 2 none, Cond.classLink RX4 72 "java/lang/IndexOutOfBoundsException", Cond.initialized "java/lang/IndexOutOfBoundsException", Cond.methodLink RX4 62 yX3_init, Cond.instanceMethod yX3_init, Cond.code yX3_init cX3_init 6 none]
def wsL_melody_r2 : List Cond := [Cond.methodLink RX3 3 objectInit, Cond.instanceMethod objectInit, Cond.code objectInit ⟨#[0xb1]⟩ 1 none, Cond.fieldLink RX3 9 "BellStreet$Melody" "number" "I", Cond.fieldLink RX3 15 "BellStreet$Melody" "owner" "I", Cond.fieldLink RX3 18 "BellStreet$Melody" "count" "I", Cond.fieldLink RX3 21 "BellStreet$Melody" "tones" "J"]
def wsL_melody : List Cond := .codeWith yL_melody cL_melody 6 (some .int) [(0, 7, 8, 15)] :: ((wsL_melody_r1 ++ wsL_melody_r2) ++ wsX40 ++ wsX30 ++ (vx_atS RX4 52 "java/lang/IllegalArgumentException" ["java/lang/RuntimeException", "java/lang/Exception"]).filter goodWord ++ (vx_atS RX4 61 "java/lang/IllegalStateException" ["java/lang/RuntimeException", "java/lang/Exception"]).filter goodWord ++ (vx_atS RX4 76 "java/lang/IndexOutOfBoundsException" ["java/lang/RuntimeException", "java/lang/Exception"]).filter goodWord)
def wsL_license_r1 : List Cond := [Cond.classLink RL 15 "java/lang/IllegalStateException", Cond.methodLink RL 17 yX4_license, Cond.instanceMethod yX4_license, Cond.selects RX4 yX4_license yX4_license, Cond.initialized RX4, Cond.code yX4_license cX4_license 6 (some .int), Cond.classLink RX4 48 "java/lang/IllegalArgumentException", Cond.initialized "java/lang/IllegalArgumentException", Cond.classLink RX4 57 "java/lang/IllegalStateException", Cond.initialized "java/lang/IllegalStateException", Cond.methodLink RX4 95 yX4_houseAt, Cond.instanceMethod yX4_houseAt, Cond.selects RX4 yX4_houseAt yX4_houseAt, Cond.code yX4_houseAt cX4_houseAt 2 (some (.object "BellStreet$House")), Cond.fieldLink RX4 11 "BellStreet" "houses" "[LBellStreet$House;", Cond.methodLink RX4 45 yX4_checkHouse, Cond.instanceMethod yX4_checkHouse, Cond.selects RX4 yX4_checkHouse yX4_checkHouse, Cond.code yX4_checkHouse cX4_checkHouse 2 none, Cond.classLink RX4 72 "java/lang/IndexOutOfBoundsException", Cond.initialized "java/lang/IndexOutOfBoundsException", Cond.methodLink RX4 65 yX4_melodyAt, Cond.instanceMethod yX4_melodyAt, Cond.selects RX4 yX4_melodyAt yX4_melodyAt]
def wsL_license_r2 : List Cond := [Cond.code yX4_melodyAt cX4_melodyAt 3 (some (.object "BellStreet$Melody")), Cond.fieldLink RX4 23 "BellStreet" "melodies" "[LBellStreet$Melody;"]
def wsL_license : List Cond := .codeWith yL_license cL_license 5 (some .int) [(0, 7, 8, 15)] :: ((wsL_license_r1 ++ wsL_license_r2) ++ wsX30 ++ wsX20 ++ wsX40 ++ (vx_atS RX4 52 "java/lang/IllegalArgumentException" ["java/lang/RuntimeException", "java/lang/Exception"]).filter goodWord ++ (vx_atS RX4 61 "java/lang/IllegalStateException" ["java/lang/RuntimeException", "java/lang/Exception"]).filter goodWord ++ (vx_atS RX4 76 "java/lang/IndexOutOfBoundsException" ["java/lang/RuntimeException", "java/lang/Exception"]).filter goodWord)
def wsL_press_r1 : List Cond := [Cond.classLink RL 15 "java/lang/IllegalStateException", Cond.methodLink RL 21 yX4_press, Cond.instanceMethod yX4_press, Cond.selects RX4 yX4_press yX4_press, Cond.initialized RX4, Cond.code yX4_press cX4_press 6 (some .int), Cond.classLink RX4 57 "java/lang/IllegalStateException", Cond.initialized "java/lang/IllegalStateException", Cond.fieldLink RX4 38 "BellStreet" "now" "I", Cond.methodLink RX4 95 yX4_houseAt, Cond.instanceMethod yX4_houseAt, Cond.selects RX4 yX4_houseAt yX4_houseAt, Cond.code yX4_houseAt cX4_houseAt 2 (some (.object "BellStreet$House")), Cond.fieldLink RX4 11 "BellStreet" "houses" "[LBellStreet$House;", Cond.methodLink RX4 45 yX4_checkHouse, Cond.instanceMethod yX4_checkHouse, Cond.selects RX4 yX4_checkHouse yX4_checkHouse, Cond.code yX4_checkHouse cX4_checkHouse 2 none, Cond.classLink RX4 72 "java/lang/IndexOutOfBoundsException", Cond.initialized "java/lang/IndexOutOfBoundsException", Cond.methodLink RX4 123 yX4_bellAt, Cond.instanceMethod yX4_bellAt, Cond.selects RX4 yX4_bellAt yX4_bellAt, Cond.code yX4_bellAt cX4_bellAt 4 (some (.object "BellStreet$Bell"))]
def wsL_press_r2 : List Cond := [Cond.methodLink RX4 119 yX2_isQuietAt, Cond.instanceMethod yX2_isQuietAt, Cond.selects RX2 yX2_isQuietAt yX2_isQuietAt, Cond.initialized RX2, Cond.code yX2_isQuietAt cX2_isQuietAt 2 (some .boolean), Cond.methodLink RX2 57 yX2_quietSeconds, Cond.instanceMethod yX2_quietSeconds, Cond.selects RX2 yX2_quietSeconds yX2_quietSeconds, Cond.code yX2_quietSeconds cX2_quietSeconds 5 (some .int), Cond.fieldLink RX2 25 "BellStreet$House" "quietFrom" "I", Cond.fieldLink RX2 29 "BellStreet$House" "quietTo" "I", Cond.methodLink RX2 61 yX2_shared, Cond.static yX2_shared, Cond.code yX2_shared cX2_shared 4 (some .int), Cond.methodLink RX2 65 Lib.Math.min.name, Cond.static Lib.Math.min.name, Cond.initialized "java/lang/Math", Cond.code Lib.Math.min.name Lib.Math.min.code 2 (some .int), Cond.methodLink RX2 70 Lib.Math.max.name, Cond.static Lib.Math.max.name, Cond.code Lib.Math.max.name Lib.Math.max.code 2 (some .int), Cond.methodLink RX4 153 yX2_mayRing, Cond.instanceMethod yX2_mayRing, Cond.selects RX2 yX2_mayRing yX2_mayRing]
def wsL_press_r3 : List Cond := [Cond.code yX2_mayRing cX2_mayRing 2 (some .boolean), Cond.fieldLink RX2 50 "BellStreet$House" "number" "I", Cond.fieldLink RX2 17 "BellStreet$House" "rights" "[I", Cond.methodLink RX4 156 yX2_ringingLoad, Cond.instanceMethod yX2_ringingLoad, Cond.selects RX2 yX2_ringingLoad yX2_ringingLoad, Cond.code yX2_ringingLoad cX2_ringingLoad 6 (some .int), Cond.fieldLink RX2 11 "BellStreet$House" "bells" "[LBellStreet$Bell;", Cond.methodLink RX4 160 yX2_breakDown, Cond.instanceMethod yX2_breakDown, Cond.selects RX2 yX2_breakDown yX2_breakDown, Cond.code yX2_breakDown cX2_breakDown 5 none, Cond.fieldLink RX2 21 "BellStreet$House" "sound" "Z", Cond.methodLink RX4 163 yX2_useRight, Cond.instanceMethod yX2_useRight, Cond.selects RX2 yX2_useRight yX2_useRight, Cond.code yX2_useRight cX2_useRight 2 none, Cond.methodLink RX4 167 yX3_lasts, Cond.instanceMethod yX3_lasts, Cond.selects RX3 yX3_lasts yX3_lasts, Cond.initialized RX3, Cond.code yX3_lasts cX3_lasts 1 (some .int), Cond.fieldLink RX3 18 "BellStreet$Melody" "count" "I", Cond.methodLink RX4 170 yX0_ringUntil]
def wsL_press_r4 : List Cond := [Cond.instanceMethod yX0_ringUntil, Cond.selects RX0 yX0_ringUntil yX0_ringUntil, Cond.initialized RX0, Cond.code yX0_ringUntil cX0_ringUntil 2 none, Cond.fieldLink RX0 17 "BellStreet$Bell" "isRinging" "Z", Cond.fieldLink RX0 21 "BellStreet$Bell" "stopsAt" "I"]
def wsL_press : List Cond := .codeWith yL_press cL_press 4 (some .int) [(0, 6, 7, 15)] :: ((wsL_press_r1 ++ (wsL_press_r2 ++ (wsL_press_r3 ++ wsL_press_r4))) ++ wsX00 ++ wsX20 ++ wsX40 ++ wsX30 ++ (vx_atS RX4 61 "java/lang/IllegalStateException" ["java/lang/RuntimeException", "java/lang/Exception"]).filter goodWord ++ (vx_atS RX4 76 "java/lang/IndexOutOfBoundsException" ["java/lang/RuntimeException", "java/lang/Exception"]).filter goodWord)
def wsL_fault_r1 : List Cond := [Cond.classLink RL 15 "java/lang/IllegalStateException", Cond.methodLink RL 25 yX4_fault, Cond.instanceMethod yX4_fault, Cond.selects RX4 yX4_fault yX4_fault, Cond.initialized RX4, Cond.code yX4_fault cX4_fault 8 (some .int), Cond.classLink RX4 57 "java/lang/IllegalStateException", Cond.initialized "java/lang/IllegalStateException", Cond.fieldLink RX4 35 "BellStreet" "faultCount" "I", Cond.fieldLink RX4 11 "BellStreet" "houses" "[LBellStreet$House;", Cond.fieldLink RX4 38 "BellStreet" "now" "I", Cond.fieldLink RX4 27 "BellStreet" "toldFaults" "[I", Cond.methodLink RX4 95 yX4_houseAt, Cond.instanceMethod yX4_houseAt, Cond.selects RX4 yX4_houseAt yX4_houseAt, Cond.code yX4_houseAt cX4_houseAt 2 (some (.object "BellStreet$House")), Cond.methodLink RX4 45 yX4_checkHouse, Cond.instanceMethod yX4_checkHouse, Cond.selects RX4 yX4_checkHouse yX4_checkHouse, Cond.code yX4_checkHouse cX4_checkHouse 2 none, Cond.classLink RX4 72 "java/lang/IndexOutOfBoundsException", Cond.initialized "java/lang/IndexOutOfBoundsException", Cond.methodLink RX4 180 yX2_startBells, Cond.instanceMethod yX2_startBells]
def wsL_fault_r2 : List Cond := [Cond.selects RX2 yX2_startBells yX2_startBells, Cond.initialized RX2, Cond.code yX2_startBells cX2_startBells 7 (some .int), Cond.fieldLink RX2 11 "BellStreet$House" "bells" "[LBellStreet$Bell;", Cond.methodLink RX2 89 yX3_lasts, Cond.instanceMethod yX3_lasts, Cond.selects RX3 yX3_lasts yX3_lasts, Cond.initialized RX3, Cond.code yX3_lasts cX3_lasts 1 (some .int), Cond.fieldLink RX3 18 "BellStreet$Melody" "count" "I", Cond.methodLink RX2 93 yX0_ringUntil, Cond.instanceMethod yX0_ringUntil, Cond.selects RX0 yX0_ringUntil yX0_ringUntil, Cond.initialized RX0, Cond.code yX0_ringUntil cX0_ringUntil 2 none, Cond.fieldLink RX0 17 "BellStreet$Bell" "isRinging" "Z", Cond.fieldLink RX0 21 "BellStreet$Bell" "stopsAt" "I", Cond.methodLink RX4 160 yX2_breakDown, Cond.instanceMethod yX2_breakDown, Cond.selects RX2 yX2_breakDown yX2_breakDown, Cond.code yX2_breakDown cX2_breakDown 5 none, Cond.fieldLink RX2 21 "BellStreet$House" "sound" "Z"]
def wsL_fault : List Cond := .codeWith yL_fault cL_fault 3 (some .int) [(0, 5, 6, 15)] :: ((wsL_fault_r1 ++ wsL_fault_r2) ++ wsX20 ++ wsX40 ++ wsX00 ++ wsX30 ++ (vx_atS RX4 61 "java/lang/IllegalStateException" ["java/lang/RuntimeException", "java/lang/Exception"]).filter goodWord ++ (vx_atS RX4 76 "java/lang/IndexOutOfBoundsException" ["java/lang/RuntimeException", "java/lang/Exception"]).filter goodWord)
def wsL_repair : List Cond := .codeWith yL_repair cL_repair 3 (some .int) [(0, 5, 6, 15)] :: ([.classLink RL 15 "java/lang/IllegalStateException", .methodLink RL 29 yX4_repair, .instanceMethod yX4_repair, .selects RX4 yX4_repair yX4_repair, .initialized RX4, .code yX4_repair cX4_repair 4 (some .int), .classLink RX4 57 "java/lang/IllegalStateException", .initialized "java/lang/IllegalStateException", .fieldLink RX4 17 "BellStreet" "crews" "[LBellStreet$Crew;", .fieldLink RX4 38 "BellStreet" "now" "I", .methodLink RX4 95 yX4_houseAt, .instanceMethod yX4_houseAt, .selects RX4 yX4_houseAt yX4_houseAt, .code yX4_houseAt cX4_houseAt 2 (some (.object "BellStreet$House")), .fieldLink RX4 11 "BellStreet" "houses" "[LBellStreet$House;", .methodLink RX4 45 yX4_checkHouse, .instanceMethod yX4_checkHouse, .selects RX4 yX4_checkHouse yX4_checkHouse, .code yX4_checkHouse cX4_checkHouse 2 none, .classLink RX4 72 "java/lang/IndexOutOfBoundsException", .initialized "java/lang/IndexOutOfBoundsException"] ++ wsX40 ++ wsX20 ++ wsX10 ++ (vx_atS RX4 61 "java/lang/IllegalStateException" ["java/lang/RuntimeException", "java/lang/Exception"]).filter goodWord ++ (vx_atS RX4 76 "java/lang/IndexOutOfBoundsException" ["java/lang/RuntimeException", "java/lang/Exception"]).filter goodWord)
def wsL_bits : List Cond := .code yL_bits cL_bits 1 (some .int) :: ([])
def wsL_holds_r1 : List Cond := [Cond.methodLink RL 32 yX4_time, Cond.instanceMethod yX4_time, Cond.selects RX4 yX4_time yX4_time, Cond.initialized RX4, Cond.code yX4_time cX4_time 1 (some .int), Cond.fieldLink RX4 38 "BellStreet" "now" "I", Cond.methodLink RL 36 yX4_faults, Cond.instanceMethod yX4_faults, Cond.selects RX4 yX4_faults yX4_faults, Cond.code yX4_faults cX4_faults 1 (some .int), Cond.fieldLink RX4 35 "BellStreet" "faultCount" "I", Cond.methodLink RL 39 yX4_faultAt, Cond.instanceMethod yX4_faultAt, Cond.selects RX4 yX4_faultAt yX4_faultAt, Cond.code yX4_faultAt cX4_faultAt 2 (some .int), Cond.classLink RX4 72 "java/lang/IndexOutOfBoundsException", Cond.initialized "java/lang/IndexOutOfBoundsException", Cond.fieldLink RX4 27 "BellStreet" "toldFaults" "[I", Cond.methodLink RL 42 yX4_points, Cond.instanceMethod yX4_points, Cond.selects RX4 yX4_points yX4_points, Cond.code yX4_points cX4_points 2 (some .int), Cond.methodLink RX4 95 yX4_houseAt, Cond.instanceMethod yX4_houseAt]
def wsL_holds_r2 : List Cond := [Cond.selects RX4 yX4_houseAt yX4_houseAt, Cond.code yX4_houseAt cX4_houseAt 2 (some (.object "BellStreet$House")), Cond.fieldLink RX4 11 "BellStreet" "houses" "[LBellStreet$House;", Cond.methodLink RX4 45 yX4_checkHouse, Cond.instanceMethod yX4_checkHouse, Cond.selects RX4 yX4_checkHouse yX4_checkHouse, Cond.code yX4_checkHouse cX4_checkHouse 2 none, Cond.methodLink RL 45 yX4_isSound, Cond.instanceMethod yX4_isSound, Cond.selects RX4 yX4_isSound yX4_isSound, Cond.code yX4_isSound cX4_isSound 2 (some .boolean), Cond.methodLink RL 49 yX4_ringing, Cond.instanceMethod yX4_ringing, Cond.selects RX4 yX4_ringing yX4_ringing, Cond.code yX4_ringing cX4_ringing 2 (some .int), Cond.methodLink RX4 208 yX2_ringingSet, Cond.instanceMethod yX2_ringingSet, Cond.selects RX2 yX2_ringingSet yX2_ringingSet, Cond.initialized RX2, Cond.code yX2_ringingSet cX2_ringingSet 3 (some .int), Cond.fieldLink RX2 11 "BellStreet$House" "bells" "[LBellStreet$Bell;", Cond.methodLink RL 52 yX4_quietBroken, Cond.instanceMethod yX4_quietBroken, Cond.selects RX4 yX4_quietBroken yX4_quietBroken]
def wsL_holds_r3 : List Cond := [Cond.code yX4_quietBroken cX4_quietBroken 2 (some .int), Cond.methodLink RL 55 yX4_secondsRung, Cond.instanceMethod yX4_secondsRung, Cond.selects RX4 yX4_secondsRung yX4_secondsRung, Cond.code yX4_secondsRung cX4_secondsRung 2 (some .int), Cond.methodLink RL 58 yX4_hushed, Cond.instanceMethod yX4_hushed, Cond.selects RX4 yX4_hushed yX4_hushed, Cond.code yX4_hushed cX4_hushed 2 (some .int)]
def wsL_holds : List Cond := .code yL_holds cL_holds 6 (some .boolean) :: ((wsL_holds_r1 ++ (wsL_holds_r2 ++ wsL_holds_r3)) ++ wsX40 ++ wsX20 ++ wsX00 ++ (vx_atS RX4 76 "java/lang/IndexOutOfBoundsException" ["java/lang/RuntimeException", "java/lang/Exception"]).filter goodWord)
def wsL_melodies_r1 : List Cond := [Cond.constantLong RL 72 (15), Cond.methodLink RL 61 yX4_areAlike, Cond.instanceMethod yX4_areAlike, Cond.selects RX4 yX4_areAlike yX4_areAlike, Cond.initialized RX4, Cond.code yX4_areAlike cX4_areAlike 3 (some .boolean), Cond.methodLink RX4 65 yX4_melodyAt, Cond.instanceMethod yX4_melodyAt, Cond.selects RX4 yX4_melodyAt yX4_melodyAt, Cond.code yX4_melodyAt cX4_melodyAt 3 (some (.object "BellStreet$Melody")), Cond.classLink RX4 72 "java/lang/IndexOutOfBoundsException", Cond.initialized "java/lang/IndexOutOfBoundsException", Cond.fieldLink RX4 23 "BellStreet" "melodies" "[LBellStreet$Melody;", Cond.methodLink RX4 91 yX3_isShiftOf, Cond.instanceMethod yX3_isShiftOf, Cond.selects RX3 yX3_isShiftOf yX3_isShiftOf, Cond.initialized RX3, Cond.code yX3_isShiftOf cX3_isShiftOf 3 (some .boolean), Cond.fieldLink RX3 18 "BellStreet$Melody" "count" "I", Cond.fieldLink RX3 21 "BellStreet$Melody" "tones" "J", Cond.methodLink RX3 25 yX3_tone, Cond.instanceMethod yX3_tone, Cond.selects RX3 yX3_tone yX3_tone, Cond.code yX3_tone cX3_tone 2 (some .int)]
def wsL_melodies_r2 : List Cond := [Cond.methodLink RX3 29 yX3_tonesShifted, Cond.instanceMethod yX3_tonesShifted, Cond.selects RX3 yX3_tonesShifted yX3_tonesShifted, Cond.code yX3_tonesShifted cX3_tonesShifted 5 (some .long), Cond.methodLink RL 65 yX4_shifted, Cond.instanceMethod yX4_shifted, Cond.selects RX4 yX4_shifted yX4_shifted, Cond.code yX4_shifted cX4_shifted 4 (some .long), Cond.classLink RX4 48 "java/lang/IllegalArgumentException", Cond.initialized "java/lang/IllegalArgumentException", Cond.methodLink RX4 83 yX3_tonesShifted, Cond.methodLink RL 69 yX4_toneAt, Cond.instanceMethod yX4_toneAt, Cond.selects RX4 yX4_toneAt yX4_toneAt, Cond.code yX4_toneAt cX4_toneAt 4 (some .int), Cond.methodLink RX4 77 yX3_tone, Cond.methodLink RL 74 yX4_turned, Cond.instanceMethod yX4_turned, Cond.selects RX4 yX4_turned yX4_turned, Cond.code yX4_turned cX4_turned 2 (some .long), Cond.methodLink RX4 87 yX3_tonesTurned, Cond.instanceMethod yX3_tonesTurned, Cond.selects RX3 yX3_tonesTurned yX3_tonesTurned, Cond.code yX3_tonesTurned cX3_tonesTurned 4 (some .long)]
def wsL_melodies : List Cond := .code yL_melodies cL_melodies 10 (some .boolean) :: ((wsL_melodies_r1 ++ wsL_melodies_r2) ++ wsX40 ++ wsX30 ++ (vx_atS RX4 76 "java/lang/IndexOutOfBoundsException" ["java/lang/RuntimeException", "java/lang/Exception"]).filter goodWord ++ (vx_atS RX4 52 "java/lang/IllegalArgumentException" ["java/lang/RuntimeException", "java/lang/Exception"]).filter goodWord)
def wsL_presses_r1 : List Cond := [Cond.methodLink RL 49 yX4_ringing, Cond.instanceMethod yX4_ringing, Cond.selects RX4 yX4_ringing yX4_ringing, Cond.initialized RX4, Cond.code yX4_ringing cX4_ringing 2 (some .int), Cond.methodLink RX4 95 yX4_houseAt, Cond.instanceMethod yX4_houseAt, Cond.selects RX4 yX4_houseAt yX4_houseAt, Cond.code yX4_houseAt cX4_houseAt 2 (some (.object "BellStreet$House")), Cond.fieldLink RX4 11 "BellStreet" "houses" "[LBellStreet$House;", Cond.methodLink RX4 45 yX4_checkHouse, Cond.instanceMethod yX4_checkHouse, Cond.selects RX4 yX4_checkHouse yX4_checkHouse, Cond.code yX4_checkHouse cX4_checkHouse 2 none, Cond.classLink RX4 72 "java/lang/IndexOutOfBoundsException", Cond.initialized "java/lang/IndexOutOfBoundsException", Cond.methodLink RX4 208 yX2_ringingSet, Cond.instanceMethod yX2_ringingSet, Cond.selects RX2 yX2_ringingSet yX2_ringingSet, Cond.initialized RX2, Cond.code yX2_ringingSet cX2_ringingSet 3 (some .int), Cond.fieldLink RX2 11 "BellStreet$House" "bells" "[LBellStreet$Bell;", Cond.methodLink RL 58 yX4_hushed, Cond.instanceMethod yX4_hushed]
def wsL_presses_r2 : List Cond := [Cond.selects RX4 yX4_hushed yX4_hushed, Cond.code yX4_hushed cX4_hushed 2 (some .int), Cond.methodLink RL 45 yX4_isSound, Cond.instanceMethod yX4_isSound, Cond.selects RX4 yX4_isSound yX4_isSound, Cond.code yX4_isSound cX4_isSound 2 (some .boolean), Cond.methodLink RL 78 yL_press, Cond.static yL_press, Cond.initialized RL, Cond.codeWith yL_press cL_press 4 (some .int) [(0, 6, 7, 15)], Cond.classLink RL 15 "java/lang/IllegalStateException", Cond.methodLink RL 21 yX4_press, Cond.instanceMethod yX4_press, Cond.selects RX4 yX4_press yX4_press, Cond.code yX4_press cX4_press 6 (some .int), Cond.classLink RX4 57 "java/lang/IllegalStateException", Cond.initialized "java/lang/IllegalStateException", Cond.fieldLink RX4 38 "BellStreet" "now" "I", Cond.methodLink RX4 123 yX4_bellAt, Cond.instanceMethod yX4_bellAt, Cond.selects RX4 yX4_bellAt yX4_bellAt, Cond.code yX4_bellAt cX4_bellAt 4 (some (.object "BellStreet$Bell")), Cond.methodLink RX4 119 yX2_isQuietAt, Cond.instanceMethod yX2_isQuietAt]
def wsL_presses_r3 : List Cond := [Cond.selects RX2 yX2_isQuietAt yX2_isQuietAt, Cond.code yX2_isQuietAt cX2_isQuietAt 2 (some .boolean), Cond.methodLink RX2 57 yX2_quietSeconds, Cond.instanceMethod yX2_quietSeconds, Cond.selects RX2 yX2_quietSeconds yX2_quietSeconds, Cond.code yX2_quietSeconds cX2_quietSeconds 5 (some .int), Cond.fieldLink RX2 25 "BellStreet$House" "quietFrom" "I", Cond.fieldLink RX2 29 "BellStreet$House" "quietTo" "I", Cond.methodLink RX2 61 yX2_shared, Cond.static yX2_shared, Cond.code yX2_shared cX2_shared 4 (some .int), Cond.methodLink RX2 65 Lib.Math.min.name, Cond.static Lib.Math.min.name, Cond.initialized "java/lang/Math", Cond.code Lib.Math.min.name Lib.Math.min.code 2 (some .int), Cond.methodLink RX2 70 Lib.Math.max.name, Cond.static Lib.Math.max.name, Cond.code Lib.Math.max.name Lib.Math.max.code 2 (some .int), Cond.methodLink RX4 153 yX2_mayRing, Cond.instanceMethod yX2_mayRing, Cond.selects RX2 yX2_mayRing yX2_mayRing, Cond.code yX2_mayRing cX2_mayRing 2 (some .boolean), Cond.fieldLink RX2 50 "BellStreet$House" "number" "I", Cond.fieldLink RX2 17 "BellStreet$House" "rights" "[I"]
def wsL_presses_r4 : List Cond := [Cond.methodLink RX4 156 yX2_ringingLoad, Cond.instanceMethod yX2_ringingLoad, Cond.selects RX2 yX2_ringingLoad yX2_ringingLoad, Cond.code yX2_ringingLoad cX2_ringingLoad 6 (some .int), Cond.methodLink RX4 160 yX2_breakDown, Cond.instanceMethod yX2_breakDown, Cond.selects RX2 yX2_breakDown yX2_breakDown, Cond.code yX2_breakDown cX2_breakDown 5 none, Cond.fieldLink RX2 21 "BellStreet$House" "sound" "Z", Cond.methodLink RX4 163 yX2_useRight, Cond.instanceMethod yX2_useRight, Cond.selects RX2 yX2_useRight yX2_useRight, Cond.code yX2_useRight cX2_useRight 2 none, Cond.methodLink RX4 167 yX3_lasts, Cond.instanceMethod yX3_lasts, Cond.selects RX3 yX3_lasts yX3_lasts, Cond.initialized RX3, Cond.code yX3_lasts cX3_lasts 1 (some .int), Cond.fieldLink RX3 18 "BellStreet$Melody" "count" "I", Cond.methodLink RX4 170 yX0_ringUntil, Cond.instanceMethod yX0_ringUntil, Cond.selects RX0 yX0_ringUntil yX0_ringUntil, Cond.initialized RX0, Cond.code yX0_ringUntil cX0_ringUntil 2 none]
def wsL_presses_r5 : List Cond := [Cond.fieldLink RX0 17 "BellStreet$Bell" "isRinging" "Z", Cond.fieldLink RX0 21 "BellStreet$Bell" "stopsAt" "I"]
def wsL_presses : List Cond := .code yL_presses cL_presses 8 (some .boolean) :: ((wsL_presses_r1 ++ (wsL_presses_r2 ++ (wsL_presses_r3 ++ (wsL_presses_r4 ++ wsL_presses_r5)))) ++ wsX40 ++ wsX20 ++ wsX00 ++ wsX30 ++ (vx_atS RX4 76 "java/lang/IndexOutOfBoundsException" ["java/lang/RuntimeException", "java/lang/Exception"]).filter goodWord ++ (vx_atS RX4 61 "java/lang/IllegalStateException" ["java/lang/RuntimeException", "java/lang/Exception"]).filter goodWord)
def wsL_faulty_r1 : List Cond := [Cond.methodLink RL 36 yX4_faults, Cond.instanceMethod yX4_faults, Cond.selects RX4 yX4_faults yX4_faults, Cond.initialized RX4, Cond.code yX4_faults cX4_faults 1 (some .int), Cond.fieldLink RX4 35 "BellStreet" "faultCount" "I", Cond.methodLink RL 45 yX4_isSound, Cond.instanceMethod yX4_isSound, Cond.selects RX4 yX4_isSound yX4_isSound, Cond.code yX4_isSound cX4_isSound 2 (some .boolean), Cond.methodLink RX4 95 yX4_houseAt, Cond.instanceMethod yX4_houseAt, Cond.selects RX4 yX4_houseAt yX4_houseAt, Cond.code yX4_houseAt cX4_houseAt 2 (some (.object "BellStreet$House")), Cond.fieldLink RX4 11 "BellStreet" "houses" "[LBellStreet$House;", Cond.methodLink RX4 45 yX4_checkHouse, Cond.instanceMethod yX4_checkHouse, Cond.selects RX4 yX4_checkHouse yX4_checkHouse, Cond.code yX4_checkHouse cX4_checkHouse 2 none, Cond.classLink RX4 72 "java/lang/IndexOutOfBoundsException", Cond.initialized "java/lang/IndexOutOfBoundsException", Cond.methodLink RL 49 yX4_ringing, Cond.instanceMethod yX4_ringing, Cond.selects RX4 yX4_ringing yX4_ringing]
def wsL_faulty_r2 : List Cond := [Cond.code yX4_ringing cX4_ringing 2 (some .int), Cond.methodLink RX4 208 yX2_ringingSet, Cond.instanceMethod yX2_ringingSet, Cond.selects RX2 yX2_ringingSet yX2_ringingSet, Cond.initialized RX2, Cond.code yX2_ringingSet cX2_ringingSet 3 (some .int), Cond.fieldLink RX2 11 "BellStreet$House" "bells" "[LBellStreet$Bell;", Cond.methodLink RL 83 yL_bits, Cond.static yL_bits, Cond.initialized RL, Cond.code yL_bits cL_bits 1 (some .int), Cond.methodLink RL 86 yL_fault, Cond.static yL_fault, Cond.codeWith yL_fault cL_fault 3 (some .int) [(0, 5, 6, 15)], Cond.classLink RL 15 "java/lang/IllegalStateException", Cond.methodLink RL 25 yX4_fault, Cond.instanceMethod yX4_fault, Cond.selects RX4 yX4_fault yX4_fault, Cond.code yX4_fault cX4_fault 8 (some .int), Cond.classLink RX4 57 "java/lang/IllegalStateException", Cond.initialized "java/lang/IllegalStateException", Cond.fieldLink RX4 38 "BellStreet" "now" "I", Cond.fieldLink RX4 27 "BellStreet" "toldFaults" "[I", Cond.methodLink RX4 180 yX2_startBells]
def wsL_faulty_r3 : List Cond := [Cond.instanceMethod yX2_startBells, Cond.selects RX2 yX2_startBells yX2_startBells, Cond.code yX2_startBells cX2_startBells 7 (some .int), Cond.methodLink RX2 89 yX3_lasts, Cond.instanceMethod yX3_lasts, Cond.selects RX3 yX3_lasts yX3_lasts, Cond.initialized RX3, Cond.code yX3_lasts cX3_lasts 1 (some .int), Cond.fieldLink RX3 18 "BellStreet$Melody" "count" "I", Cond.methodLink RX2 93 yX0_ringUntil, Cond.instanceMethod yX0_ringUntil, Cond.selects RX0 yX0_ringUntil yX0_ringUntil, Cond.initialized RX0, Cond.code yX0_ringUntil cX0_ringUntil 2 none, Cond.fieldLink RX0 17 "BellStreet$Bell" "isRinging" "Z", Cond.fieldLink RX0 21 "BellStreet$Bell" "stopsAt" "I", Cond.methodLink RX4 160 yX2_breakDown, Cond.instanceMethod yX2_breakDown, Cond.selects RX2 yX2_breakDown yX2_breakDown, Cond.code yX2_breakDown cX2_breakDown 5 none, Cond.fieldLink RX2 21 "BellStreet$House" "sound" "Z", Cond.methodLink RL 39 yX4_faultAt, Cond.instanceMethod yX4_faultAt, Cond.selects RX4 yX4_faultAt yX4_faultAt]
def wsL_faulty_r4 : List Cond := [Cond.code yX4_faultAt cX4_faultAt 2 (some .int), Cond.methodLink RL 32 yX4_time, Cond.instanceMethod yX4_time, Cond.selects RX4 yX4_time yX4_time, Cond.code yX4_time cX4_time 1 (some .int)]
def wsL_faulty : List Cond := .code yL_faulty cL_faulty 8 (some .boolean) :: ((wsL_faulty_r1 ++ (wsL_faulty_r2 ++ (wsL_faulty_r3 ++ wsL_faulty_r4))) ++ wsX40 ++ wsX20 ++ wsX00 ++ wsX30 ++ (vx_atS RX4 76 "java/lang/IndexOutOfBoundsException" ["java/lang/RuntimeException", "java/lang/Exception"]).filter goodWord ++ (vx_atS RX4 61 "java/lang/IllegalStateException" ["java/lang/RuntimeException", "java/lang/Exception"]).filter goodWord)
def wsL_law0_r1 : List Cond := [Cond.classLink RL 10 RX4, Cond.instantiable RX4 7, Cond.initialized RX4, Cond.constant RL 101 (16777216), Cond.methodLink RL 89 yX4_init, Cond.instanceMethod yX4_init, Cond.code yX4_init cX4_init 2 none, Cond.methodLink RX4 1 objectInit, Cond.instanceMethod objectInit, Cond.code objectInit ⟨#[0xb1]⟩ 1 none, Cond.classLink RX4 9 RX2, Cond.fieldLink RX4 11 "BellStreet" "houses" "[LBellStreet$House;", Cond.classLink RX4 15 RX1, Cond.fieldLink RX4 17 "BellStreet" "crews" "[LBellStreet$Crew;", Cond.classLink RX4 21 RX3, Cond.fieldLink RX4 23 "BellStreet" "melodies" "[LBellStreet$Melody;", Cond.arrayClass .int, Cond.fieldLink RX4 27 "BellStreet" "toldFaults" "[I", Cond.fieldLink RX4 31 "BellStreet" "melodyCount" "I", Cond.fieldLink RX4 35 "BellStreet" "faultCount" "I", Cond.fieldLink RX4 38 "BellStreet" "now" "I", Cond.instantiable RX2 13, Cond.initialized RX2, Cond.instantiable RX1 2]
def wsL_law0_r2 : List Cond := [Cond.initialized RX1, Cond.methodLink RX4 41 yX2_init, Cond.instanceMethod yX2_init, Cond.code yX2_init cX2_init 3 none, Cond.methodLink RX2 3 objectInit, Cond.classLink RX2 9 RX0, Cond.fieldLink RX2 11 "BellStreet$House" "bells" "[LBellStreet$Bell;", Cond.fieldLink RX2 17 "BellStreet$House" "rights" "[I", Cond.fieldLink RX2 21 "BellStreet$House" "sound" "Z", Cond.fieldLink RX2 25 "BellStreet$House" "quietFrom" "I", Cond.fieldLink RX2 29 "BellStreet$House" "quietTo" "I", Cond.fieldLink RX2 32 "BellStreet$House" "score" "I", Cond.fieldLink RX2 35 "BellStreet$House" "rungSeconds" "I", Cond.fieldLink RX2 38 "BellStreet$House" "rungQuietSeconds" "I", Cond.fieldLink RX2 41 "BellStreet$House" "hushedPresses" "I", Cond.fieldLink RX2 44 "BellStreet$House" "faultsOfTheDay" "I", Cond.fieldLink RX2 47 "BellStreet$House" "keptQuietToday" "Z", Cond.fieldLink RX2 50 "BellStreet$House" "number" "I", Cond.fieldLink RX2 53 "BellStreet$House" "street" "I", Cond.instantiable RX0 4, Cond.initialized RX0, Cond.instanceMethod yX0_init, Cond.code yX0_init cX0_init 1 none, Cond.methodLink RX0 1 objectInit]
def wsL_law0_r3 : List Cond := [Cond.fieldLink RX0 7 "BellStreet$Bell" "melody" "LBellStreet$Melody;", Cond.fieldLink RX0 13 "BellStreet$Bell" "load" "I", Cond.fieldLink RX0 17 "BellStreet$Bell" "isRinging" "Z", Cond.fieldLink RX0 21 "BellStreet$Bell" "stopsAt" "I", Cond.instanceMethod yX1_init, Cond.code yX1_init cX1_init 1 none, Cond.methodLink RX1 1 objectInit, Cond.fieldLink RX1 7 "BellStreet$Crew" "goal" "LBellStreet$House;", Cond.fieldLink RX1 13 "BellStreet$Crew" "doneAt" "I", Cond.methodLink RL 90 yL_holds, Cond.static yL_holds, Cond.initialized RL, Cond.code yL_holds cL_holds 6 (some .boolean), Cond.methodLink RL 32 yX4_time, Cond.instanceMethod yX4_time, Cond.selects RX4 yX4_time yX4_time, Cond.code yX4_time cX4_time 1 (some .int), Cond.methodLink RL 36 yX4_faults, Cond.instanceMethod yX4_faults, Cond.selects RX4 yX4_faults yX4_faults, Cond.code yX4_faults cX4_faults 1 (some .int), Cond.methodLink RL 39 yX4_faultAt, Cond.instanceMethod yX4_faultAt, Cond.selects RX4 yX4_faultAt yX4_faultAt]
def wsL_law0_r4 : List Cond := [Cond.code yX4_faultAt cX4_faultAt 2 (some .int), Cond.classLink RX4 72 "java/lang/IndexOutOfBoundsException", Cond.initialized "java/lang/IndexOutOfBoundsException", Cond.methodLink RL 42 yX4_points, Cond.instanceMethod yX4_points, Cond.selects RX4 yX4_points yX4_points, Cond.code yX4_points cX4_points 2 (some .int), Cond.methodLink RX4 95 yX4_houseAt, Cond.instanceMethod yX4_houseAt, Cond.selects RX4 yX4_houseAt yX4_houseAt, Cond.code yX4_houseAt cX4_houseAt 2 (some (.object "BellStreet$House")), Cond.methodLink RX4 45 yX4_checkHouse, Cond.instanceMethod yX4_checkHouse, Cond.selects RX4 yX4_checkHouse yX4_checkHouse, Cond.code yX4_checkHouse cX4_checkHouse 2 none, Cond.methodLink RL 45 yX4_isSound, Cond.instanceMethod yX4_isSound, Cond.selects RX4 yX4_isSound yX4_isSound, Cond.code yX4_isSound cX4_isSound 2 (some .boolean), Cond.methodLink RL 49 yX4_ringing, Cond.instanceMethod yX4_ringing, Cond.selects RX4 yX4_ringing yX4_ringing, Cond.code yX4_ringing cX4_ringing 2 (some .int), Cond.methodLink RX4 208 yX2_ringingSet]
def wsL_law0_r5 : List Cond := [Cond.instanceMethod yX2_ringingSet, Cond.selects RX2 yX2_ringingSet yX2_ringingSet, Cond.code yX2_ringingSet cX2_ringingSet 3 (some .int), Cond.methodLink RL 52 yX4_quietBroken, Cond.instanceMethod yX4_quietBroken, Cond.selects RX4 yX4_quietBroken yX4_quietBroken, Cond.code yX4_quietBroken cX4_quietBroken 2 (some .int), Cond.methodLink RL 55 yX4_secondsRung, Cond.instanceMethod yX4_secondsRung, Cond.selects RX4 yX4_secondsRung yX4_secondsRung, Cond.code yX4_secondsRung cX4_secondsRung 2 (some .int), Cond.methodLink RL 58 yX4_hushed, Cond.instanceMethod yX4_hushed, Cond.selects RX4 yX4_hushed yX4_hushed, Cond.code yX4_hushed cX4_hushed 2 (some .int), Cond.methodLink RL 94 yL_cell, Cond.static yL_cell, Cond.code yL_cell cL_cell 2 (some .int), Cond.constant RL 8 (40503), Cond.methodLink RL 98 yL_low, Cond.static yL_low, Cond.code yL_low cL_low 2 (some .int), Cond.constant RL 7 (2147483647), Cond.methodLink RL 102 yL_melody]
def wsL_law0_r6 : List Cond := [Cond.static yL_melody, Cond.codeWith yL_melody cL_melody 6 (some .int) [(0, 7, 8, 15)], Cond.classLink RL 15 "java/lang/IllegalStateException", Cond.methodLink RL 9 yX4_addMelody, Cond.instanceMethod yX4_addMelody, Cond.selects RX4 yX4_addMelody yX4_addMelody, Cond.code yX4_addMelody cX4_addMelody 6 (some .int), Cond.classLink RX4 48 "java/lang/IllegalArgumentException", Cond.initialized "java/lang/IllegalArgumentException", Cond.classLink RX4 57 "java/lang/IllegalStateException", Cond.initialized "java/lang/IllegalStateException", Cond.instantiable RX3 4, Cond.initialized RX3, Cond.methodLink RX4 62 yX3_init, Cond.instanceMethod yX3_init, Cond.code yX3_init cX3_init 6 none, Cond.methodLink RX3 3 objectInit, Cond.fieldLink RX3 9 "BellStreet$Melody" "number" "I", Cond.fieldLink RX3 15 "BellStreet$Melody" "owner" "I", Cond.fieldLink RX3 18 "BellStreet$Melody" "count" "I", Cond.fieldLink RX3 21 "BellStreet$Melody" "tones" "J", Cond.methodLink RL 106 yL_melodies, Cond.static yL_melodies, Cond.code yL_melodies cL_melodies 10 (some .boolean)]
def wsL_law0_r7 : List Cond := [Cond.constantLong RL 72 (15), Cond.methodLink RL 61 yX4_areAlike, Cond.instanceMethod yX4_areAlike, Cond.selects RX4 yX4_areAlike yX4_areAlike, Cond.code yX4_areAlike cX4_areAlike 3 (some .boolean), Cond.methodLink RX4 65 yX4_melodyAt, Cond.instanceMethod yX4_melodyAt, Cond.selects RX4 yX4_melodyAt yX4_melodyAt, Cond.code yX4_melodyAt cX4_melodyAt 3 (some (.object "BellStreet$Melody")), Cond.methodLink RX4 91 yX3_isShiftOf, Cond.instanceMethod yX3_isShiftOf, Cond.selects RX3 yX3_isShiftOf yX3_isShiftOf, Cond.code yX3_isShiftOf cX3_isShiftOf 3 (some .boolean), Cond.methodLink RX3 25 yX3_tone, Cond.instanceMethod yX3_tone, Cond.selects RX3 yX3_tone yX3_tone, Cond.code yX3_tone cX3_tone 2 (some .int), Cond.methodLink RX3 29 yX3_tonesShifted, Cond.instanceMethod yX3_tonesShifted, Cond.selects RX3 yX3_tonesShifted yX3_tonesShifted, Cond.code yX3_tonesShifted cX3_tonesShifted 5 (some .long), Cond.methodLink RL 65 yX4_shifted, Cond.instanceMethod yX4_shifted, Cond.selects RX4 yX4_shifted yX4_shifted]
def wsL_law0_r8 : List Cond := [Cond.code yX4_shifted cX4_shifted 4 (some .long), Cond.methodLink RX4 83 yX3_tonesShifted, Cond.methodLink RL 69 yX4_toneAt, Cond.instanceMethod yX4_toneAt, Cond.selects RX4 yX4_toneAt yX4_toneAt, Cond.code yX4_toneAt cX4_toneAt 4 (some .int), Cond.methodLink RX4 77 yX3_tone, Cond.methodLink RL 74 yX4_turned, Cond.instanceMethod yX4_turned, Cond.selects RX4 yX4_turned yX4_turned, Cond.code yX4_turned cX4_turned 2 (some .long), Cond.methodLink RX4 87 yX3_tonesTurned, Cond.instanceMethod yX3_tonesTurned, Cond.selects RX3 yX3_tonesTurned yX3_tonesTurned, Cond.code yX3_tonesTurned cX3_tonesTurned 4 (some .long), Cond.methodLink RL 110 yX4_ringsLeft, Cond.instanceMethod yX4_ringsLeft, Cond.selects RX4 yX4_ringsLeft yX4_ringsLeft, Cond.code yX4_ringsLeft cX4_ringsLeft 4 (some .int), Cond.methodLink RL 113 yL_license, Cond.static yL_license, Cond.codeWith yL_license cL_license 5 (some .int) [(0, 7, 8, 15)], Cond.methodLink RL 17 yX4_license, Cond.instanceMethod yX4_license]
def wsL_law0_r9 : List Cond := [Cond.selects RX4 yX4_license yX4_license, Cond.code yX4_license cX4_license 6 (some .int), Cond.methodLink RL 116 yX4_lay, Cond.instanceMethod yX4_lay, Cond.selects RX4 yX4_lay yX4_lay, Cond.code yX4_lay cX4_lay 8 (some .int), Cond.methodLink RX4 123 yX4_bellAt, Cond.instanceMethod yX4_bellAt, Cond.selects RX4 yX4_bellAt yX4_bellAt, Cond.code yX4_bellAt cX4_bellAt 4 (some (.object "BellStreet$Bell")), Cond.methodLink RL 120 yL_presses, Cond.static yL_presses, Cond.code yL_presses cL_presses 8 (some .boolean), Cond.methodLink RL 78 yL_press, Cond.static yL_press, Cond.codeWith yL_press cL_press 4 (some .int) [(0, 6, 7, 15)], Cond.methodLink RL 21 yX4_press, Cond.instanceMethod yX4_press, Cond.selects RX4 yX4_press yX4_press, Cond.code yX4_press cX4_press 6 (some .int), Cond.methodLink RX4 119 yX2_isQuietAt, Cond.instanceMethod yX2_isQuietAt, Cond.selects RX2 yX2_isQuietAt yX2_isQuietAt, Cond.code yX2_isQuietAt cX2_isQuietAt 2 (some .boolean)]
def wsL_law0_r10 : List Cond := [Cond.methodLink RX2 57 yX2_quietSeconds, Cond.instanceMethod yX2_quietSeconds, Cond.selects RX2 yX2_quietSeconds yX2_quietSeconds, Cond.code yX2_quietSeconds cX2_quietSeconds 5 (some .int), Cond.methodLink RX2 61 yX2_shared, Cond.static yX2_shared, Cond.code yX2_shared cX2_shared 4 (some .int), Cond.methodLink RX2 65 Lib.Math.min.name, Cond.static Lib.Math.min.name, Cond.initialized "java/lang/Math", Cond.code Lib.Math.min.name Lib.Math.min.code 2 (some .int), Cond.methodLink RX2 70 Lib.Math.max.name, Cond.static Lib.Math.max.name, Cond.code Lib.Math.max.name Lib.Math.max.code 2 (some .int), Cond.methodLink RX4 153 yX2_mayRing, Cond.instanceMethod yX2_mayRing, Cond.selects RX2 yX2_mayRing yX2_mayRing, Cond.code yX2_mayRing cX2_mayRing 2 (some .boolean), Cond.methodLink RX4 156 yX2_ringingLoad, Cond.instanceMethod yX2_ringingLoad, Cond.selects RX2 yX2_ringingLoad yX2_ringingLoad, Cond.code yX2_ringingLoad cX2_ringingLoad 6 (some .int), Cond.methodLink RX4 160 yX2_breakDown, Cond.instanceMethod yX2_breakDown]
def wsL_law0_r11 : List Cond := [Cond.selects RX2 yX2_breakDown yX2_breakDown, Cond.code yX2_breakDown cX2_breakDown 5 none, Cond.methodLink RX4 163 yX2_useRight, Cond.instanceMethod yX2_useRight, Cond.selects RX2 yX2_useRight yX2_useRight, Cond.code yX2_useRight cX2_useRight 2 none, Cond.methodLink RX4 167 yX3_lasts, Cond.instanceMethod yX3_lasts, Cond.selects RX3 yX3_lasts yX3_lasts, Cond.code yX3_lasts cX3_lasts 1 (some .int), Cond.methodLink RX4 170 yX0_ringUntil, Cond.instanceMethod yX0_ringUntil, Cond.selects RX0 yX0_ringUntil yX0_ringUntil, Cond.code yX0_ringUntil cX0_ringUntil 2 none, Cond.methodLink RL 124 yL_faulty, Cond.static yL_faulty, Cond.code yL_faulty cL_faulty 8 (some .boolean), Cond.methodLink RL 83 yL_bits, Cond.static yL_bits, Cond.code yL_bits cL_bits 1 (some .int), Cond.methodLink RL 86 yL_fault, Cond.static yL_fault, Cond.codeWith yL_fault cL_fault 3 (some .int) [(0, 5, 6, 15)], Cond.methodLink RL 25 yX4_fault]
def wsL_law0_r12 : List Cond := [Cond.instanceMethod yX4_fault, Cond.selects RX4 yX4_fault yX4_fault, Cond.code yX4_fault cX4_fault 8 (some .int), Cond.methodLink RX4 180 yX2_startBells, Cond.instanceMethod yX2_startBells, Cond.selects RX2 yX2_startBells yX2_startBells, Cond.code yX2_startBells cX2_startBells 7 (some .int), Cond.methodLink RX2 89 yX3_lasts, Cond.methodLink RX2 93 yX0_ringUntil, Cond.methodLink RL 128 yL_repair, Cond.static yL_repair, Cond.codeWith yL_repair cL_repair 3 (some .int) [(0, 5, 6, 15)], Cond.methodLink RL 29 yX4_repair, Cond.instanceMethod yX4_repair, Cond.selects RX4 yX4_repair yX4_repair, Cond.code yX4_repair cX4_repair 4 (some .int), Cond.methodLink RL 130 yX4_setQuiet, Cond.instanceMethod yX4_setQuiet, Cond.selects RX4 yX4_setQuiet yX4_setQuiet, Cond.code yX4_setQuiet cX4_setQuiet 5 (some .boolean), Cond.methodLink RL 134 yX4_pass, Cond.instanceMethod yX4_pass, Cond.selects RX4 yX4_pass yX4_pass, Cond.code yX4_pass cX4_pass 4 (some .int)]
def wsL_law0_r13 : List Cond := [Cond.constant RX4 199 (1000000), Cond.methodLink RX4 202 yX4_nextChange, Cond.instanceMethod yX4_nextChange, Cond.selects RX4 yX4_nextChange yX4_nextChange, Cond.code yX4_nextChange cX4_nextChange 7 (some .int), Cond.methodLink RX4 232 Lib.Math.min.name, Cond.methodLink RX4 238 yX2_firstStop, Cond.instanceMethod yX2_firstStop, Cond.selects RX2 yX2_firstStop yX2_firstStop, Cond.code yX2_firstStop cX2_firstStop 7 (some .int), Cond.methodLink RX4 205 yX4_passStretch, Cond.instanceMethod yX4_passStretch, Cond.selects RX4 yX4_passStretch yX4_passStretch, Cond.code yX4_passStretch cX4_passStretch 6 none, Cond.methodLink RX4 241 yX2_spend, Cond.instanceMethod yX2_spend, Cond.selects RX2 yX2_spend yX2_spend, Cond.code yX2_spend cX2_spend 4 none, Cond.methodLink RX2 100 yX2_ringingSet, Cond.methodLink RX4 245 yX2_stopEndedBells, Cond.instanceMethod yX2_stopEndedBells, Cond.selects RX2 yX2_stopEndedBells yX2_stopEndedBells, Cond.code yX2_stopEndedBells cX2_stopEndedBells 6 none, Cond.methodLink RX4 248 yX1_finish]
def wsL_law0_r14 : List Cond := [Cond.instanceMethod yX1_finish, Cond.selects RX1 yX1_finish yX1_finish, Cond.code yX1_finish cX1_finish 2 none, Cond.methodLink RX4 251 yX2_closeDay, Cond.instanceMethod yX2_closeDay, Cond.selects RX2 yX2_closeDay yX2_closeDay, Cond.code yX2_closeDay cX2_closeDay 1 none]
def wsL_law0 : List Cond := (wsL_law0_r1 ++ (wsL_law0_r2 ++ (wsL_law0_r3 ++ (wsL_law0_r4 ++ (wsL_law0_r5 ++ (wsL_law0_r6 ++ (wsL_law0_r7 ++ (wsL_law0_r8 ++ (wsL_law0_r9 ++ (wsL_law0_r10 ++ (wsL_law0_r11 ++ (wsL_law0_r12 ++ (wsL_law0_r13 ++ wsL_law0_r14))))))))))))) ++ wsX40 ++ wsX20 ++ wsX10 ++ wsX00 ++ wsX30 ++ ([] : List Cond)
def wsL_law : List Cond := wsL_law0 ++ (vx_atS RX4 76 "java/lang/IndexOutOfBoundsException" ["java/lang/RuntimeException", "java/lang/Exception"]).filter goodWord ++ (vx_atS RX4 52 "java/lang/IllegalArgumentException" ["java/lang/RuntimeException", "java/lang/Exception"]).filter goodWord ++ (vx_atS RX4 61 "java/lang/IllegalStateException" ["java/lang/RuntimeException", "java/lang/Exception"]).filter goodWord
theorem wsL_in_r1 : ∀ w ∈ wsL_law0_r1, w ∈ lw_tbl := fun w h => (goodIn_p wsL_law0_r1 [25, 28] (by decide +kernel) (by decide +kernel) w h).1
theorem wsL_in_r2 : ∀ w ∈ wsL_law0_r2, w ∈ lw_tbl := fun w h => (goodIn_p wsL_law0_r2 [38, 45] (by decide +kernel) (by decide +kernel) w h).1
theorem wsL_in_r3 : ∀ w ∈ wsL_law0_r3, w ∈ lw_tbl := fun w h => (goodIn_p wsL_law0_r3 [123, 419, 342, 423] (by decide +kernel) (by decide +kernel) w h).1
theorem wsL_in_r4 : ∀ w ∈ wsL_law0_r4, w ∈ lw_tbl := fun w h => (goodIn_p wsL_law0_r4 [427, 432, 163, 167, 351, 346] (by decide +kernel) (by decide +kernel) w h).1
theorem wsL_in_r5 : ∀ w ∈ wsL_law0_r5, w ∈ lw_tbl := fun w h => (goodIn_p wsL_law0_r5 [326, 436, 440, 444, 362, 358] (by decide +kernel) (by decide +kernel) w h).1
theorem wsL_in_r6 : ∀ w ∈ wsL_law0_r6, w ∈ lw_tbl := fun w h => (goodIn_p wsL_law0_r6 [371, 378, 447] (by decide +kernel) (by decide +kernel) w h).1
theorem wsL_in_r7 : ∀ w ∈ wsL_law0_r7, w ∈ lw_tbl := fun w h => (goodIn_p wsL_law0_r7 [451, 281, 455, 459, 463] (by decide +kernel) (by decide +kernel) w h).1
theorem wsL_in_r8 : ∀ w ∈ wsL_law0_r8, w ∈ lw_tbl := fun w h => (goodIn_p wsL_law0_r8 [467, 473, 480, 484, 355] (by decide +kernel) (by decide +kernel) w h).1
theorem wsL_in_r9 : ∀ w ∈ wsL_law0_r9, w ∈ lw_tbl := fun w h => (goodIn_p wsL_law0_r9 [404, 272, 276, 487, 494, 255] (by decide +kernel) (by decide +kernel) w h).1
theorem wsL_in_r10 : ∀ w ∈ wsL_law0_r10, w ∈ lw_tbl := fun w h => (goodIn_p wsL_law0_r10 [259, 262, 265, 268, 499, 503] (by decide +kernel) (by decide +kernel) w h).1
theorem wsL_in_r11 : ∀ w ∈ wsL_law0_r11, w ∈ lw_tbl := fun w h => (goodIn_p wsL_law0_r11 [507, 511, 515, 519, 522, 525] (by decide +kernel) (by decide +kernel) w h).1
theorem wsL_in_r12 : ∀ w ∈ wsL_law0_r12, w ∈ lw_tbl := fun w h => (goodIn_p wsL_law0_r12 [532, 538, 414, 159, 287] (by decide +kernel) (by decide +kernel) w h).1
theorem wsL_in_r13 : ∀ w ∈ wsL_law0_r13, w ∈ lw_tbl := fun w h => (goodIn_p wsL_law0_r13 [309, 314, 318, 322, 330] (by decide +kernel) (by decide +kernel) w h).1
theorem wsL_in_r14 : ∀ w ∈ wsL_law0_r14, w ∈ lw_tbl := fun w h => (goodIn_p wsL_law0_r14 [334, 338] (by decide +kernel) (by decide +kernel) w h).1
theorem in_ap {a b T : List Cond} (ha : ∀ w ∈ a, w ∈ T) (hb : ∀ w ∈ b, w ∈ T) : ∀ w ∈ a ++ b, w ∈ T := fun w h => (List.mem_append.mp h).elim (ha w) (hb w)
theorem wsL_in_x4 : ∀ w ∈ wsX40, w ∈ lw_tbl := by decide +kernel
theorem wsL_in_x2 : ∀ w ∈ wsX20, w ∈ lw_tbl := by decide +kernel
theorem wsL_in_x1 : ∀ w ∈ wsX10, w ∈ lw_tbl := by decide +kernel
theorem wsL_in_x0 : ∀ w ∈ wsX00, w ∈ lw_tbl := by decide +kernel
theorem wsL_in_x3 : ∀ w ∈ wsX30, w ∈ lw_tbl := by decide +kernel
theorem wsL_law_in0 : ∀ w ∈ wsL_law0, w ∈ lw_tbl := in_ap (in_ap (in_ap (in_ap (in_ap (in_ap (in_ap wsL_in_r1 (in_ap wsL_in_r2 (in_ap wsL_in_r3 (in_ap wsL_in_r4 (in_ap wsL_in_r5 (in_ap wsL_in_r6 (in_ap wsL_in_r7 (in_ap wsL_in_r8 (in_ap wsL_in_r9 (in_ap wsL_in_r10 (in_ap wsL_in_r11 (in_ap wsL_in_r12 (in_ap wsL_in_r13 (wsL_in_r14)))))))))))))) wsL_in_x4) wsL_in_x2) wsL_in_x1) wsL_in_x0) wsL_in_x3) (fun _ h => absurd h List.not_mem_nil)
theorem wsL_law_x0 : ∀ w ∈ (vx_atS RX4 76 "java/lang/IndexOutOfBoundsException" ["java/lang/RuntimeException", "java/lang/Exception"]).filter goodWord, w ∈ lw_tbl := by decide +kernel
theorem wsL_law_x1 : ∀ w ∈ (vx_atS RX4 52 "java/lang/IllegalArgumentException" ["java/lang/RuntimeException", "java/lang/Exception"]).filter goodWord, w ∈ lw_tbl := by decide +kernel
theorem wsL_law_x2 : ∀ w ∈ (vx_atS RX4 61 "java/lang/IllegalStateException" ["java/lang/RuntimeException", "java/lang/Exception"]).filter goodWord, w ∈ lw_tbl := by decide +kernel
theorem wsL_law_in : ∀ w ∈ wsL_law, w ∈ lw_tbl := fun w h => (List.mem_append.mp h).elim (fun h => (List.mem_append.mp h).elim (fun h => (List.mem_append.mp h).elim (fun h => wsL_law_in0 w h) (fun h => wsL_law_x0 w h)) (fun h => wsL_law_x1 w h)) (fun h => wsL_law_x2 w h)
theorem inlX0 : ∀ w ∈ wsX00, w ∈ wsL_law := fun _ h => List.mem_append_left _ (List.mem_append_left _ (List.mem_append_left _ (List.mem_append_left _ (List.mem_append_left _ (List.mem_append_right _ h)))))
theorem inX0 : ∀ w ∈ wsX00, w ∈ lw_tbl := fun w h => wsL_law_in w (inlX0 w h)
theorem inlX1 : ∀ w ∈ wsX10, w ∈ wsL_law := fun _ h => List.mem_append_left _ (List.mem_append_left _ (List.mem_append_left _ (List.mem_append_left _ (List.mem_append_left _ (List.mem_append_left _ (List.mem_append_right _ h))))))
theorem inX1 : ∀ w ∈ wsX10, w ∈ lw_tbl := fun w h => wsL_law_in w (inlX1 w h)
theorem inlX2 : ∀ w ∈ wsX20, w ∈ wsL_law := fun _ h => List.mem_append_left _ (List.mem_append_left _ (List.mem_append_left _ (List.mem_append_left _ (List.mem_append_left _ (List.mem_append_left _ (List.mem_append_left _ (List.mem_append_right _ h)))))))
theorem inX2 : ∀ w ∈ wsX20, w ∈ lw_tbl := fun w h => wsL_law_in w (inlX2 w h)
theorem inlX3 : ∀ w ∈ wsX30, w ∈ wsL_law := fun _ h => List.mem_append_left _ (List.mem_append_left _ (List.mem_append_left _ (List.mem_append_left _ (List.mem_append_right _ h))))
theorem inX3 : ∀ w ∈ wsX30, w ∈ lw_tbl := fun w h => wsL_law_in w (inlX3 w h)
theorem inlX4 : ∀ w ∈ wsX40, w ∈ wsL_law := fun _ h => List.mem_append_left _ (List.mem_append_left _ (List.mem_append_left _ (List.mem_append_left _ (List.mem_append_left _ (List.mem_append_left _ (List.mem_append_left _ (List.mem_append_left _ (List.mem_append_right _ h))))))))
theorem inX4 : ∀ w ∈ wsX40, w ∈ lw_tbl := fun w h => wsL_law_in w (inlX4 w h)
theorem inX5 : ∀ w ∈ wsX50, w ∈ lw_tbl := by decide +kernel
theorem inJ9 : ∀ w ∈ wsJ90, w ∈ lw_tbl := by decide +kernel
theorem inJ0 : ∀ w ∈ wsJ00, w ∈ lw_tbl := by decide +kernel
theorem dX0_init_0 : decode cX0_init 0 = .ok (.aload_n 0, 1) := by decide +kernel
theorem dX0_init_1 : decode cX0_init 1 = .ok (.invokespecial 1, 3) := by decide +kernel
theorem dX0_init_4 : decode cX0_init 4 = .ok (.aload_n 0, 1) := by decide +kernel
theorem dX0_init_5 : decode cX0_init 5 = .ok (.aconst_null, 1) := by decide +kernel
theorem dX0_init_6 : decode cX0_init 6 = .ok (.putfield 7, 3) := by decide +kernel
theorem dX0_init_9 : decode cX0_init 9 = .ok (.aload_n 0, 1) := by decide +kernel
theorem dX0_init_10 : decode cX0_init 10 = .ok (.iconst 1, 1) := by decide +kernel
theorem dX0_init_11 : decode cX0_init 11 = .ok (.putfield 13, 3) := by decide +kernel
theorem dX0_init_14 : decode cX0_init 14 = .ok (.aload_n 0, 1) := by decide +kernel
theorem dX0_init_15 : decode cX0_init 15 = .ok (.iconst 0, 1) := by decide +kernel
theorem dX0_init_16 : decode cX0_init 16 = .ok (.putfield 17, 3) := by decide +kernel
theorem dX0_init_19 : decode cX0_init 19 = .ok (.aload_n 0, 1) := by decide +kernel
theorem dX0_init_20 : decode cX0_init 20 = .ok (.iconst 0, 1) := by decide +kernel
theorem dX0_init_21 : decode cX0_init 21 = .ok (.putfield 21, 3) := by decide +kernel
theorem dX0_init_24 : decode cX0_init 24 = .ok (.return_, 1) := by decide +kernel
theorem dX0_ringUntil_0 : decode cX0_ringUntil 0 = .ok (.aload_n 0, 1) := by decide +kernel
theorem dX0_ringUntil_1 : decode cX0_ringUntil 1 = .ok (.iconst 1, 1) := by decide +kernel
theorem dX0_ringUntil_2 : decode cX0_ringUntil 2 = .ok (.putfield 17, 3) := by decide +kernel
theorem dX0_ringUntil_5 : decode cX0_ringUntil 5 = .ok (.aload_n 0, 1) := by decide +kernel
theorem dX0_ringUntil_6 : decode cX0_ringUntil 6 = .ok (.iload_n 1, 1) := by decide +kernel
theorem dX0_ringUntil_7 : decode cX0_ringUntil 7 = .ok (.putfield 21, 3) := by decide +kernel
theorem dX0_ringUntil_10 : decode cX0_ringUntil 10 = .ok (.return_, 1) := by decide +kernel
theorem dX1_init_0 : decode cX1_init 0 = .ok (.aload_n 0, 1) := by decide +kernel
theorem dX1_init_1 : decode cX1_init 1 = .ok (.invokespecial 1, 3) := by decide +kernel
theorem dX1_init_4 : decode cX1_init 4 = .ok (.aload_n 0, 1) := by decide +kernel
theorem dX1_init_5 : decode cX1_init 5 = .ok (.aconst_null, 1) := by decide +kernel
theorem dX1_init_6 : decode cX1_init 6 = .ok (.putfield 7, 3) := by decide +kernel
theorem dX1_init_9 : decode cX1_init 9 = .ok (.aload_n 0, 1) := by decide +kernel
theorem dX1_init_10 : decode cX1_init 10 = .ok (.iconst 0, 1) := by decide +kernel
theorem dX1_init_11 : decode cX1_init 11 = .ok (.putfield 13, 3) := by decide +kernel
theorem dX1_init_14 : decode cX1_init 14 = .ok (.return_, 1) := by decide +kernel
theorem dX1_finish_0 : decode cX1_finish 0 = .ok (.aload_n 0, 1) := by decide +kernel
theorem dX1_finish_1 : decode cX1_finish 1 = .ok (.getfield 7, 3) := by decide +kernel
theorem dX1_finish_4 : decode cX1_finish 4 = .ok (.ifnull 24, 3) := by decide +kernel
theorem dX1_finish_7 : decode cX1_finish 7 = .ok (.aload_n 0, 1) := by decide +kernel
theorem dX1_finish_8 : decode cX1_finish 8 = .ok (.getfield 13, 3) := by decide +kernel
theorem dX1_finish_11 : decode cX1_finish 11 = .ok (.iload_n 1, 1) := by decide +kernel
theorem dX1_finish_12 : decode cX1_finish 12 = .ok (.if_icmp .gt 16, 3) := by decide +kernel
theorem dX1_finish_15 : decode cX1_finish 15 = .ok (.aload_n 0, 1) := by decide +kernel
theorem dX1_finish_16 : decode cX1_finish 16 = .ok (.getfield 7, 3) := by decide +kernel
theorem dX1_finish_19 : decode cX1_finish 19 = .ok (.iconst 1, 1) := by decide +kernel
theorem dX1_finish_20 : decode cX1_finish 20 = .ok (.putfield 17, 3) := by decide +kernel
theorem dX1_finish_23 : decode cX1_finish 23 = .ok (.aload_n 0, 1) := by decide +kernel
theorem dX1_finish_24 : decode cX1_finish 24 = .ok (.aconst_null, 1) := by decide +kernel
theorem dX1_finish_25 : decode cX1_finish 25 = .ok (.putfield 7, 3) := by decide +kernel
theorem dX1_finish_28 : decode cX1_finish 28 = .ok (.return_, 1) := by decide +kernel
set_option maxRecDepth 20000 in
theorem ggX2_init_X0_init : GoodIn wsX2_init wsX0_init := goodIn_r _ [22, 23, 2, 3, 24, 25, 26, 27, 41, 42, 43, 44] (by decide +kernel) (by decide +kernel)
set_option maxRecDepth 20000 in
theorem gX2_init_X0_init_n56 : GoodIn wsX2_init (wsX0_init) := ggX2_init_X0_init
theorem dX2_init_0 : decode cX2_init 0 = .ok (.aload_n 0, 1) := by decide +kernel
theorem dX2_init_1 : decode cX2_init 1 = .ok (.invokespecial 3, 3) := by decide +kernel
theorem dX2_init_4 : decode cX2_init 4 = .ok (.aload_n 0, 1) := by decide +kernel
theorem dX2_init_5 : decode cX2_init 5 = .ok (.iconst 3, 1) := by decide +kernel
theorem dX2_init_6 : decode cX2_init 6 = .ok (.anewarray 9, 3) := by decide +kernel
theorem dX2_init_9 : decode cX2_init 9 = .ok (.putfield 11, 3) := by decide +kernel
theorem dX2_init_12 : decode cX2_init 12 = .ok (.aload_n 0, 1) := by decide +kernel
theorem dX2_init_13 : decode cX2_init 13 = .ok (.bipush 12, 2) := by decide +kernel
theorem dX2_init_15 : decode cX2_init 15 = .ok (.newarray .int, 2) := by decide +kernel
theorem dX2_init_17 : decode cX2_init 17 = .ok (.putfield 17, 3) := by decide +kernel
theorem dX2_init_20 : decode cX2_init 20 = .ok (.aload_n 0, 1) := by decide +kernel
theorem dX2_init_21 : decode cX2_init 21 = .ok (.iconst 1, 1) := by decide +kernel
theorem dX2_init_22 : decode cX2_init 22 = .ok (.putfield 21, 3) := by decide +kernel
theorem dX2_init_25 : decode cX2_init 25 = .ok (.aload_n 0, 1) := by decide +kernel
theorem dX2_init_26 : decode cX2_init 26 = .ok (.iconst 0, 1) := by decide +kernel
theorem dX2_init_27 : decode cX2_init 27 = .ok (.putfield 25, 3) := by decide +kernel
theorem dX2_init_30 : decode cX2_init 30 = .ok (.aload_n 0, 1) := by decide +kernel
theorem dX2_init_31 : decode cX2_init 31 = .ok (.iconst 0, 1) := by decide +kernel
theorem dX2_init_32 : decode cX2_init 32 = .ok (.putfield 29, 3) := by decide +kernel
theorem dX2_init_35 : decode cX2_init 35 = .ok (.aload_n 0, 1) := by decide +kernel
theorem dX2_init_36 : decode cX2_init 36 = .ok (.iconst 0, 1) := by decide +kernel
theorem dX2_init_37 : decode cX2_init 37 = .ok (.putfield 32, 3) := by decide +kernel
theorem dX2_init_40 : decode cX2_init 40 = .ok (.aload_n 0, 1) := by decide +kernel
theorem dX2_init_41 : decode cX2_init 41 = .ok (.iconst 0, 1) := by decide +kernel
theorem dX2_init_42 : decode cX2_init 42 = .ok (.putfield 35, 3) := by decide +kernel
theorem dX2_init_45 : decode cX2_init 45 = .ok (.aload_n 0, 1) := by decide +kernel
theorem dX2_init_46 : decode cX2_init 46 = .ok (.iconst 0, 1) := by decide +kernel
theorem dX2_init_47 : decode cX2_init 47 = .ok (.putfield 38, 3) := by decide +kernel
theorem dX2_init_50 : decode cX2_init 50 = .ok (.aload_n 0, 1) := by decide +kernel
theorem dX2_init_51 : decode cX2_init 51 = .ok (.iconst 0, 1) := by decide +kernel
theorem dX2_init_52 : decode cX2_init 52 = .ok (.putfield 41, 3) := by decide +kernel
theorem dX2_init_55 : decode cX2_init 55 = .ok (.aload_n 0, 1) := by decide +kernel
theorem dX2_init_56 : decode cX2_init 56 = .ok (.iconst 0, 1) := by decide +kernel
theorem dX2_init_57 : decode cX2_init 57 = .ok (.putfield 44, 3) := by decide +kernel
theorem dX2_init_60 : decode cX2_init 60 = .ok (.aload_n 0, 1) := by decide +kernel
theorem dX2_init_61 : decode cX2_init 61 = .ok (.iconst 1, 1) := by decide +kernel
theorem dX2_init_62 : decode cX2_init 62 = .ok (.putfield 47, 3) := by decide +kernel
theorem dX2_init_65 : decode cX2_init 65 = .ok (.aload_n 0, 1) := by decide +kernel
theorem dX2_init_66 : decode cX2_init 66 = .ok (.iload_n 1, 1) := by decide +kernel
theorem dX2_init_67 : decode cX2_init 67 = .ok (.putfield 50, 3) := by decide +kernel
theorem dX2_init_70 : decode cX2_init 70 = .ok (.aload_n 0, 1) := by decide +kernel
theorem dX2_init_71 : decode cX2_init 71 = .ok (.iload_n 1, 1) := by decide +kernel
theorem dX2_init_72 : decode cX2_init 72 = .ok (.iconst 4, 1) := by decide +kernel
theorem dX2_init_73 : decode cX2_init 73 = .ok (.idiv, 1) := by decide +kernel
theorem dX2_init_74 : decode cX2_init 74 = .ok (.putfield 53, 3) := by decide +kernel
theorem dX2_init_77 : decode cX2_init 77 = .ok (.iconst 0, 1) := by decide +kernel
theorem dX2_init_78 : decode cX2_init 78 = .ok (.istore_n 2, 1) := by decide +kernel
theorem dX2_init_79 : decode cX2_init 79 = .ok (.iload_n 2, 1) := by decide +kernel
theorem dX2_init_80 : decode cX2_init 80 = .ok (.iconst 3, 1) := by decide +kernel
theorem dX2_init_81 : decode cX2_init 81 = .ok (.if_icmp .ge 22, 3) := by decide +kernel
theorem dX2_init_84 : decode cX2_init 84 = .ok (.aload_n 0, 1) := by decide +kernel
theorem dX2_init_85 : decode cX2_init 85 = .ok (.getfield 11, 3) := by decide +kernel
theorem dX2_init_88 : decode cX2_init 88 = .ok (.iload_n 2, 1) := by decide +kernel
theorem dX2_init_89 : decode cX2_init 89 = .ok (.new 9, 3) := by decide +kernel
theorem dX2_init_92 : decode cX2_init 92 = .ok (.dup, 1) := by decide +kernel
theorem dX2_init_93 : decode cX2_init 93 = .ok (.invokespecial 56, 3) := by decide +kernel
theorem dX2_init_96 : decode cX2_init 96 = .ok (.aastore, 1) := by decide +kernel
theorem dX2_init_97 : decode cX2_init 97 = .ok (.iinc 2 1, 3) := by decide +kernel
theorem dX2_init_100 : decode cX2_init 100 = .ok (.goto (-21), 3) := by decide +kernel
theorem dX2_init_103 : decode cX2_init 103 = .ok (.return_, 1) := by decide +kernel
set_option maxRecDepth 20000 in
theorem ggX2_isQuietAt_X2_quietSeconds : GoodIn wsX2_isQuietAt wsX2_quietSeconds := goodIn_r _ [5, 6, 7, 8, 9, 4, 10, 11, 12, 13, 14, 15, 16, 17, 18, 19, 20, 21, 22, 23, 24, 25, 26, 27, 28, 29, 30] (by decide +kernel) (by decide +kernel)
set_option maxRecDepth 20000 in
theorem gX2_isQuietAt_X2_quietSeconds : GoodIn wsX2_isQuietAt (wsV RX2 57 RX2 yX2_quietSeconds wsX2_quietSeconds) := goodIn_app (goodIn_of _ (by decide +kernel)) ggX2_isQuietAt_X2_quietSeconds
theorem dX2_isQuietAt_0 : decode cX2_isQuietAt 0 = .ok (.aload_n 0, 1) := by decide +kernel
theorem dX2_isQuietAt_1 : decode cX2_isQuietAt 1 = .ok (.iload_n 1, 1) := by decide +kernel
theorem dX2_isQuietAt_2 : decode cX2_isQuietAt 2 = .ok (.iload_n 1, 1) := by decide +kernel
theorem dX2_isQuietAt_3 : decode cX2_isQuietAt 3 = .ok (.iconst 1, 1) := by decide +kernel
theorem dX2_isQuietAt_4 : decode cX2_isQuietAt 4 = .ok (.iadd, 1) := by decide +kernel
theorem dX2_isQuietAt_5 : decode cX2_isQuietAt 5 = .ok (.invokevirtual 57, 3) := by decide +kernel
theorem dX2_isQuietAt_8 : decode cX2_isQuietAt 8 = .ok (.ifCond .le 7, 3) := by decide +kernel
theorem dX2_isQuietAt_11 : decode cX2_isQuietAt 11 = .ok (.iconst 1, 1) := by decide +kernel
theorem dX2_isQuietAt_12 : decode cX2_isQuietAt 12 = .ok (.goto 4, 3) := by decide +kernel
theorem dX2_isQuietAt_15 : decode cX2_isQuietAt 15 = .ok (.iconst 0, 1) := by decide +kernel
theorem dX2_isQuietAt_16 : decode cX2_isQuietAt 16 = .ok (.ireturn, 1) := by decide +kernel
set_option maxRecDepth 20000 in
theorem ggX2_quietSeconds_X2_shared : GoodIn wsX2_quietSeconds wsX2_shared := goodIn_r _ [6, 7, 8, 9, 10, 11, 12, 13] (by decide +kernel) (by decide +kernel)
set_option maxRecDepth 20000 in
theorem gX2_quietSeconds_X2_shared : GoodIn wsX2_quietSeconds (va_wsS RX2 61 yX2_shared wsX2_shared) := goodIn_app (goodIn_of _ (by decide +kernel)) ggX2_quietSeconds_X2_shared
theorem dX2_quietSeconds_0 : decode cX2_quietSeconds 0 = .ok (.iload_n 1, 1) := by decide +kernel
theorem dX2_quietSeconds_1 : decode cX2_quietSeconds 1 = .ok (.sipush 1000, 3) := by decide +kernel
theorem dX2_quietSeconds_4 : decode cX2_quietSeconds 4 = .ok (.irem, 1) := by decide +kernel
theorem dX2_quietSeconds_5 : decode cX2_quietSeconds 5 = .ok (.istore_n 3, 1) := by decide +kernel
theorem dX2_quietSeconds_6 : decode cX2_quietSeconds 6 = .ok (.iload_n 3, 1) := by decide +kernel
theorem dX2_quietSeconds_7 : decode cX2_quietSeconds 7 = .ok (.iload_n 2, 1) := by decide +kernel
theorem dX2_quietSeconds_8 : decode cX2_quietSeconds 8 = .ok (.iadd, 1) := by decide +kernel
theorem dX2_quietSeconds_9 : decode cX2_quietSeconds 9 = .ok (.iload_n 1, 1) := by decide +kernel
theorem dX2_quietSeconds_10 : decode cX2_quietSeconds 10 = .ok (.isub, 1) := by decide +kernel
theorem dX2_quietSeconds_11 : decode cX2_quietSeconds 11 = .ok (.istore 4, 2) := by decide +kernel
theorem dX2_quietSeconds_13 : decode cX2_quietSeconds 13 = .ok (.aload_n 0, 1) := by decide +kernel
theorem dX2_quietSeconds_14 : decode cX2_quietSeconds 14 = .ok (.getfield 25, 3) := by decide +kernel
theorem dX2_quietSeconds_17 : decode cX2_quietSeconds 17 = .ok (.aload_n 0, 1) := by decide +kernel
theorem dX2_quietSeconds_18 : decode cX2_quietSeconds 18 = .ok (.getfield 29, 3) := by decide +kernel
theorem dX2_quietSeconds_21 : decode cX2_quietSeconds 21 = .ok (.if_icmp .gt 18, 3) := by decide +kernel
theorem dX2_quietSeconds_24 : decode cX2_quietSeconds 24 = .ok (.iload_n 3, 1) := by decide +kernel
theorem dX2_quietSeconds_25 : decode cX2_quietSeconds 25 = .ok (.iload 4, 2) := by decide +kernel
theorem dX2_quietSeconds_27 : decode cX2_quietSeconds 27 = .ok (.aload_n 0, 1) := by decide +kernel
theorem dX2_quietSeconds_28 : decode cX2_quietSeconds 28 = .ok (.getfield 25, 3) := by decide +kernel
theorem dX2_quietSeconds_31 : decode cX2_quietSeconds 31 = .ok (.aload_n 0, 1) := by decide +kernel
theorem dX2_quietSeconds_32 : decode cX2_quietSeconds 32 = .ok (.getfield 29, 3) := by decide +kernel
theorem dX2_quietSeconds_35 : decode cX2_quietSeconds 35 = .ok (.invokestatic 61, 3) := by decide +kernel
theorem dX2_quietSeconds_38 : decode cX2_quietSeconds 38 = .ok (.ireturn, 1) := by decide +kernel
theorem dX2_quietSeconds_39 : decode cX2_quietSeconds 39 = .ok (.iload_n 3, 1) := by decide +kernel
theorem dX2_quietSeconds_40 : decode cX2_quietSeconds 40 = .ok (.iload 4, 2) := by decide +kernel
theorem dX2_quietSeconds_42 : decode cX2_quietSeconds 42 = .ok (.iconst 0, 1) := by decide +kernel
theorem dX2_quietSeconds_43 : decode cX2_quietSeconds 43 = .ok (.aload_n 0, 1) := by decide +kernel
theorem dX2_quietSeconds_44 : decode cX2_quietSeconds 44 = .ok (.getfield 29, 3) := by decide +kernel
theorem dX2_quietSeconds_47 : decode cX2_quietSeconds 47 = .ok (.invokestatic 61, 3) := by decide +kernel
theorem dX2_quietSeconds_50 : decode cX2_quietSeconds 50 = .ok (.iload_n 3, 1) := by decide +kernel
theorem dX2_quietSeconds_51 : decode cX2_quietSeconds 51 = .ok (.iload 4, 2) := by decide +kernel
theorem dX2_quietSeconds_53 : decode cX2_quietSeconds 53 = .ok (.aload_n 0, 1) := by decide +kernel
theorem dX2_quietSeconds_54 : decode cX2_quietSeconds 54 = .ok (.getfield 25, 3) := by decide +kernel
theorem dX2_quietSeconds_57 : decode cX2_quietSeconds 57 = .ok (.sipush 1000, 3) := by decide +kernel
theorem dX2_quietSeconds_60 : decode cX2_quietSeconds 60 = .ok (.invokestatic 61, 3) := by decide +kernel
theorem dX2_quietSeconds_63 : decode cX2_quietSeconds 63 = .ok (.iadd, 1) := by decide +kernel
theorem dX2_quietSeconds_64 : decode cX2_quietSeconds 64 = .ok (.ireturn, 1) := by decide +kernel
theorem dX2_shared_0 : decode cX2_shared 0 = .ok (.iconst 0, 1) := by decide +kernel
theorem dX2_shared_1 : decode cX2_shared 1 = .ok (.iload_n 1, 1) := by decide +kernel
theorem dX2_shared_2 : decode cX2_shared 2 = .ok (.iload_n 3, 1) := by decide +kernel
theorem dX2_shared_3 : decode cX2_shared 3 = .ok (.invokestatic 65, 3) := by decide +kernel
theorem dX2_shared_6 : decode cX2_shared 6 = .ok (.iload_n 0, 1) := by decide +kernel
theorem dX2_shared_7 : decode cX2_shared 7 = .ok (.iload_n 2, 1) := by decide +kernel
theorem dX2_shared_8 : decode cX2_shared 8 = .ok (.invokestatic 70, 3) := by decide +kernel
theorem dX2_shared_11 : decode cX2_shared 11 = .ok (.isub, 1) := by decide +kernel
theorem dX2_shared_12 : decode cX2_shared 12 = .ok (.invokestatic 70, 3) := by decide +kernel
theorem dX2_shared_15 : decode cX2_shared 15 = .ok (.ireturn, 1) := by decide +kernel
theorem dX2_mayRing_0 : decode cX2_mayRing 0 = .ok (.aload_n 1, 1) := by decide +kernel
theorem dX2_mayRing_1 : decode cX2_mayRing 1 = .ok (.getfield 73, 3) := by decide +kernel
theorem dX2_mayRing_4 : decode cX2_mayRing 4 = .ok (.aload_n 0, 1) := by decide +kernel
theorem dX2_mayRing_5 : decode cX2_mayRing 5 = .ok (.getfield 50, 3) := by decide +kernel
theorem dX2_mayRing_8 : decode cX2_mayRing 8 = .ok (.if_icmp .eq 15, 3) := by decide +kernel
theorem dX2_mayRing_11 : decode cX2_mayRing 11 = .ok (.aload_n 0, 1) := by decide +kernel
theorem dX2_mayRing_12 : decode cX2_mayRing 12 = .ok (.getfield 17, 3) := by decide +kernel
theorem dX2_mayRing_15 : decode cX2_mayRing 15 = .ok (.aload_n 1, 1) := by decide +kernel
theorem dX2_mayRing_16 : decode cX2_mayRing 16 = .ok (.getfield 78, 3) := by decide +kernel
theorem dX2_mayRing_19 : decode cX2_mayRing 19 = .ok (.iaload, 1) := by decide +kernel
theorem dX2_mayRing_20 : decode cX2_mayRing 20 = .ok (.ifCond .le 7, 3) := by decide +kernel
theorem dX2_mayRing_23 : decode cX2_mayRing 23 = .ok (.iconst 1, 1) := by decide +kernel
theorem dX2_mayRing_24 : decode cX2_mayRing 24 = .ok (.goto 4, 3) := by decide +kernel
theorem dX2_mayRing_27 : decode cX2_mayRing 27 = .ok (.iconst 0, 1) := by decide +kernel
theorem dX2_mayRing_28 : decode cX2_mayRing 28 = .ok (.ireturn, 1) := by decide +kernel
theorem dX2_useRight_0 : decode cX2_useRight 0 = .ok (.aload_n 1, 1) := by decide +kernel
theorem dX2_useRight_1 : decode cX2_useRight 1 = .ok (.getfield 73, 3) := by decide +kernel
theorem dX2_useRight_4 : decode cX2_useRight 4 = .ok (.aload_n 0, 1) := by decide +kernel
theorem dX2_useRight_5 : decode cX2_useRight 5 = .ok (.getfield 50, 3) := by decide +kernel
theorem dX2_useRight_8 : decode cX2_useRight 8 = .ok (.if_icmp .eq 16, 3) := by decide +kernel
theorem dX2_useRight_11 : decode cX2_useRight 11 = .ok (.aload_n 0, 1) := by decide +kernel
theorem dX2_useRight_12 : decode cX2_useRight 12 = .ok (.getfield 17, 3) := by decide +kernel
theorem dX2_useRight_15 : decode cX2_useRight 15 = .ok (.aload_n 1, 1) := by decide +kernel
theorem dX2_useRight_16 : decode cX2_useRight 16 = .ok (.getfield 78, 3) := by decide +kernel
theorem dX2_useRight_19 : decode cX2_useRight 19 = .ok (.dup2, 1) := by decide +kernel
theorem dX2_useRight_20 : decode cX2_useRight 20 = .ok (.iaload, 1) := by decide +kernel
theorem dX2_useRight_21 : decode cX2_useRight 21 = .ok (.iconst 1, 1) := by decide +kernel
theorem dX2_useRight_22 : decode cX2_useRight 22 = .ok (.isub, 1) := by decide +kernel
theorem dX2_useRight_23 : decode cX2_useRight 23 = .ok (.iastore, 1) := by decide +kernel
theorem dX2_useRight_24 : decode cX2_useRight 24 = .ok (.return_, 1) := by decide +kernel
theorem dX2_ringingSet_0 : decode cX2_ringingSet 0 = .ok (.iconst 0, 1) := by decide +kernel
theorem dX2_ringingSet_1 : decode cX2_ringingSet 1 = .ok (.istore_n 1, 1) := by decide +kernel
theorem dX2_ringingSet_2 : decode cX2_ringingSet 2 = .ok (.iconst 0, 1) := by decide +kernel
theorem dX2_ringingSet_3 : decode cX2_ringingSet 3 = .ok (.istore_n 2, 1) := by decide +kernel
theorem dX2_ringingSet_4 : decode cX2_ringingSet 4 = .ok (.iload_n 2, 1) := by decide +kernel
theorem dX2_ringingSet_5 : decode cX2_ringingSet 5 = .ok (.iconst 3, 1) := by decide +kernel
theorem dX2_ringingSet_6 : decode cX2_ringingSet 6 = .ok (.if_icmp .ge 27, 3) := by decide +kernel
theorem dX2_ringingSet_9 : decode cX2_ringingSet 9 = .ok (.aload_n 0, 1) := by decide +kernel
theorem dX2_ringingSet_10 : decode cX2_ringingSet 10 = .ok (.getfield 11, 3) := by decide +kernel
theorem dX2_ringingSet_13 : decode cX2_ringingSet 13 = .ok (.iload_n 2, 1) := by decide +kernel
theorem dX2_ringingSet_14 : decode cX2_ringingSet 14 = .ok (.aaload, 1) := by decide +kernel
theorem dX2_ringingSet_15 : decode cX2_ringingSet 15 = .ok (.getfield 79, 3) := by decide +kernel
theorem dX2_ringingSet_18 : decode cX2_ringingSet 18 = .ok (.ifCond .eq 9, 3) := by decide +kernel
theorem dX2_ringingSet_21 : decode cX2_ringingSet 21 = .ok (.iload_n 1, 1) := by decide +kernel
theorem dX2_ringingSet_22 : decode cX2_ringingSet 22 = .ok (.iconst 1, 1) := by decide +kernel
theorem dX2_ringingSet_23 : decode cX2_ringingSet 23 = .ok (.iload_n 2, 1) := by decide +kernel
theorem dX2_ringingSet_24 : decode cX2_ringingSet 24 = .ok (.ishl, 1) := by decide +kernel
theorem dX2_ringingSet_25 : decode cX2_ringingSet 25 = .ok (.ior, 1) := by decide +kernel
theorem dX2_ringingSet_26 : decode cX2_ringingSet 26 = .ok (.istore_n 1, 1) := by decide +kernel
theorem dX2_ringingSet_27 : decode cX2_ringingSet 27 = .ok (.iinc 2 1, 3) := by decide +kernel
theorem dX2_ringingSet_30 : decode cX2_ringingSet 30 = .ok (.goto (-26), 3) := by decide +kernel
theorem dX2_ringingSet_33 : decode cX2_ringingSet 33 = .ok (.iload_n 1, 1) := by decide +kernel
theorem dX2_ringingSet_34 : decode cX2_ringingSet 34 = .ok (.ireturn, 1) := by decide +kernel
theorem dX2_ringingLoad_0 : decode cX2_ringingLoad 0 = .ok (.iconst 0, 1) := by decide +kernel
theorem dX2_ringingLoad_1 : decode cX2_ringingLoad 1 = .ok (.istore_n 1, 1) := by decide +kernel
theorem dX2_ringingLoad_2 : decode cX2_ringingLoad 2 = .ok (.aload_n 0, 1) := by decide +kernel
theorem dX2_ringingLoad_3 : decode cX2_ringingLoad 3 = .ok (.getfield 11, 3) := by decide +kernel
theorem dX2_ringingLoad_6 : decode cX2_ringingLoad 6 = .ok (.astore_n 2, 1) := by decide +kernel
theorem dX2_ringingLoad_7 : decode cX2_ringingLoad 7 = .ok (.aload_n 2, 1) := by decide +kernel
theorem dX2_ringingLoad_8 : decode cX2_ringingLoad 8 = .ok (.arraylength, 1) := by decide +kernel
theorem dX2_ringingLoad_9 : decode cX2_ringingLoad 9 = .ok (.istore_n 3, 1) := by decide +kernel
theorem dX2_ringingLoad_10 : decode cX2_ringingLoad 10 = .ok (.iconst 0, 1) := by decide +kernel
theorem dX2_ringingLoad_11 : decode cX2_ringingLoad 11 = .ok (.istore 4, 2) := by decide +kernel
theorem dX2_ringingLoad_13 : decode cX2_ringingLoad 13 = .ok (.iload 4, 2) := by decide +kernel
theorem dX2_ringingLoad_15 : decode cX2_ringingLoad 15 = .ok (.iload_n 3, 1) := by decide +kernel
theorem dX2_ringingLoad_16 : decode cX2_ringingLoad 16 = .ok (.if_icmp .ge 31, 3) := by decide +kernel
theorem dX2_ringingLoad_19 : decode cX2_ringingLoad 19 = .ok (.aload_n 2, 1) := by decide +kernel
theorem dX2_ringingLoad_20 : decode cX2_ringingLoad 20 = .ok (.iload 4, 2) := by decide +kernel
theorem dX2_ringingLoad_22 : decode cX2_ringingLoad 22 = .ok (.aaload, 1) := by decide +kernel
theorem dX2_ringingLoad_23 : decode cX2_ringingLoad 23 = .ok (.astore 5, 2) := by decide +kernel
theorem dX2_ringingLoad_25 : decode cX2_ringingLoad 25 = .ok (.aload 5, 2) := by decide +kernel
theorem dX2_ringingLoad_27 : decode cX2_ringingLoad 27 = .ok (.getfield 79, 3) := by decide +kernel
theorem dX2_ringingLoad_30 : decode cX2_ringingLoad 30 = .ok (.ifCond .eq 11, 3) := by decide +kernel
theorem dX2_ringingLoad_33 : decode cX2_ringingLoad 33 = .ok (.iload_n 1, 1) := by decide +kernel
theorem dX2_ringingLoad_34 : decode cX2_ringingLoad 34 = .ok (.aload 5, 2) := by decide +kernel
theorem dX2_ringingLoad_36 : decode cX2_ringingLoad 36 = .ok (.getfield 82, 3) := by decide +kernel
theorem dX2_ringingLoad_39 : decode cX2_ringingLoad 39 = .ok (.iadd, 1) := by decide +kernel
theorem dX2_ringingLoad_40 : decode cX2_ringingLoad 40 = .ok (.istore_n 1, 1) := by decide +kernel
theorem dX2_ringingLoad_41 : decode cX2_ringingLoad 41 = .ok (.iinc 4 1, 3) := by decide +kernel
theorem dX2_ringingLoad_44 : decode cX2_ringingLoad 44 = .ok (.goto (-31), 3) := by decide +kernel
theorem dX2_ringingLoad_47 : decode cX2_ringingLoad 47 = .ok (.iload_n 1, 1) := by decide +kernel
theorem dX2_ringingLoad_48 : decode cX2_ringingLoad 48 = .ok (.ireturn, 1) := by decide +kernel
set_option maxRecDepth 20000 in
theorem ggX2_startBells_X3_lasts : GoodIn wsX2_startBells wsX3_lasts := goodIn_r _ [6, 7, 32, 33, 34, 35] (by decide +kernel) (by decide +kernel)
set_option maxRecDepth 20000 in
theorem gX2_startBells_X3_lasts : GoodIn wsX2_startBells (wsV RX2 89 RX3 yX3_lasts wsX3_lasts) := goodIn_app (goodIn_of _ (by decide +kernel)) ggX2_startBells_X3_lasts
set_option maxRecDepth 20000 in
theorem ggX2_startBells_X0_ringUntil : GoodIn wsX2_startBells wsX0_ringUntil := goodIn_r _ [12, 13, 14, 28, 29, 30, 31] (by decide +kernel) (by decide +kernel)
set_option maxRecDepth 20000 in
theorem gX2_startBells_X0_ringUntil : GoodIn wsX2_startBells (wsV RX2 93 RX0 yX0_ringUntil wsX0_ringUntil) := goodIn_app (goodIn_of _ (by decide +kernel)) ggX2_startBells_X0_ringUntil
theorem dX2_startBells_0 : decode cX2_startBells 0 = .ok (.iconst 0, 1) := by decide +kernel
theorem dX2_startBells_1 : decode cX2_startBells 1 = .ok (.istore_n 2, 1) := by decide +kernel
theorem dX2_startBells_2 : decode cX2_startBells 2 = .ok (.aload_n 0, 1) := by decide +kernel
theorem dX2_startBells_3 : decode cX2_startBells 3 = .ok (.getfield 11, 3) := by decide +kernel
theorem dX2_startBells_6 : decode cX2_startBells 6 = .ok (.astore_n 3, 1) := by decide +kernel
theorem dX2_startBells_7 : decode cX2_startBells 7 = .ok (.aload_n 3, 1) := by decide +kernel
theorem dX2_startBells_8 : decode cX2_startBells 8 = .ok (.arraylength, 1) := by decide +kernel
theorem dX2_startBells_9 : decode cX2_startBells 9 = .ok (.istore 4, 2) := by decide +kernel
theorem dX2_startBells_11 : decode cX2_startBells 11 = .ok (.iconst 0, 1) := by decide +kernel
theorem dX2_startBells_12 : decode cX2_startBells 12 = .ok (.istore 5, 2) := by decide +kernel
theorem dX2_startBells_14 : decode cX2_startBells 14 = .ok (.iload 5, 2) := by decide +kernel
theorem dX2_startBells_16 : decode cX2_startBells 16 = .ok (.iload 4, 2) := by decide +kernel
theorem dX2_startBells_18 : decode cX2_startBells 18 = .ok (.if_icmp .ge 49, 3) := by decide +kernel
theorem dX2_startBells_21 : decode cX2_startBells 21 = .ok (.aload_n 3, 1) := by decide +kernel
theorem dX2_startBells_22 : decode cX2_startBells 22 = .ok (.iload 5, 2) := by decide +kernel
theorem dX2_startBells_24 : decode cX2_startBells 24 = .ok (.aaload, 1) := by decide +kernel
theorem dX2_startBells_25 : decode cX2_startBells 25 = .ok (.astore 6, 2) := by decide +kernel
theorem dX2_startBells_27 : decode cX2_startBells 27 = .ok (.aload 6, 2) := by decide +kernel
theorem dX2_startBells_29 : decode cX2_startBells 29 = .ok (.getfield 85, 3) := by decide +kernel
theorem dX2_startBells_32 : decode cX2_startBells 32 = .ok (.ifnull 29, 3) := by decide +kernel
theorem dX2_startBells_35 : decode cX2_startBells 35 = .ok (.aload 6, 2) := by decide +kernel
theorem dX2_startBells_37 : decode cX2_startBells 37 = .ok (.getfield 79, 3) := by decide +kernel
theorem dX2_startBells_40 : decode cX2_startBells 40 = .ok (.ifCond .ne 21, 3) := by decide +kernel
theorem dX2_startBells_43 : decode cX2_startBells 43 = .ok (.aload 6, 2) := by decide +kernel
theorem dX2_startBells_45 : decode cX2_startBells 45 = .ok (.iload_n 1, 1) := by decide +kernel
theorem dX2_startBells_46 : decode cX2_startBells 46 = .ok (.aload 6, 2) := by decide +kernel
theorem dX2_startBells_48 : decode cX2_startBells 48 = .ok (.getfield 85, 3) := by decide +kernel
theorem dX2_startBells_51 : decode cX2_startBells 51 = .ok (.invokevirtual 89, 3) := by decide +kernel
theorem dX2_startBells_54 : decode cX2_startBells 54 = .ok (.iadd, 1) := by decide +kernel
theorem dX2_startBells_55 : decode cX2_startBells 55 = .ok (.invokevirtual 93, 3) := by decide +kernel
theorem dX2_startBells_58 : decode cX2_startBells 58 = .ok (.iinc 2 1, 3) := by decide +kernel
theorem dX2_startBells_61 : decode cX2_startBells 61 = .ok (.iinc 5 1, 3) := by decide +kernel
theorem dX2_startBells_64 : decode cX2_startBells 64 = .ok (.goto (-50), 3) := by decide +kernel
theorem dX2_startBells_67 : decode cX2_startBells 67 = .ok (.iload_n 2, 1) := by decide +kernel
theorem dX2_startBells_68 : decode cX2_startBells 68 = .ok (.ireturn, 1) := by decide +kernel
theorem dX2_breakDown_0 : decode cX2_breakDown 0 = .ok (.aload_n 0, 1) := by decide +kernel
theorem dX2_breakDown_1 : decode cX2_breakDown 1 = .ok (.iconst 0, 1) := by decide +kernel
theorem dX2_breakDown_2 : decode cX2_breakDown 2 = .ok (.putfield 21, 3) := by decide +kernel
theorem dX2_breakDown_5 : decode cX2_breakDown 5 = .ok (.aload_n 0, 1) := by decide +kernel
theorem dX2_breakDown_6 : decode cX2_breakDown 6 = .ok (.getfield 11, 3) := by decide +kernel
theorem dX2_breakDown_9 : decode cX2_breakDown 9 = .ok (.astore_n 1, 1) := by decide +kernel
theorem dX2_breakDown_10 : decode cX2_breakDown 10 = .ok (.aload_n 1, 1) := by decide +kernel
theorem dX2_breakDown_11 : decode cX2_breakDown 11 = .ok (.arraylength, 1) := by decide +kernel
theorem dX2_breakDown_12 : decode cX2_breakDown 12 = .ok (.istore_n 2, 1) := by decide +kernel
theorem dX2_breakDown_13 : decode cX2_breakDown 13 = .ok (.iconst 0, 1) := by decide +kernel
theorem dX2_breakDown_14 : decode cX2_breakDown 14 = .ok (.istore_n 3, 1) := by decide +kernel
theorem dX2_breakDown_15 : decode cX2_breakDown 15 = .ok (.iload_n 3, 1) := by decide +kernel
theorem dX2_breakDown_16 : decode cX2_breakDown 16 = .ok (.iload_n 2, 1) := by decide +kernel
theorem dX2_breakDown_17 : decode cX2_breakDown 17 = .ok (.if_icmp .ge 20, 3) := by decide +kernel
theorem dX2_breakDown_20 : decode cX2_breakDown 20 = .ok (.aload_n 1, 1) := by decide +kernel
theorem dX2_breakDown_21 : decode cX2_breakDown 21 = .ok (.iload_n 3, 1) := by decide +kernel
theorem dX2_breakDown_22 : decode cX2_breakDown 22 = .ok (.aaload, 1) := by decide +kernel
theorem dX2_breakDown_23 : decode cX2_breakDown 23 = .ok (.astore 4, 2) := by decide +kernel
theorem dX2_breakDown_25 : decode cX2_breakDown 25 = .ok (.aload 4, 2) := by decide +kernel
theorem dX2_breakDown_27 : decode cX2_breakDown 27 = .ok (.iconst 0, 1) := by decide +kernel
theorem dX2_breakDown_28 : decode cX2_breakDown 28 = .ok (.putfield 79, 3) := by decide +kernel
theorem dX2_breakDown_31 : decode cX2_breakDown 31 = .ok (.iinc 3 1, 3) := by decide +kernel
theorem dX2_breakDown_34 : decode cX2_breakDown 34 = .ok (.goto (-19), 3) := by decide +kernel
theorem dX2_breakDown_37 : decode cX2_breakDown 37 = .ok (.return_, 1) := by decide +kernel
theorem dX2_firstStop_0 : decode cX2_firstStop 0 = .ok (.iload_n 1, 1) := by decide +kernel
theorem dX2_firstStop_1 : decode cX2_firstStop 1 = .ok (.istore_n 2, 1) := by decide +kernel
theorem dX2_firstStop_2 : decode cX2_firstStop 2 = .ok (.aload_n 0, 1) := by decide +kernel
theorem dX2_firstStop_3 : decode cX2_firstStop 3 = .ok (.getfield 11, 3) := by decide +kernel
theorem dX2_firstStop_6 : decode cX2_firstStop 6 = .ok (.astore_n 3, 1) := by decide +kernel
theorem dX2_firstStop_7 : decode cX2_firstStop 7 = .ok (.aload_n 3, 1) := by decide +kernel
theorem dX2_firstStop_8 : decode cX2_firstStop 8 = .ok (.arraylength, 1) := by decide +kernel
theorem dX2_firstStop_9 : decode cX2_firstStop 9 = .ok (.istore 4, 2) := by decide +kernel
theorem dX2_firstStop_11 : decode cX2_firstStop 11 = .ok (.iconst 0, 1) := by decide +kernel
theorem dX2_firstStop_12 : decode cX2_firstStop 12 = .ok (.istore 5, 2) := by decide +kernel
theorem dX2_firstStop_14 : decode cX2_firstStop 14 = .ok (.iload 5, 2) := by decide +kernel
theorem dX2_firstStop_16 : decode cX2_firstStop 16 = .ok (.iload 4, 2) := by decide +kernel
theorem dX2_firstStop_18 : decode cX2_firstStop 18 = .ok (.if_icmp .ge 38, 3) := by decide +kernel
theorem dX2_firstStop_21 : decode cX2_firstStop 21 = .ok (.aload_n 3, 1) := by decide +kernel
theorem dX2_firstStop_22 : decode cX2_firstStop 22 = .ok (.iload 5, 2) := by decide +kernel
theorem dX2_firstStop_24 : decode cX2_firstStop 24 = .ok (.aaload, 1) := by decide +kernel
theorem dX2_firstStop_25 : decode cX2_firstStop 25 = .ok (.astore 6, 2) := by decide +kernel
theorem dX2_firstStop_27 : decode cX2_firstStop 27 = .ok (.aload 6, 2) := by decide +kernel
theorem dX2_firstStop_29 : decode cX2_firstStop 29 = .ok (.getfield 79, 3) := by decide +kernel
theorem dX2_firstStop_32 : decode cX2_firstStop 32 = .ok (.ifCond .eq 18, 3) := by decide +kernel
theorem dX2_firstStop_35 : decode cX2_firstStop 35 = .ok (.aload 6, 2) := by decide +kernel
theorem dX2_firstStop_37 : decode cX2_firstStop 37 = .ok (.getfield 97, 3) := by decide +kernel
theorem dX2_firstStop_40 : decode cX2_firstStop 40 = .ok (.iload_n 2, 1) := by decide +kernel
theorem dX2_firstStop_41 : decode cX2_firstStop 41 = .ok (.if_icmp .ge 9, 3) := by decide +kernel
theorem dX2_firstStop_44 : decode cX2_firstStop 44 = .ok (.aload 6, 2) := by decide +kernel
theorem dX2_firstStop_46 : decode cX2_firstStop 46 = .ok (.getfield 97, 3) := by decide +kernel
theorem dX2_firstStop_49 : decode cX2_firstStop 49 = .ok (.istore_n 2, 1) := by decide +kernel
theorem dX2_firstStop_50 : decode cX2_firstStop 50 = .ok (.iinc 5 1, 3) := by decide +kernel
theorem dX2_firstStop_53 : decode cX2_firstStop 53 = .ok (.goto (-39), 3) := by decide +kernel
theorem dX2_firstStop_56 : decode cX2_firstStop 56 = .ok (.iload_n 2, 1) := by decide +kernel
theorem dX2_firstStop_57 : decode cX2_firstStop 57 = .ok (.ireturn, 1) := by decide +kernel
theorem dX2_stopEndedBells_0 : decode cX2_stopEndedBells 0 = .ok (.aload_n 0, 1) := by decide +kernel
theorem dX2_stopEndedBells_1 : decode cX2_stopEndedBells 1 = .ok (.getfield 11, 3) := by decide +kernel
theorem dX2_stopEndedBells_4 : decode cX2_stopEndedBells 4 = .ok (.astore_n 2, 1) := by decide +kernel
theorem dX2_stopEndedBells_5 : decode cX2_stopEndedBells 5 = .ok (.aload_n 2, 1) := by decide +kernel
theorem dX2_stopEndedBells_6 : decode cX2_stopEndedBells 6 = .ok (.arraylength, 1) := by decide +kernel
theorem dX2_stopEndedBells_7 : decode cX2_stopEndedBells 7 = .ok (.istore_n 3, 1) := by decide +kernel
theorem dX2_stopEndedBells_8 : decode cX2_stopEndedBells 8 = .ok (.iconst 0, 1) := by decide +kernel
theorem dX2_stopEndedBells_9 : decode cX2_stopEndedBells 9 = .ok (.istore 4, 2) := by decide +kernel
theorem dX2_stopEndedBells_11 : decode cX2_stopEndedBells 11 = .ok (.iload 4, 2) := by decide +kernel
theorem dX2_stopEndedBells_13 : decode cX2_stopEndedBells 13 = .ok (.iload_n 3, 1) := by decide +kernel
theorem dX2_stopEndedBells_14 : decode cX2_stopEndedBells 14 = .ok (.if_icmp .ge 30, 3) := by decide +kernel
theorem dX2_stopEndedBells_17 : decode cX2_stopEndedBells 17 = .ok (.aload_n 2, 1) := by decide +kernel
theorem dX2_stopEndedBells_18 : decode cX2_stopEndedBells 18 = .ok (.iload 4, 2) := by decide +kernel
theorem dX2_stopEndedBells_20 : decode cX2_stopEndedBells 20 = .ok (.aaload, 1) := by decide +kernel
theorem dX2_stopEndedBells_21 : decode cX2_stopEndedBells 21 = .ok (.astore 5, 2) := by decide +kernel
theorem dX2_stopEndedBells_23 : decode cX2_stopEndedBells 23 = .ok (.aload 5, 2) := by decide +kernel
theorem dX2_stopEndedBells_25 : decode cX2_stopEndedBells 25 = .ok (.getfield 97, 3) := by decide +kernel
theorem dX2_stopEndedBells_28 : decode cX2_stopEndedBells 28 = .ok (.iload_n 1, 1) := by decide +kernel
theorem dX2_stopEndedBells_29 : decode cX2_stopEndedBells 29 = .ok (.if_icmp .gt 9, 3) := by decide +kernel
theorem dX2_stopEndedBells_32 : decode cX2_stopEndedBells 32 = .ok (.aload 5, 2) := by decide +kernel
theorem dX2_stopEndedBells_34 : decode cX2_stopEndedBells 34 = .ok (.iconst 0, 1) := by decide +kernel
theorem dX2_stopEndedBells_35 : decode cX2_stopEndedBells 35 = .ok (.putfield 79, 3) := by decide +kernel
end
section
theorem dX2_stopEndedBells_38 : decode cX2_stopEndedBells 38 = .ok (.iinc 4 1, 3) := by decide +kernel
theorem dX2_stopEndedBells_41 : decode cX2_stopEndedBells 41 = .ok (.goto (-30), 3) := by decide +kernel
theorem dX2_stopEndedBells_44 : decode cX2_stopEndedBells 44 = .ok (.return_, 1) := by decide +kernel
set_option maxRecDepth 20000 in
theorem ggX2_spend_X2_ringingSet : GoodIn wsX2_spend wsX2_ringingSet := goodIn_r _ [8, 9, 26, 27, 28, 29, 30, 31, 32, 33, 34, 35, 36, 37, 38, 39, 40, 41, 42] (by decide +kernel) (by decide +kernel)
set_option maxRecDepth 20000 in
theorem gX2_spend_X2_ringingSet : GoodIn wsX2_spend (wsV RX2 100 RX2 yX2_ringingSet wsX2_ringingSet) := goodIn_app (goodIn_of _ (by decide +kernel)) ggX2_spend_X2_ringingSet
set_option maxRecDepth 20000 in
theorem ggX2_spend_X2_quietSeconds : GoodIn wsX2_spend wsX2_quietSeconds := goodIn_r _ [13, 14, 15, 16, 17, 7, 18, 19, 20, 21, 22, 23, 24, 25, 26, 27, 28, 29, 30, 31, 32, 33, 34, 35, 36, 37, 38] (by decide +kernel) (by decide +kernel)
set_option maxRecDepth 20000 in
theorem gX2_spend_X2_quietSeconds : GoodIn wsX2_spend (wsV RX2 57 RX2 yX2_quietSeconds wsX2_quietSeconds) := goodIn_app (goodIn_of _ (by decide +kernel)) ggX2_spend_X2_quietSeconds
theorem dX2_spend_0 : decode cX2_spend 0 = .ok (.aload_n 0, 1) := by decide +kernel
theorem dX2_spend_1 : decode cX2_spend 1 = .ok (.invokevirtual 100, 3) := by decide +kernel
theorem dX2_spend_4 : decode cX2_spend 4 = .ok (.ifCond .ne 4, 3) := by decide +kernel
theorem dX2_spend_7 : decode cX2_spend 7 = .ok (.return_, 1) := by decide +kernel
theorem dX2_spend_8 : decode cX2_spend 8 = .ok (.aload_n 0, 1) := by decide +kernel
theorem dX2_spend_9 : decode cX2_spend 9 = .ok (.iload_n 1, 1) := by decide +kernel
theorem dX2_spend_10 : decode cX2_spend 10 = .ok (.iload_n 2, 1) := by decide +kernel
theorem dX2_spend_11 : decode cX2_spend 11 = .ok (.invokevirtual 57, 3) := by decide +kernel
theorem dX2_spend_14 : decode cX2_spend 14 = .ok (.istore_n 3, 1) := by decide +kernel
theorem dX2_spend_15 : decode cX2_spend 15 = .ok (.aload_n 0, 1) := by decide +kernel
theorem dX2_spend_16 : decode cX2_spend 16 = .ok (.dup, 1) := by decide +kernel
theorem dX2_spend_17 : decode cX2_spend 17 = .ok (.getfield 35, 3) := by decide +kernel
theorem dX2_spend_20 : decode cX2_spend 20 = .ok (.iload_n 2, 1) := by decide +kernel
theorem dX2_spend_21 : decode cX2_spend 21 = .ok (.iload_n 1, 1) := by decide +kernel
theorem dX2_spend_22 : decode cX2_spend 22 = .ok (.isub, 1) := by decide +kernel
theorem dX2_spend_23 : decode cX2_spend 23 = .ok (.iadd, 1) := by decide +kernel
theorem dX2_spend_24 : decode cX2_spend 24 = .ok (.putfield 35, 3) := by decide +kernel
theorem dX2_spend_27 : decode cX2_spend 27 = .ok (.aload_n 0, 1) := by decide +kernel
theorem dX2_spend_28 : decode cX2_spend 28 = .ok (.dup, 1) := by decide +kernel
theorem dX2_spend_29 : decode cX2_spend 29 = .ok (.getfield 38, 3) := by decide +kernel
theorem dX2_spend_32 : decode cX2_spend 32 = .ok (.iload_n 3, 1) := by decide +kernel
theorem dX2_spend_33 : decode cX2_spend 33 = .ok (.iadd, 1) := by decide +kernel
theorem dX2_spend_34 : decode cX2_spend 34 = .ok (.putfield 38, 3) := by decide +kernel
theorem dX2_spend_37 : decode cX2_spend 37 = .ok (.iload_n 3, 1) := by decide +kernel
theorem dX2_spend_38 : decode cX2_spend 38 = .ok (.ifCond .le 8, 3) := by decide +kernel
theorem dX2_spend_41 : decode cX2_spend 41 = .ok (.aload_n 0, 1) := by decide +kernel
theorem dX2_spend_42 : decode cX2_spend 42 = .ok (.iconst 0, 1) := by decide +kernel
theorem dX2_spend_43 : decode cX2_spend 43 = .ok (.putfield 47, 3) := by decide +kernel
theorem dX2_spend_46 : decode cX2_spend 46 = .ok (.return_, 1) := by decide +kernel
theorem dX2_closeDay_0 : decode cX2_closeDay 0 = .ok (.aload_n 0, 1) := by decide +kernel
theorem dX2_closeDay_1 : decode cX2_closeDay 1 = .ok (.getfield 47, 3) := by decide +kernel
theorem dX2_closeDay_4 : decode cX2_closeDay 4 = .ok (.ifCond .eq 13, 3) := by decide +kernel
theorem dX2_closeDay_7 : decode cX2_closeDay 7 = .ok (.aload_n 0, 1) := by decide +kernel
theorem dX2_closeDay_8 : decode cX2_closeDay 8 = .ok (.dup, 1) := by decide +kernel
theorem dX2_closeDay_9 : decode cX2_closeDay 9 = .ok (.getfield 32, 3) := by decide +kernel
theorem dX2_closeDay_12 : decode cX2_closeDay 12 = .ok (.iconst 1, 1) := by decide +kernel
theorem dX2_closeDay_13 : decode cX2_closeDay 13 = .ok (.iadd, 1) := by decide +kernel
theorem dX2_closeDay_14 : decode cX2_closeDay 14 = .ok (.putfield 32, 3) := by decide +kernel
theorem dX2_closeDay_17 : decode cX2_closeDay 17 = .ok (.aload_n 0, 1) := by decide +kernel
theorem dX2_closeDay_18 : decode cX2_closeDay 18 = .ok (.dup, 1) := by decide +kernel
theorem dX2_closeDay_19 : decode cX2_closeDay 19 = .ok (.getfield 32, 3) := by decide +kernel
theorem dX2_closeDay_22 : decode cX2_closeDay 22 = .ok (.iconst 3, 1) := by decide +kernel
theorem dX2_closeDay_23 : decode cX2_closeDay 23 = .ok (.aload_n 0, 1) := by decide +kernel
theorem dX2_closeDay_24 : decode cX2_closeDay 24 = .ok (.getfield 44, 3) := by decide +kernel
theorem dX2_closeDay_27 : decode cX2_closeDay 27 = .ok (.imul, 1) := by decide +kernel
theorem dX2_closeDay_28 : decode cX2_closeDay 28 = .ok (.isub, 1) := by decide +kernel
theorem dX2_closeDay_29 : decode cX2_closeDay 29 = .ok (.putfield 32, 3) := by decide +kernel
theorem dX2_closeDay_32 : decode cX2_closeDay 32 = .ok (.aload_n 0, 1) := by decide +kernel
theorem dX2_closeDay_33 : decode cX2_closeDay 33 = .ok (.iconst 1, 1) := by decide +kernel
theorem dX2_closeDay_34 : decode cX2_closeDay 34 = .ok (.putfield 47, 3) := by decide +kernel
theorem dX2_closeDay_37 : decode cX2_closeDay 37 = .ok (.aload_n 0, 1) := by decide +kernel
theorem dX2_closeDay_38 : decode cX2_closeDay 38 = .ok (.iconst 0, 1) := by decide +kernel
theorem dX2_closeDay_39 : decode cX2_closeDay 39 = .ok (.putfield 44, 3) := by decide +kernel
theorem dX2_closeDay_42 : decode cX2_closeDay 42 = .ok (.return_, 1) := by decide +kernel
theorem dX3_init_0 : decode cX3_init 0 = .ok (.aload_n 0, 1) := by decide +kernel
theorem dX3_init_1 : decode cX3_init 1 = .ok (.invokespecial 3, 3) := by decide +kernel
theorem dX3_init_4 : decode cX3_init 4 = .ok (.aload_n 0, 1) := by decide +kernel
theorem dX3_init_5 : decode cX3_init 5 = .ok (.iload_n 1, 1) := by decide +kernel
theorem dX3_init_6 : decode cX3_init 6 = .ok (.putfield 9, 3) := by decide +kernel
theorem dX3_init_9 : decode cX3_init 9 = .ok (.aload_n 0, 1) := by decide +kernel
theorem dX3_init_10 : decode cX3_init 10 = .ok (.iload_n 2, 1) := by decide +kernel
theorem dX3_init_11 : decode cX3_init 11 = .ok (.putfield 15, 3) := by decide +kernel
theorem dX3_init_14 : decode cX3_init 14 = .ok (.aload_n 0, 1) := by decide +kernel
theorem dX3_init_15 : decode cX3_init 15 = .ok (.iload_n 3, 1) := by decide +kernel
theorem dX3_init_16 : decode cX3_init 16 = .ok (.putfield 18, 3) := by decide +kernel
theorem dX3_init_19 : decode cX3_init 19 = .ok (.aload_n 0, 1) := by decide +kernel
theorem dX3_init_20 : decode cX3_init 20 = .ok (.lload 4, 2) := by decide +kernel
theorem dX3_init_22 : decode cX3_init 22 = .ok (.putfield 21, 3) := by decide +kernel
theorem dX3_init_25 : decode cX3_init 25 = .ok (.return_, 1) := by decide +kernel
theorem dX3_lasts_0 : decode cX3_lasts 0 = .ok (.iconst 2, 1) := by decide +kernel
theorem dX3_lasts_1 : decode cX3_lasts 1 = .ok (.aload_n 0, 1) := by decide +kernel
theorem dX3_lasts_2 : decode cX3_lasts 2 = .ok (.getfield 18, 3) := by decide +kernel
theorem dX3_lasts_5 : decode cX3_lasts 5 = .ok (.imul, 1) := by decide +kernel
theorem dX3_lasts_6 : decode cX3_lasts 6 = .ok (.ireturn, 1) := by decide +kernel
theorem dX3_tone_0 : decode cX3_tone 0 = .ok (.aload_n 0, 1) := by decide +kernel
theorem dX3_tone_1 : decode cX3_tone 1 = .ok (.getfield 21, 3) := by decide +kernel
theorem dX3_tone_4 : decode cX3_tone 4 = .ok (.iconst 4, 1) := by decide +kernel
theorem dX3_tone_5 : decode cX3_tone 5 = .ok (.iload_n 1, 1) := by decide +kernel
theorem dX3_tone_6 : decode cX3_tone 6 = .ok (.imul, 1) := by decide +kernel
theorem dX3_tone_7 : decode cX3_tone 7 = .ok (.lshr, 1) := by decide +kernel
theorem dX3_tone_8 : decode cX3_tone 8 = .ok (.l2i, 1) := by decide +kernel
theorem dX3_tone_9 : decode cX3_tone 9 = .ok (.bipush 15, 2) := by decide +kernel
theorem dX3_tone_11 : decode cX3_tone 11 = .ok (.iand, 1) := by decide +kernel
theorem dX3_tone_12 : decode cX3_tone 12 = .ok (.ireturn, 1) := by decide +kernel
set_option maxRecDepth 20000 in
theorem ggX3_tonesShifted_X3_tone : GoodIn wsX3_tonesShifted wsX3_tone := goodIn_r _ [6, 7, 8, 9, 10, 11] (by decide +kernel) (by decide +kernel)
set_option maxRecDepth 20000 in
theorem gX3_tonesShifted_X3_tone : GoodIn wsX3_tonesShifted (wsV RX3 25 RX3 yX3_tone wsX3_tone) := goodIn_app (goodIn_of _ (by decide +kernel)) ggX3_tonesShifted_X3_tone
theorem dX3_tonesShifted_0 : decode cX3_tonesShifted 0 = .ok (.lconst 0, 1) := by decide +kernel
theorem dX3_tonesShifted_1 : decode cX3_tonesShifted 1 = .ok (.lstore_n 2, 1) := by decide +kernel
theorem dX3_tonesShifted_2 : decode cX3_tonesShifted 2 = .ok (.aload_n 0, 1) := by decide +kernel
theorem dX3_tonesShifted_3 : decode cX3_tonesShifted 3 = .ok (.getfield 18, 3) := by decide +kernel
theorem dX3_tonesShifted_6 : decode cX3_tonesShifted 6 = .ok (.iconst 1, 1) := by decide +kernel
theorem dX3_tonesShifted_7 : decode cX3_tonesShifted 7 = .ok (.isub, 1) := by decide +kernel
theorem dX3_tonesShifted_8 : decode cX3_tonesShifted 8 = .ok (.istore 4, 2) := by decide +kernel
theorem dX3_tonesShifted_10 : decode cX3_tonesShifted 10 = .ok (.iload 4, 2) := by decide +kernel
theorem dX3_tonesShifted_12 : decode cX3_tonesShifted 12 = .ok (.ifCond .lt 26, 3) := by decide +kernel
theorem dX3_tonesShifted_15 : decode cX3_tonesShifted 15 = .ok (.lload_n 2, 1) := by decide +kernel
theorem dX3_tonesShifted_16 : decode cX3_tonesShifted 16 = .ok (.iconst 4, 1) := by decide +kernel
theorem dX3_tonesShifted_17 : decode cX3_tonesShifted 17 = .ok (.lshl, 1) := by decide +kernel
theorem dX3_tonesShifted_18 : decode cX3_tonesShifted 18 = .ok (.aload_n 0, 1) := by decide +kernel
theorem dX3_tonesShifted_19 : decode cX3_tonesShifted 19 = .ok (.iload 4, 2) := by decide +kernel
theorem dX3_tonesShifted_21 : decode cX3_tonesShifted 21 = .ok (.invokevirtual 25, 3) := by decide +kernel
theorem dX3_tonesShifted_24 : decode cX3_tonesShifted 24 = .ok (.iload_n 1, 1) := by decide +kernel
theorem dX3_tonesShifted_25 : decode cX3_tonesShifted 25 = .ok (.iadd, 1) := by decide +kernel
theorem dX3_tonesShifted_26 : decode cX3_tonesShifted 26 = .ok (.bipush 15, 2) := by decide +kernel
theorem dX3_tonesShifted_28 : decode cX3_tonesShifted 28 = .ok (.iand, 1) := by decide +kernel
theorem dX3_tonesShifted_29 : decode cX3_tonesShifted 29 = .ok (.i2l, 1) := by decide +kernel
theorem dX3_tonesShifted_30 : decode cX3_tonesShifted 30 = .ok (.lor, 1) := by decide +kernel
theorem dX3_tonesShifted_31 : decode cX3_tonesShifted 31 = .ok (.lstore_n 2, 1) := by decide +kernel
theorem dX3_tonesShifted_32 : decode cX3_tonesShifted 32 = .ok (.iinc 4 (-1), 3) := by decide +kernel
theorem dX3_tonesShifted_35 : decode cX3_tonesShifted 35 = .ok (.goto (-25), 3) := by decide +kernel
theorem dX3_tonesShifted_38 : decode cX3_tonesShifted 38 = .ok (.lload_n 2, 1) := by decide +kernel
theorem dX3_tonesShifted_39 : decode cX3_tonesShifted 39 = .ok (.lreturn, 1) := by decide +kernel
set_option maxRecDepth 20000 in
theorem ggX3_tonesTurned_X3_tone : GoodIn wsX3_tonesTurned wsX3_tone := goodIn_r _ [6, 7, 8, 9, 10, 11] (by decide +kernel) (by decide +kernel)
set_option maxRecDepth 20000 in
theorem gX3_tonesTurned_X3_tone : GoodIn wsX3_tonesTurned (wsV RX3 25 RX3 yX3_tone wsX3_tone) := goodIn_app (goodIn_of _ (by decide +kernel)) ggX3_tonesTurned_X3_tone
theorem dX3_tonesTurned_0 : decode cX3_tonesTurned 0 = .ok (.lconst 0, 1) := by decide +kernel
theorem dX3_tonesTurned_1 : decode cX3_tonesTurned 1 = .ok (.lstore_n 1, 1) := by decide +kernel
theorem dX3_tonesTurned_2 : decode cX3_tonesTurned 2 = .ok (.iconst 0, 1) := by decide +kernel
theorem dX3_tonesTurned_3 : decode cX3_tonesTurned 3 = .ok (.istore_n 3, 1) := by decide +kernel
theorem dX3_tonesTurned_4 : decode cX3_tonesTurned 4 = .ok (.iload_n 3, 1) := by decide +kernel
theorem dX3_tonesTurned_5 : decode cX3_tonesTurned 5 = .ok (.aload_n 0, 1) := by decide +kernel
theorem dX3_tonesTurned_6 : decode cX3_tonesTurned 6 = .ok (.getfield 18, 3) := by decide +kernel
theorem dX3_tonesTurned_9 : decode cX3_tonesTurned 9 = .ok (.if_icmp .ge 20, 3) := by decide +kernel
theorem dX3_tonesTurned_12 : decode cX3_tonesTurned 12 = .ok (.lload_n 1, 1) := by decide +kernel
theorem dX3_tonesTurned_13 : decode cX3_tonesTurned 13 = .ok (.iconst 4, 1) := by decide +kernel
theorem dX3_tonesTurned_14 : decode cX3_tonesTurned 14 = .ok (.lshl, 1) := by decide +kernel
theorem dX3_tonesTurned_15 : decode cX3_tonesTurned 15 = .ok (.aload_n 0, 1) := by decide +kernel
theorem dX3_tonesTurned_16 : decode cX3_tonesTurned 16 = .ok (.iload_n 3, 1) := by decide +kernel
theorem dX3_tonesTurned_17 : decode cX3_tonesTurned 17 = .ok (.invokevirtual 25, 3) := by decide +kernel
theorem dX3_tonesTurned_20 : decode cX3_tonesTurned 20 = .ok (.i2l, 1) := by decide +kernel
theorem dX3_tonesTurned_21 : decode cX3_tonesTurned 21 = .ok (.lor, 1) := by decide +kernel
theorem dX3_tonesTurned_22 : decode cX3_tonesTurned 22 = .ok (.lstore_n 1, 1) := by decide +kernel
theorem dX3_tonesTurned_23 : decode cX3_tonesTurned 23 = .ok (.iinc 3 1, 3) := by decide +kernel
theorem dX3_tonesTurned_26 : decode cX3_tonesTurned 26 = .ok (.goto (-22), 3) := by decide +kernel
theorem dX3_tonesTurned_29 : decode cX3_tonesTurned 29 = .ok (.lload_n 1, 1) := by decide +kernel
theorem dX3_tonesTurned_30 : decode cX3_tonesTurned 30 = .ok (.lreturn, 1) := by decide +kernel
set_option maxRecDepth 20000 in
theorem ggX3_isShiftOf_X3_tone : GoodIn wsX3_isShiftOf wsX3_tone := goodIn_r _ [7, 2, 12, 13, 14, 15] (by decide +kernel) (by decide +kernel)
set_option maxRecDepth 20000 in
theorem gX3_isShiftOf_X3_tone : GoodIn wsX3_isShiftOf (wsV RX3 25 RX3 yX3_tone wsX3_tone) := goodIn_app (goodIn_of _ (by decide +kernel)) ggX3_isShiftOf_X3_tone
set_option maxRecDepth 20000 in
theorem ggX3_isShiftOf_X3_tonesShifted : GoodIn wsX3_isShiftOf wsX3_tonesShifted := goodIn_r _ [11, 1, 3, 4, 5, 6, 7, 2, 12, 13, 14, 15] (by decide +kernel) (by decide +kernel)
set_option maxRecDepth 20000 in
theorem gX3_isShiftOf_X3_tonesShifted : GoodIn wsX3_isShiftOf (wsV RX3 29 RX3 yX3_tonesShifted wsX3_tonesShifted) := goodIn_app (goodIn_of _ (by decide +kernel)) ggX3_isShiftOf_X3_tonesShifted
theorem dX3_isShiftOf_0 : decode cX3_isShiftOf 0 = .ok (.aload_n 0, 1) := by decide +kernel
theorem dX3_isShiftOf_1 : decode cX3_isShiftOf 1 = .ok (.iconst 0, 1) := by decide +kernel
theorem dX3_isShiftOf_2 : decode cX3_isShiftOf 2 = .ok (.invokevirtual 25, 3) := by decide +kernel
theorem dX3_isShiftOf_5 : decode cX3_isShiftOf 5 = .ok (.aload_n 1, 1) := by decide +kernel
theorem dX3_isShiftOf_6 : decode cX3_isShiftOf 6 = .ok (.iconst 0, 1) := by decide +kernel
theorem dX3_isShiftOf_7 : decode cX3_isShiftOf 7 = .ok (.invokevirtual 25, 3) := by decide +kernel
theorem dX3_isShiftOf_10 : decode cX3_isShiftOf 10 = .ok (.isub, 1) := by decide +kernel
theorem dX3_isShiftOf_11 : decode cX3_isShiftOf 11 = .ok (.bipush 15, 2) := by decide +kernel
theorem dX3_isShiftOf_13 : decode cX3_isShiftOf 13 = .ok (.iand, 1) := by decide +kernel
theorem dX3_isShiftOf_14 : decode cX3_isShiftOf 14 = .ok (.istore_n 2, 1) := by decide +kernel
theorem dX3_isShiftOf_15 : decode cX3_isShiftOf 15 = .ok (.aload_n 0, 1) := by decide +kernel
theorem dX3_isShiftOf_16 : decode cX3_isShiftOf 16 = .ok (.getfield 18, 3) := by decide +kernel
theorem dX3_isShiftOf_19 : decode cX3_isShiftOf 19 = .ok (.aload_n 1, 1) := by decide +kernel
theorem dX3_isShiftOf_20 : decode cX3_isShiftOf 20 = .ok (.getfield 18, 3) := by decide +kernel
theorem dX3_isShiftOf_23 : decode cX3_isShiftOf 23 = .ok (.if_icmp .ne 20, 3) := by decide +kernel
theorem dX3_isShiftOf_26 : decode cX3_isShiftOf 26 = .ok (.aload_n 0, 1) := by decide +kernel
theorem dX3_isShiftOf_27 : decode cX3_isShiftOf 27 = .ok (.getfield 21, 3) := by decide +kernel
theorem dX3_isShiftOf_30 : decode cX3_isShiftOf 30 = .ok (.aload_n 1, 1) := by decide +kernel
theorem dX3_isShiftOf_31 : decode cX3_isShiftOf 31 = .ok (.iload_n 2, 1) := by decide +kernel
theorem dX3_isShiftOf_32 : decode cX3_isShiftOf 32 = .ok (.invokevirtual 29, 3) := by decide +kernel
theorem dX3_isShiftOf_35 : decode cX3_isShiftOf 35 = .ok (.lcmp, 1) := by decide +kernel
theorem dX3_isShiftOf_36 : decode cX3_isShiftOf 36 = .ok (.ifCond .ne 7, 3) := by decide +kernel
theorem dX3_isShiftOf_39 : decode cX3_isShiftOf 39 = .ok (.iconst 1, 1) := by decide +kernel
theorem dX3_isShiftOf_40 : decode cX3_isShiftOf 40 = .ok (.goto 4, 3) := by decide +kernel
theorem dX3_isShiftOf_43 : decode cX3_isShiftOf 43 = .ok (.iconst 0, 1) := by decide +kernel
theorem dX3_isShiftOf_44 : decode cX3_isShiftOf 44 = .ok (.ireturn, 1) := by decide +kernel
set_option maxRecDepth 20000 in
theorem ggX4_init_X2_init : GoodIn wsX4_init wsX2_init := goodIn_r _ [21, 22, 2, 3, 23, 24, 10, 25, 26, 27, 28, 29, 30, 31, 32, 33, 34, 35, 36, 37, 38, 39, 40, 41, 42, 43, 44, 45, 58, 59, 60, 61, 62, 63, 64, 65, 66, 67, 68, 69, 70, 73, 74, 75, 76] (by decide +kernel) (by decide +kernel)
set_option maxRecDepth 20000 in
theorem gX4_init_X2_init : GoodIn wsX4_init (wsX2_init) := ggX4_init_X2_init
set_option maxRecDepth 20000 in
theorem ggX4_init_X1_init : GoodIn wsX4_init wsX1_init := goodIn_r _ [47, 48, 2, 3, 49, 50, 71, 72] (by decide +kernel) (by decide +kernel)
set_option maxRecDepth 20000 in
theorem gX4_init_X1_init_n44 : GoodIn wsX4_init (wsX1_init) := ggX4_init_X1_init
theorem dX4_init_0 : decode cX4_init 0 = .ok (.aload_n 0, 1) := by decide +kernel
theorem dX4_init_1 : decode cX4_init 1 = .ok (.invokespecial 1, 3) := by decide +kernel
theorem dX4_init_4 : decode cX4_init 4 = .ok (.aload_n 0, 1) := by decide +kernel
theorem dX4_init_5 : decode cX4_init 5 = .ok (.bipush 8, 2) := by decide +kernel
theorem dX4_init_7 : decode cX4_init 7 = .ok (.anewarray 9, 3) := by decide +kernel
theorem dX4_init_10 : decode cX4_init 10 = .ok (.putfield 11, 3) := by decide +kernel
theorem dX4_init_13 : decode cX4_init 13 = .ok (.aload_n 0, 1) := by decide +kernel
theorem dX4_init_14 : decode cX4_init 14 = .ok (.iconst 2, 1) := by decide +kernel
theorem dX4_init_15 : decode cX4_init 15 = .ok (.anewarray 15, 3) := by decide +kernel
theorem dX4_init_18 : decode cX4_init 18 = .ok (.putfield 17, 3) := by decide +kernel
theorem dX4_init_21 : decode cX4_init 21 = .ok (.aload_n 0, 1) := by decide +kernel
theorem dX4_init_22 : decode cX4_init 22 = .ok (.bipush 12, 2) := by decide +kernel
theorem dX4_init_24 : decode cX4_init 24 = .ok (.anewarray 21, 3) := by decide +kernel
theorem dX4_init_27 : decode cX4_init 27 = .ok (.putfield 23, 3) := by decide +kernel
theorem dX4_init_30 : decode cX4_init 30 = .ok (.aload_n 0, 1) := by decide +kernel
theorem dX4_init_31 : decode cX4_init 31 = .ok (.bipush 100, 2) := by decide +kernel
theorem dX4_init_33 : decode cX4_init 33 = .ok (.newarray .int, 2) := by decide +kernel
theorem dX4_init_35 : decode cX4_init 35 = .ok (.putfield 27, 3) := by decide +kernel
theorem dX4_init_38 : decode cX4_init 38 = .ok (.aload_n 0, 1) := by decide +kernel
theorem dX4_init_39 : decode cX4_init 39 = .ok (.iconst 0, 1) := by decide +kernel
theorem dX4_init_40 : decode cX4_init 40 = .ok (.putfield 31, 3) := by decide +kernel
theorem dX4_init_43 : decode cX4_init 43 = .ok (.aload_n 0, 1) := by decide +kernel
theorem dX4_init_44 : decode cX4_init 44 = .ok (.iconst 0, 1) := by decide +kernel
theorem dX4_init_45 : decode cX4_init 45 = .ok (.putfield 35, 3) := by decide +kernel
theorem dX4_init_48 : decode cX4_init 48 = .ok (.aload_n 0, 1) := by decide +kernel
theorem dX4_init_49 : decode cX4_init 49 = .ok (.iconst 0, 1) := by decide +kernel
theorem dX4_init_50 : decode cX4_init 50 = .ok (.putfield 38, 3) := by decide +kernel
theorem dX4_init_53 : decode cX4_init 53 = .ok (.iconst 0, 1) := by decide +kernel
theorem dX4_init_54 : decode cX4_init 54 = .ok (.istore_n 1, 1) := by decide +kernel
theorem dX4_init_55 : decode cX4_init 55 = .ok (.iload_n 1, 1) := by decide +kernel
theorem dX4_init_56 : decode cX4_init 56 = .ok (.bipush 8, 2) := by decide +kernel
theorem dX4_init_58 : decode cX4_init 58 = .ok (.if_icmp .ge 23, 3) := by decide +kernel
theorem dX4_init_61 : decode cX4_init 61 = .ok (.aload_n 0, 1) := by decide +kernel
theorem dX4_init_62 : decode cX4_init 62 = .ok (.getfield 11, 3) := by decide +kernel
theorem dX4_init_65 : decode cX4_init 65 = .ok (.iload_n 1, 1) := by decide +kernel
theorem dX4_init_66 : decode cX4_init 66 = .ok (.new 9, 3) := by decide +kernel
theorem dX4_init_69 : decode cX4_init 69 = .ok (.dup, 1) := by decide +kernel
theorem dX4_init_70 : decode cX4_init 70 = .ok (.iload_n 1, 1) := by decide +kernel
theorem dX4_init_71 : decode cX4_init 71 = .ok (.invokespecial 41, 3) := by decide +kernel
theorem dX4_init_74 : decode cX4_init 74 = .ok (.aastore, 1) := by decide +kernel
theorem dX4_init_75 : decode cX4_init 75 = .ok (.iinc 1 1, 3) := by decide +kernel
theorem dX4_init_78 : decode cX4_init 78 = .ok (.goto (-23), 3) := by decide +kernel
theorem dX4_init_81 : decode cX4_init 81 = .ok (.iconst 0, 1) := by decide +kernel
theorem dX4_init_82 : decode cX4_init 82 = .ok (.istore_n 1, 1) := by decide +kernel
theorem dX4_init_83 : decode cX4_init 83 = .ok (.iload_n 1, 1) := by decide +kernel
theorem dX4_init_84 : decode cX4_init 84 = .ok (.iconst 2, 1) := by decide +kernel
theorem dX4_init_85 : decode cX4_init 85 = .ok (.if_icmp .ge 22, 3) := by decide +kernel
theorem dX4_init_88 : decode cX4_init 88 = .ok (.aload_n 0, 1) := by decide +kernel
theorem dX4_init_89 : decode cX4_init 89 = .ok (.getfield 17, 3) := by decide +kernel
theorem dX4_init_92 : decode cX4_init 92 = .ok (.iload_n 1, 1) := by decide +kernel
theorem dX4_init_93 : decode cX4_init 93 = .ok (.new 15, 3) := by decide +kernel
theorem dX4_init_96 : decode cX4_init 96 = .ok (.dup, 1) := by decide +kernel
theorem dX4_init_97 : decode cX4_init 97 = .ok (.invokespecial 44, 3) := by decide +kernel
theorem dX4_init_100 : decode cX4_init 100 = .ok (.aastore, 1) := by decide +kernel
theorem dX4_init_101 : decode cX4_init 101 = .ok (.iinc 1 1, 3) := by decide +kernel
theorem dX4_init_104 : decode cX4_init 104 = .ok (.goto (-21), 3) := by decide +kernel
theorem dX4_init_107 : decode cX4_init 107 = .ok (.return_, 1) := by decide +kernel
set_option maxRecDepth 20000 in
theorem ggX4_addMelody_X4_checkHouse : GoodIn wsX4_addMelody wsX4_checkHouse := goodIn_ca (goodIn_r _ [14, 15, 16] (by decide +kernel) (by decide +kernel)) (goodIn_sub (fun _ h => List.mem_cons_of_mem _ (List.mem_append_right _ h)) (by decide +kernel))
set_option maxRecDepth 20000 in
theorem gX4_addMelody_X4_checkHouse : GoodIn wsX4_addMelody (wsV RX4 45 RX4 yX4_checkHouse wsX4_checkHouse) := goodIn_app (goodIn_of _ (by decide +kernel)) ggX4_addMelody_X4_checkHouse
set_option maxRecDepth 20000 in
theorem ggX4_addMelody_X3_init : GoodIn wsX4_addMelody wsX3_init := goodIn_r _ [19, 20, 21, 22, 23, 24, 25, 26, 34, 35, 36, 37] (by decide +kernel) (by decide +kernel)
set_option maxRecDepth 20000 in
theorem gX4_addMelody_X3_init : GoodIn wsX4_addMelody (wsX3_init) := ggX4_addMelody_X3_init
theorem dX4_addMelody_0 : decode cX4_addMelody 0 = .ok (.aload_n 0, 1) := by decide +kernel
theorem dX4_addMelody_1 : decode cX4_addMelody 1 = .ok (.iload_n 1, 1) := by decide +kernel
theorem dX4_addMelody_2 : decode cX4_addMelody 2 = .ok (.invokevirtual 45, 3) := by decide +kernel
theorem dX4_addMelody_5 : decode cX4_addMelody 5 = .ok (.iload_n 2, 1) := by decide +kernel
theorem dX4_addMelody_6 : decode cX4_addMelody 6 = .ok (.iconst 1, 1) := by decide +kernel
theorem dX4_addMelody_7 : decode cX4_addMelody 7 = .ok (.if_icmp .lt 9, 3) := by decide +kernel
theorem dX4_addMelody_10 : decode cX4_addMelody 10 = .ok (.iload_n 2, 1) := by decide +kernel
theorem dX4_addMelody_11 : decode cX4_addMelody 11 = .ok (.bipush 12, 2) := by decide +kernel
theorem dX4_addMelody_13 : decode cX4_addMelody 13 = .ok (.if_icmp .le 13, 3) := by decide +kernel
theorem dX4_addMelody_16 : decode cX4_addMelody 16 = .ok (.new 48, 3) := by decide +kernel
theorem dX4_addMelody_19 : decode cX4_addMelody 19 = .ok (.dup, 1) := by decide +kernel
theorem dX4_addMelody_20 : decode cX4_addMelody 20 = .ok (.ldc 50, 2) := by decide +kernel
theorem dX4_addMelody_22 : decode cX4_addMelody 22 = .ok (.invokespecial 52, 3) := by decide +kernel
theorem dX4_addMelody_25 : decode cX4_addMelody 25 = .ok (.athrow, 1) := by decide +kernel
theorem dX4_addMelody_26 : decode cX4_addMelody 26 = .ok (.lload_n 3, 1) := by decide +kernel
theorem dX4_addMelody_27 : decode cX4_addMelody 27 = .ok (.lconst 0, 1) := by decide +kernel
theorem dX4_addMelody_28 : decode cX4_addMelody 28 = .ok (.lcmp, 1) := by decide +kernel
theorem dX4_addMelody_29 : decode cX4_addMelody 29 = .ok (.ifCond .lt 13, 3) := by decide +kernel
theorem dX4_addMelody_32 : decode cX4_addMelody 32 = .ok (.lload_n 3, 1) := by decide +kernel
theorem dX4_addMelody_33 : decode cX4_addMelody 33 = .ok (.iconst 4, 1) := by decide +kernel
theorem dX4_addMelody_34 : decode cX4_addMelody 34 = .ok (.iload_n 2, 1) := by decide +kernel
theorem dX4_addMelody_35 : decode cX4_addMelody 35 = .ok (.imul, 1) := by decide +kernel
theorem dX4_addMelody_36 : decode cX4_addMelody 36 = .ok (.lshr, 1) := by decide +kernel
theorem dX4_addMelody_37 : decode cX4_addMelody 37 = .ok (.lconst 0, 1) := by decide +kernel
theorem dX4_addMelody_38 : decode cX4_addMelody 38 = .ok (.lcmp, 1) := by decide +kernel
theorem dX4_addMelody_39 : decode cX4_addMelody 39 = .ok (.ifCond .eq 13, 3) := by decide +kernel
theorem dX4_addMelody_42 : decode cX4_addMelody 42 = .ok (.new 48, 3) := by decide +kernel
theorem dX4_addMelody_45 : decode cX4_addMelody 45 = .ok (.dup, 1) := by decide +kernel
theorem dX4_addMelody_46 : decode cX4_addMelody 46 = .ok (.ldc 55, 2) := by decide +kernel
theorem dX4_addMelody_48 : decode cX4_addMelody 48 = .ok (.invokespecial 52, 3) := by decide +kernel
theorem dX4_addMelody_51 : decode cX4_addMelody 51 = .ok (.athrow, 1) := by decide +kernel
theorem dX4_addMelody_52 : decode cX4_addMelody 52 = .ok (.aload_n 0, 1) := by decide +kernel
theorem dX4_addMelody_53 : decode cX4_addMelody 53 = .ok (.getfield 31, 3) := by decide +kernel
theorem dX4_addMelody_56 : decode cX4_addMelody 56 = .ok (.bipush 12, 2) := by decide +kernel
theorem dX4_addMelody_58 : decode cX4_addMelody 58 = .ok (.if_icmp .lt 13, 3) := by decide +kernel
theorem dX4_addMelody_61 : decode cX4_addMelody 61 = .ok (.new 57, 3) := by decide +kernel
theorem dX4_addMelody_64 : decode cX4_addMelody 64 = .ok (.dup, 1) := by decide +kernel
theorem dX4_addMelody_65 : decode cX4_addMelody 65 = .ok (.ldc 59, 2) := by decide +kernel
theorem dX4_addMelody_67 : decode cX4_addMelody 67 = .ok (.invokespecial 61, 3) := by decide +kernel
theorem dX4_addMelody_70 : decode cX4_addMelody 70 = .ok (.athrow, 1) := by decide +kernel
theorem dX4_addMelody_71 : decode cX4_addMelody 71 = .ok (.aload_n 0, 1) := by decide +kernel
theorem dX4_addMelody_72 : decode cX4_addMelody 72 = .ok (.getfield 31, 3) := by decide +kernel
theorem dX4_addMelody_75 : decode cX4_addMelody 75 = .ok (.istore 5, 2) := by decide +kernel
theorem dX4_addMelody_77 : decode cX4_addMelody 77 = .ok (.aload_n 0, 1) := by decide +kernel
theorem dX4_addMelody_78 : decode cX4_addMelody 78 = .ok (.getfield 23, 3) := by decide +kernel
theorem dX4_addMelody_81 : decode cX4_addMelody 81 = .ok (.iload 5, 2) := by decide +kernel
theorem dX4_addMelody_83 : decode cX4_addMelody 83 = .ok (.new 21, 3) := by decide +kernel
theorem dX4_addMelody_86 : decode cX4_addMelody 86 = .ok (.dup, 1) := by decide +kernel
theorem dX4_addMelody_87 : decode cX4_addMelody 87 = .ok (.iload 5, 2) := by decide +kernel
theorem dX4_addMelody_89 : decode cX4_addMelody 89 = .ok (.iload_n 1, 1) := by decide +kernel
theorem dX4_addMelody_90 : decode cX4_addMelody 90 = .ok (.iload_n 2, 1) := by decide +kernel
theorem dX4_addMelody_91 : decode cX4_addMelody 91 = .ok (.lload_n 3, 1) := by decide +kernel
theorem dX4_addMelody_92 : decode cX4_addMelody 92 = .ok (.invokespecial 62, 3) := by decide +kernel
theorem dX4_addMelody_95 : decode cX4_addMelody 95 = .ok (.aastore, 1) := by decide +kernel
theorem dX4_addMelody_96 : decode cX4_addMelody 96 = .ok (.aload_n 0, 1) := by decide +kernel
theorem dX4_addMelody_97 : decode cX4_addMelody 97 = .ok (.dup, 1) := by decide +kernel
theorem dX4_addMelody_98 : decode cX4_addMelody 98 = .ok (.getfield 31, 3) := by decide +kernel
theorem dX4_addMelody_101 : decode cX4_addMelody 101 = .ok (.iconst 1, 1) := by decide +kernel
theorem dX4_addMelody_102 : decode cX4_addMelody 102 = .ok (.iadd, 1) := by decide +kernel
theorem dX4_addMelody_103 : decode cX4_addMelody 103 = .ok (.putfield 31, 3) := by decide +kernel
theorem dX4_addMelody_106 : decode cX4_addMelody 106 = .ok (.iload 5, 2) := by decide +kernel
theorem dX4_addMelody_108 : decode cX4_addMelody 108 = .ok (.ireturn, 1) := by decide +kernel
set_option maxRecDepth 20000 in
theorem ggX4_toneAt_X4_melodyAt : GoodIn wsX4_toneAt wsX4_melodyAt := goodIn_ca (goodIn_r _ [7, 1, 2, 8, 19, 20, 21, 22, 23, 24, 25] (by decide +kernel) (by decide +kernel)) (goodIn_sub (fun _ h => List.mem_cons_of_mem _ (List.mem_append_right _ h)) (by decide +kernel))
set_option maxRecDepth 20000 in
theorem gX4_toneAt_X4_melodyAt : GoodIn wsX4_toneAt (wsV RX4 65 RX4 yX4_melodyAt wsX4_melodyAt) := goodIn_app (goodIn_of _ (by decide +kernel)) ggX4_toneAt_X4_melodyAt
set_option maxRecDepth 20000 in
theorem ggX4_toneAt_X3_tone : GoodIn wsX4_toneAt wsX3_tone := goodIn_r _ [13, 14, 15, 16, 17, 18] (by decide +kernel) (by decide +kernel)
set_option maxRecDepth 20000 in
theorem gX4_toneAt_X3_tone : GoodIn wsX4_toneAt (wsV RX4 77 RX3 yX3_tone wsX3_tone) := goodIn_app (goodIn_of _ (by decide +kernel)) ggX4_toneAt_X3_tone
theorem dX4_toneAt_0 : decode cX4_toneAt 0 = .ok (.aload_n 0, 1) := by decide +kernel
theorem dX4_toneAt_1 : decode cX4_toneAt 1 = .ok (.iload_n 1, 1) := by decide +kernel
theorem dX4_toneAt_2 : decode cX4_toneAt 2 = .ok (.invokevirtual 65, 3) := by decide +kernel
theorem dX4_toneAt_5 : decode cX4_toneAt 5 = .ok (.astore_n 3, 1) := by decide +kernel
theorem dX4_toneAt_6 : decode cX4_toneAt 6 = .ok (.iload_n 2, 1) := by decide +kernel
theorem dX4_toneAt_7 : decode cX4_toneAt 7 = .ok (.ifCond .lt 11, 3) := by decide +kernel
theorem dX4_toneAt_10 : decode cX4_toneAt 10 = .ok (.iload_n 2, 1) := by decide +kernel
theorem dX4_toneAt_11 : decode cX4_toneAt 11 = .ok (.aload_n 3, 1) := by decide +kernel
theorem dX4_toneAt_12 : decode cX4_toneAt 12 = .ok (.getfield 69, 3) := by decide +kernel
theorem dX4_toneAt_15 : decode cX4_toneAt 15 = .ok (.if_icmp .lt 13, 3) := by decide +kernel
theorem dX4_toneAt_18 : decode cX4_toneAt 18 = .ok (.new 72, 3) := by decide +kernel
theorem dX4_toneAt_21 : decode cX4_toneAt 21 = .ok (.dup, 1) := by decide +kernel
theorem dX4_toneAt_22 : decode cX4_toneAt 22 = .ok (.ldc 74, 2) := by decide +kernel
theorem dX4_toneAt_24 : decode cX4_toneAt 24 = .ok (.invokespecial 76, 3) := by decide +kernel
theorem dX4_toneAt_27 : decode cX4_toneAt 27 = .ok (.athrow, 1) := by decide +kernel
theorem dX4_toneAt_28 : decode cX4_toneAt 28 = .ok (.aload_n 3, 1) := by decide +kernel
theorem dX4_toneAt_29 : decode cX4_toneAt 29 = .ok (.iload_n 2, 1) := by decide +kernel
theorem dX4_toneAt_30 : decode cX4_toneAt 30 = .ok (.invokevirtual 77, 3) := by decide +kernel
theorem dX4_toneAt_33 : decode cX4_toneAt 33 = .ok (.ireturn, 1) := by decide +kernel
set_option maxRecDepth 20000 in
theorem ggX4_shifted_X4_melodyAt : GoodIn wsX4_shifted wsX4_melodyAt := goodIn_ca (goodIn_r _ [7, 8, 9, 10, 22, 23, 24, 25, 26, 27, 28] (by decide +kernel) (by decide +kernel)) (goodIn_sub (fun _ h => List.mem_cons_of_mem _ (List.mem_append_right _ h)) (by decide +kernel))
set_option maxRecDepth 20000 in
theorem gX4_shifted_X4_melodyAt : GoodIn wsX4_shifted (wsV RX4 65 RX4 yX4_melodyAt wsX4_melodyAt) := goodIn_app (goodIn_of _ (by decide +kernel)) ggX4_shifted_X4_melodyAt
set_option maxRecDepth 20000 in
theorem ggX4_shifted_X3_tonesShifted : GoodIn wsX4_shifted wsX3_tonesShifted := goodIn_r _ [15, 16, 17, 18, 19, 14, 20, 21, 29, 30, 31, 32] (by decide +kernel) (by decide +kernel)
set_option maxRecDepth 20000 in
theorem gX4_shifted_X3_tonesShifted : GoodIn wsX4_shifted (wsV RX4 83 RX3 yX3_tonesShifted wsX3_tonesShifted) := goodIn_app (goodIn_of _ (by decide +kernel)) ggX4_shifted_X3_tonesShifted
theorem dX4_shifted_0 : decode cX4_shifted 0 = .ok (.aload_n 0, 1) := by decide +kernel
theorem dX4_shifted_1 : decode cX4_shifted 1 = .ok (.iload_n 1, 1) := by decide +kernel
theorem dX4_shifted_2 : decode cX4_shifted 2 = .ok (.invokevirtual 65, 3) := by decide +kernel
theorem dX4_shifted_5 : decode cX4_shifted 5 = .ok (.astore_n 3, 1) := by decide +kernel
theorem dX4_shifted_6 : decode cX4_shifted 6 = .ok (.iload_n 2, 1) := by decide +kernel
theorem dX4_shifted_7 : decode cX4_shifted 7 = .ok (.ifCond .lt 9, 3) := by decide +kernel
theorem dX4_shifted_10 : decode cX4_shifted 10 = .ok (.iload_n 2, 1) := by decide +kernel
theorem dX4_shifted_11 : decode cX4_shifted 11 = .ok (.bipush 15, 2) := by decide +kernel
theorem dX4_shifted_13 : decode cX4_shifted 13 = .ok (.if_icmp .le 13, 3) := by decide +kernel
theorem dX4_shifted_16 : decode cX4_shifted 16 = .ok (.new 48, 3) := by decide +kernel
theorem dX4_shifted_19 : decode cX4_shifted 19 = .ok (.dup, 1) := by decide +kernel
theorem dX4_shifted_20 : decode cX4_shifted 20 = .ok (.ldc 81, 2) := by decide +kernel
theorem dX4_shifted_22 : decode cX4_shifted 22 = .ok (.invokespecial 52, 3) := by decide +kernel
theorem dX4_shifted_25 : decode cX4_shifted 25 = .ok (.athrow, 1) := by decide +kernel
theorem dX4_shifted_26 : decode cX4_shifted 26 = .ok (.aload_n 3, 1) := by decide +kernel
theorem dX4_shifted_27 : decode cX4_shifted 27 = .ok (.iload_n 2, 1) := by decide +kernel
theorem dX4_shifted_28 : decode cX4_shifted 28 = .ok (.invokevirtual 83, 3) := by decide +kernel
theorem dX4_shifted_31 : decode cX4_shifted 31 = .ok (.lreturn, 1) := by decide +kernel
set_option maxRecDepth 20000 in
theorem ggX4_turned_X4_melodyAt : GoodIn wsX4_turned wsX4_melodyAt := goodIn_ca (goodIn_r _ [5, 6, 7, 8, 20, 21, 22, 23, 24, 25, 26] (by decide +kernel) (by decide +kernel)) (goodIn_sub (fun _ h => List.mem_cons_of_mem _ (List.mem_append_right _ h)) (by decide +kernel))
set_option maxRecDepth 20000 in
theorem gX4_turned_X4_melodyAt : GoodIn wsX4_turned (wsV RX4 65 RX4 yX4_melodyAt wsX4_melodyAt) := goodIn_app (goodIn_of _ (by decide +kernel)) ggX4_turned_X4_melodyAt
set_option maxRecDepth 20000 in
theorem ggX4_turned_X3_tonesTurned : GoodIn wsX4_turned wsX3_tonesTurned := goodIn_r _ [13, 14, 15, 16, 17, 12, 18, 19, 27, 28, 29, 30] (by decide +kernel) (by decide +kernel)
set_option maxRecDepth 20000 in
theorem gX4_turned_X3_tonesTurned : GoodIn wsX4_turned (wsV RX4 87 RX3 yX3_tonesTurned wsX3_tonesTurned) := goodIn_app (goodIn_of _ (by decide +kernel)) ggX4_turned_X3_tonesTurned
theorem dX4_turned_0 : decode cX4_turned 0 = .ok (.aload_n 0, 1) := by decide +kernel
theorem dX4_turned_1 : decode cX4_turned 1 = .ok (.iload_n 1, 1) := by decide +kernel
theorem dX4_turned_2 : decode cX4_turned 2 = .ok (.invokevirtual 65, 3) := by decide +kernel
theorem dX4_turned_5 : decode cX4_turned 5 = .ok (.invokevirtual 87, 3) := by decide +kernel
theorem dX4_turned_8 : decode cX4_turned 8 = .ok (.lreturn, 1) := by decide +kernel
set_option maxRecDepth 20000 in
theorem ggX4_areAlike_X4_melodyAt : GoodIn wsX4_areAlike wsX4_melodyAt := goodIn_ca (goodIn_r _ [5, 6, 7, 8, 24, 25, 26, 27, 28, 29, 30] (by decide +kernel) (by decide +kernel)) (goodIn_sub (fun _ h => List.mem_cons_of_mem _ (List.mem_append_right _ h)) (by decide +kernel))
set_option maxRecDepth 20000 in
theorem gX4_areAlike_X4_melodyAt : GoodIn wsX4_areAlike (wsV RX4 65 RX4 yX4_melodyAt wsX4_melodyAt) := goodIn_app (goodIn_of _ (by decide +kernel)) ggX4_areAlike_X4_melodyAt
set_option maxRecDepth 20000 in
theorem ggX4_areAlike_X3_isShiftOf : GoodIn wsX4_areAlike wsX3_isShiftOf := goodIn_r _ [13, 14, 15, 16, 17, 18, 12, 19, 20, 21, 22, 23, 31, 32, 33, 34] (by decide +kernel) (by decide +kernel)
set_option maxRecDepth 20000 in
theorem gX4_areAlike_X3_isShiftOf : GoodIn wsX4_areAlike (wsV RX4 91 RX3 yX3_isShiftOf wsX3_isShiftOf) := goodIn_app (goodIn_of _ (by decide +kernel)) ggX4_areAlike_X3_isShiftOf
theorem dX4_areAlike_0 : decode cX4_areAlike 0 = .ok (.aload_n 0, 1) := by decide +kernel
theorem dX4_areAlike_1 : decode cX4_areAlike 1 = .ok (.iload_n 1, 1) := by decide +kernel
theorem dX4_areAlike_2 : decode cX4_areAlike 2 = .ok (.invokevirtual 65, 3) := by decide +kernel
theorem dX4_areAlike_5 : decode cX4_areAlike 5 = .ok (.aload_n 0, 1) := by decide +kernel
theorem dX4_areAlike_6 : decode cX4_areAlike 6 = .ok (.iload_n 2, 1) := by decide +kernel
theorem dX4_areAlike_7 : decode cX4_areAlike 7 = .ok (.invokevirtual 65, 3) := by decide +kernel
theorem dX4_areAlike_10 : decode cX4_areAlike 10 = .ok (.invokevirtual 91, 3) := by decide +kernel
theorem dX4_areAlike_13 : decode cX4_areAlike 13 = .ok (.ireturn, 1) := by decide +kernel
set_option maxRecDepth 20000 in
theorem ggX4_license_X4_houseAt : GoodIn wsX4_license wsX4_houseAt := goodIn_ca (goodIn_r _ [9, 10, 11, 12, 13, 8, 14, 15, 16, 39, 40, 41, 42, 43, 44, 45] (by decide +kernel) (by decide +kernel)) (goodIn_sub (fun _ h => List.mem_cons_of_mem _ (List.mem_append_right _ h)) (by decide +kernel))
set_option maxRecDepth 20000 in
theorem gX4_license_X4_houseAt : GoodIn wsX4_license (wsV RX4 95 RX4 yX4_houseAt wsX4_houseAt) := goodIn_app (goodIn_of _ (by decide +kernel)) ggX4_license_X4_houseAt
set_option maxRecDepth 20000 in
theorem ggX4_license_X4_melodyAt : GoodIn wsX4_license wsX4_melodyAt := goodIn_ca (goodIn_r _ [20, 15, 16, 21, 39, 40, 41, 42, 43, 44, 45] (by decide +kernel) (by decide +kernel)) (goodIn_sub (fun _ h => List.mem_cons_of_mem _ (List.mem_append_right _ h)) (by decide +kernel))
set_option maxRecDepth 20000 in
theorem gX4_license_X4_melodyAt : GoodIn wsX4_license (wsV RX4 65 RX4 yX4_melodyAt wsX4_melodyAt) := goodIn_app (goodIn_of _ (by decide +kernel)) ggX4_license_X4_melodyAt
theorem dX4_license_0 : decode cX4_license 0 = .ok (.aload_n 0, 1) := by decide +kernel
theorem dX4_license_1 : decode cX4_license 1 = .ok (.iload_n 1, 1) := by decide +kernel
theorem dX4_license_2 : decode cX4_license 2 = .ok (.invokevirtual 95, 3) := by decide +kernel
theorem dX4_license_5 : decode cX4_license 5 = .ok (.astore 4, 2) := by decide +kernel
theorem dX4_license_7 : decode cX4_license 7 = .ok (.aload_n 0, 1) := by decide +kernel
theorem dX4_license_8 : decode cX4_license 8 = .ok (.iload_n 2, 1) := by decide +kernel
theorem dX4_license_9 : decode cX4_license 9 = .ok (.invokevirtual 65, 3) := by decide +kernel
theorem dX4_license_12 : decode cX4_license 12 = .ok (.astore 5, 2) := by decide +kernel
theorem dX4_license_14 : decode cX4_license 14 = .ok (.iload_n 3, 1) := by decide +kernel
theorem dX4_license_15 : decode cX4_license 15 = .ok (.iconst 1, 1) := by decide +kernel
theorem dX4_license_16 : decode cX4_license 16 = .ok (.if_icmp .lt 10, 3) := by decide +kernel
theorem dX4_license_19 : decode cX4_license 19 = .ok (.iload_n 3, 1) := by decide +kernel
theorem dX4_license_20 : decode cX4_license 20 = .ok (.sipush 1000, 3) := by decide +kernel
theorem dX4_license_23 : decode cX4_license 23 = .ok (.if_icmp .le 13, 3) := by decide +kernel
theorem dX4_license_26 : decode cX4_license 26 = .ok (.new 48, 3) := by decide +kernel
theorem dX4_license_29 : decode cX4_license 29 = .ok (.dup, 1) := by decide +kernel
theorem dX4_license_30 : decode cX4_license 30 = .ok (.ldc 99, 2) := by decide +kernel
theorem dX4_license_32 : decode cX4_license 32 = .ok (.invokespecial 52, 3) := by decide +kernel
theorem dX4_license_35 : decode cX4_license 35 = .ok (.athrow, 1) := by decide +kernel
theorem dX4_license_36 : decode cX4_license 36 = .ok (.aload 5, 2) := by decide +kernel
theorem dX4_license_38 : decode cX4_license 38 = .ok (.getfield 101, 3) := by decide +kernel
theorem dX4_license_41 : decode cX4_license 41 = .ok (.iload_n 1, 1) := by decide +kernel
theorem dX4_license_42 : decode cX4_license 42 = .ok (.if_icmp .ne 13, 3) := by decide +kernel
theorem dX4_license_45 : decode cX4_license 45 = .ok (.new 57, 3) := by decide +kernel
theorem dX4_license_48 : decode cX4_license 48 = .ok (.dup, 1) := by decide +kernel
theorem dX4_license_49 : decode cX4_license 49 = .ok (.ldc 104, 2) := by decide +kernel
theorem dX4_license_51 : decode cX4_license 51 = .ok (.invokespecial 61, 3) := by decide +kernel
theorem dX4_license_54 : decode cX4_license 54 = .ok (.athrow, 1) := by decide +kernel
theorem dX4_license_55 : decode cX4_license 55 = .ok (.aload 4, 2) := by decide +kernel
theorem dX4_license_57 : decode cX4_license 57 = .ok (.getfield 106, 3) := by decide +kernel
theorem dX4_license_60 : decode cX4_license 60 = .ok (.iload_n 2, 1) := by decide +kernel
theorem dX4_license_61 : decode cX4_license 61 = .ok (.iaload, 1) := by decide +kernel
theorem dX4_license_62 : decode cX4_license 62 = .ok (.iload_n 3, 1) := by decide +kernel
theorem dX4_license_63 : decode cX4_license 63 = .ok (.iadd, 1) := by decide +kernel
theorem dX4_license_64 : decode cX4_license 64 = .ok (.sipush 1000, 3) := by decide +kernel
theorem dX4_license_67 : decode cX4_license 67 = .ok (.if_icmp .le 13, 3) := by decide +kernel
theorem dX4_license_70 : decode cX4_license 70 = .ok (.new 57, 3) := by decide +kernel
theorem dX4_license_73 : decode cX4_license 73 = .ok (.dup, 1) := by decide +kernel
theorem dX4_license_74 : decode cX4_license 74 = .ok (.ldc 109, 2) := by decide +kernel
theorem dX4_license_76 : decode cX4_license 76 = .ok (.invokespecial 61, 3) := by decide +kernel
theorem dX4_license_79 : decode cX4_license 79 = .ok (.athrow, 1) := by decide +kernel
theorem dX4_license_80 : decode cX4_license 80 = .ok (.aload 4, 2) := by decide +kernel
theorem dX4_license_82 : decode cX4_license 82 = .ok (.getfield 106, 3) := by decide +kernel
theorem dX4_license_85 : decode cX4_license 85 = .ok (.iload_n 2, 1) := by decide +kernel
theorem dX4_license_86 : decode cX4_license 86 = .ok (.dup2, 1) := by decide +kernel
theorem dX4_license_87 : decode cX4_license 87 = .ok (.iaload, 1) := by decide +kernel
theorem dX4_license_88 : decode cX4_license 88 = .ok (.iload_n 3, 1) := by decide +kernel
theorem dX4_license_89 : decode cX4_license 89 = .ok (.iadd, 1) := by decide +kernel
theorem dX4_license_90 : decode cX4_license 90 = .ok (.iastore, 1) := by decide +kernel
theorem dX4_license_91 : decode cX4_license 91 = .ok (.aload 4, 2) := by decide +kernel
theorem dX4_license_93 : decode cX4_license 93 = .ok (.getfield 106, 3) := by decide +kernel
theorem dX4_license_96 : decode cX4_license 96 = .ok (.iload_n 2, 1) := by decide +kernel
theorem dX4_license_97 : decode cX4_license 97 = .ok (.iaload, 1) := by decide +kernel
theorem dX4_license_98 : decode cX4_license 98 = .ok (.ireturn, 1) := by decide +kernel
set_option maxRecDepth 20000 in
theorem ggX4_setQuiet_X4_houseAt : GoodIn wsX4_setQuiet wsX4_houseAt := goodIn_ca (goodIn_r _ [8, 9, 10, 11, 12, 7, 13, 14, 15, 50, 51, 52, 53, 54, 55, 56] (by decide +kernel) (by decide +kernel)) (goodIn_sub (fun _ h => List.mem_cons_of_mem _ (List.mem_append_right _ h)) (by decide +kernel))
set_option maxRecDepth 20000 in
theorem gX4_setQuiet_X4_houseAt : GoodIn wsX4_setQuiet (wsV RX4 95 RX4 yX4_houseAt wsX4_houseAt) := goodIn_app (goodIn_of _ (by decide +kernel)) ggX4_setQuiet_X4_houseAt
set_option maxRecDepth 20000 in
theorem ggX4_setQuiet_X2_isQuietAt : GoodIn wsX4_setQuiet wsX2_isQuietAt := goodIn_r _ [20, 21, 22, 23, 19, 24, 25, 26, 27, 28, 29, 30, 31, 32, 33, 34, 35, 36, 37, 38, 39, 40, 41, 42, 43, 44, 45, 46, 47, 48, 49] (by decide +kernel) (by decide +kernel)
set_option maxRecDepth 20000 in
theorem gX4_setQuiet_X2_isQuietAt : GoodIn wsX4_setQuiet (wsV RX4 119 RX2 yX2_isQuietAt wsX2_isQuietAt) := goodIn_app (goodIn_of _ (by decide +kernel)) ggX4_setQuiet_X2_isQuietAt
theorem dX4_setQuiet_0 : decode cX4_setQuiet 0 = .ok (.aload_n 0, 1) := by decide +kernel
theorem dX4_setQuiet_1 : decode cX4_setQuiet 1 = .ok (.iload_n 1, 1) := by decide +kernel
theorem dX4_setQuiet_2 : decode cX4_setQuiet 2 = .ok (.invokevirtual 95, 3) := by decide +kernel
theorem dX4_setQuiet_5 : decode cX4_setQuiet 5 = .ok (.astore 4, 2) := by decide +kernel
theorem dX4_setQuiet_7 : decode cX4_setQuiet 7 = .ok (.iload_n 2, 1) := by decide +kernel
theorem dX4_setQuiet_8 : decode cX4_setQuiet 8 = .ok (.ifCond .lt 21, 3) := by decide +kernel
theorem dX4_setQuiet_11 : decode cX4_setQuiet 11 = .ok (.iload_n 2, 1) := by decide +kernel
theorem dX4_setQuiet_12 : decode cX4_setQuiet 12 = .ok (.sipush 1000, 3) := by decide +kernel
theorem dX4_setQuiet_15 : decode cX4_setQuiet 15 = .ok (.if_icmp .ge 14, 3) := by decide +kernel
theorem dX4_setQuiet_18 : decode cX4_setQuiet 18 = .ok (.iload_n 3, 1) := by decide +kernel
theorem dX4_setQuiet_19 : decode cX4_setQuiet 19 = .ok (.ifCond .lt 10, 3) := by decide +kernel
theorem dX4_setQuiet_22 : decode cX4_setQuiet 22 = .ok (.iload_n 3, 1) := by decide +kernel
theorem dX4_setQuiet_23 : decode cX4_setQuiet 23 = .ok (.sipush 1000, 3) := by decide +kernel
theorem dX4_setQuiet_26 : decode cX4_setQuiet 26 = .ok (.if_icmp .lt 13, 3) := by decide +kernel
theorem dX4_setQuiet_29 : decode cX4_setQuiet 29 = .ok (.new 48, 3) := by decide +kernel
theorem dX4_setQuiet_32 : decode cX4_setQuiet 32 = .ok (.dup, 1) := by decide +kernel
theorem dX4_setQuiet_33 : decode cX4_setQuiet 33 = .ok (.ldc 111, 2) := by decide +kernel
theorem dX4_setQuiet_35 : decode cX4_setQuiet 35 = .ok (.invokespecial 52, 3) := by decide +kernel
theorem dX4_setQuiet_38 : decode cX4_setQuiet 38 = .ok (.athrow, 1) := by decide +kernel
theorem dX4_setQuiet_39 : decode cX4_setQuiet 39 = .ok (.aload 4, 2) := by decide +kernel
theorem dX4_setQuiet_41 : decode cX4_setQuiet 41 = .ok (.iload_n 2, 1) := by decide +kernel
theorem dX4_setQuiet_42 : decode cX4_setQuiet 42 = .ok (.putfield 113, 3) := by decide +kernel
theorem dX4_setQuiet_45 : decode cX4_setQuiet 45 = .ok (.aload 4, 2) := by decide +kernel
theorem dX4_setQuiet_47 : decode cX4_setQuiet 47 = .ok (.iload_n 3, 1) := by decide +kernel
theorem dX4_setQuiet_48 : decode cX4_setQuiet 48 = .ok (.putfield 116, 3) := by decide +kernel
theorem dX4_setQuiet_51 : decode cX4_setQuiet 51 = .ok (.aload 4, 2) := by decide +kernel
theorem dX4_setQuiet_53 : decode cX4_setQuiet 53 = .ok (.aload_n 0, 1) := by decide +kernel
theorem dX4_setQuiet_54 : decode cX4_setQuiet 54 = .ok (.getfield 38, 3) := by decide +kernel
theorem dX4_setQuiet_57 : decode cX4_setQuiet 57 = .ok (.invokevirtual 119, 3) := by decide +kernel
theorem dX4_setQuiet_60 : decode cX4_setQuiet 60 = .ok (.ireturn, 1) := by decide +kernel
set_option maxRecDepth 20000 in
theorem ggX4_lay_X4_bellAt : GoodIn wsX4_lay wsX4_bellAt := goodIn_ca (goodIn_r _ [7, 8, 9, 10, 11, 12, 6, 13, 14, 15, 16, 17, 18, 32, 33, 34, 35, 36, 37, 38, 39, 40, 41, 42, 43, 44, 45, 46, 47, 48, 49, 50, 51] (by decide +kernel) (by decide +kernel)) (goodIn_sub (fun _ h => List.mem_cons_of_mem _ (List.mem_append_right _ h)) (by decide +kernel))
set_option maxRecDepth 20000 in
theorem gX4_lay_X4_bellAt : GoodIn wsX4_lay (wsV RX4 123 RX4 yX4_bellAt wsX4_bellAt) := goodIn_app (goodIn_of _ (by decide +kernel)) ggX4_lay_X4_bellAt
set_option maxRecDepth 20000 in
theorem ggX4_lay_X4_melodyAt : GoodIn wsX4_lay wsX4_melodyAt := goodIn_ca (goodIn_r _ [22, 8, 9, 23, 45, 46, 47, 48, 49, 50, 51] (by decide +kernel) (by decide +kernel)) (goodIn_sub (fun _ h => List.mem_cons_of_mem _ (List.mem_append_right _ h)) (by decide +kernel))
set_option maxRecDepth 20000 in
theorem gX4_lay_X4_melodyAt : GoodIn wsX4_lay (wsV RX4 65 RX4 yX4_melodyAt wsX4_melodyAt) := goodIn_app (goodIn_of _ (by decide +kernel)) ggX4_lay_X4_melodyAt
theorem dX4_lay_0 : decode cX4_lay 0 = .ok (.aload_n 0, 1) := by decide +kernel
theorem dX4_lay_1 : decode cX4_lay 1 = .ok (.iload_n 1, 1) := by decide +kernel
theorem dX4_lay_2 : decode cX4_lay 2 = .ok (.iload_n 2, 1) := by decide +kernel
theorem dX4_lay_3 : decode cX4_lay 3 = .ok (.invokevirtual 123, 3) := by decide +kernel
theorem dX4_lay_6 : decode cX4_lay 6 = .ok (.astore 5, 2) := by decide +kernel
theorem dX4_lay_8 : decode cX4_lay 8 = .ok (.iload_n 3, 1) := by decide +kernel
theorem dX4_lay_9 : decode cX4_lay 9 = .ok (.iconst (-1), 1) := by decide +kernel
theorem dX4_lay_10 : decode cX4_lay 10 = .ok (.if_icmp .ne 7, 3) := by decide +kernel
theorem dX4_lay_13 : decode cX4_lay 13 = .ok (.aconst_null, 1) := by decide +kernel
theorem dX4_lay_14 : decode cX4_lay 14 = .ok (.goto 8, 3) := by decide +kernel
theorem dX4_lay_17 : decode cX4_lay 17 = .ok (.aload_n 0, 1) := by decide +kernel
theorem dX4_lay_18 : decode cX4_lay 18 = .ok (.iload_n 3, 1) := by decide +kernel
theorem dX4_lay_19 : decode cX4_lay 19 = .ok (.invokevirtual 65, 3) := by decide +kernel
theorem dX4_lay_22 : decode cX4_lay 22 = .ok (.astore 6, 2) := by decide +kernel
theorem dX4_lay_24 : decode cX4_lay 24 = .ok (.iload 4, 2) := by decide +kernel
theorem dX4_lay_26 : decode cX4_lay 26 = .ok (.iconst 1, 1) := by decide +kernel
theorem dX4_lay_27 : decode cX4_lay 27 = .ok (.if_icmp .lt 10, 3) := by decide +kernel
theorem dX4_lay_30 : decode cX4_lay 30 = .ok (.iload 4, 2) := by decide +kernel
theorem dX4_lay_32 : decode cX4_lay 32 = .ok (.bipush 9, 2) := by decide +kernel
theorem dX4_lay_34 : decode cX4_lay 34 = .ok (.if_icmp .le 13, 3) := by decide +kernel
theorem dX4_lay_37 : decode cX4_lay 37 = .ok (.new 48, 3) := by decide +kernel
theorem dX4_lay_40 : decode cX4_lay 40 = .ok (.dup, 1) := by decide +kernel
theorem dX4_lay_41 : decode cX4_lay 41 = .ok (.ldc 127, 2) := by decide +kernel
theorem dX4_lay_43 : decode cX4_lay 43 = .ok (.invokespecial 52, 3) := by decide +kernel
theorem dX4_lay_46 : decode cX4_lay 46 = .ok (.athrow, 1) := by decide +kernel
theorem dX4_lay_47 : decode cX4_lay 47 = .ok (.aload 5, 2) := by decide +kernel
theorem dX4_lay_49 : decode cX4_lay 49 = .ok (.getfield 129, 3) := by decide +kernel
theorem dX4_lay_52 : decode cX4_lay 52 = .ok (.astore 7, 2) := by decide +kernel
theorem dX4_lay_54 : decode cX4_lay 54 = .ok (.aload 5, 2) := by decide +kernel
theorem dX4_lay_56 : decode cX4_lay 56 = .ok (.aload 6, 2) := by decide +kernel
theorem dX4_lay_58 : decode cX4_lay 58 = .ok (.putfield 129, 3) := by decide +kernel
theorem dX4_lay_61 : decode cX4_lay 61 = .ok (.aload 5, 2) := by decide +kernel
theorem dX4_lay_63 : decode cX4_lay 63 = .ok (.iload 4, 2) := by decide +kernel
theorem dX4_lay_65 : decode cX4_lay 65 = .ok (.putfield 135, 3) := by decide +kernel
theorem dX4_lay_68 : decode cX4_lay 68 = .ok (.aload 5, 2) := by decide +kernel
theorem dX4_lay_70 : decode cX4_lay 70 = .ok (.iconst 0, 1) := by decide +kernel
theorem dX4_lay_71 : decode cX4_lay 71 = .ok (.putfield 138, 3) := by decide +kernel
theorem dX4_lay_74 : decode cX4_lay 74 = .ok (.aload 7, 2) := by decide +kernel
theorem dX4_lay_76 : decode cX4_lay 76 = .ok (.ifnonnull 7, 3) := by decide +kernel
theorem dX4_lay_79 : decode cX4_lay 79 = .ok (.iconst (-1), 1) := by decide +kernel
theorem dX4_lay_80 : decode cX4_lay 80 = .ok (.goto 8, 3) := by decide +kernel
theorem dX4_lay_83 : decode cX4_lay 83 = .ok (.aload 7, 2) := by decide +kernel
theorem dX4_lay_85 : decode cX4_lay 85 = .ok (.getfield 142, 3) := by decide +kernel
theorem dX4_lay_88 : decode cX4_lay 88 = .ok (.ireturn, 1) := by decide +kernel
set_option maxRecDepth 20000 in
theorem ggX4_press_X4_houseAt : GoodIn wsX4_press wsX4_houseAt := goodIn_ca (goodIn_r _ [8, 9, 10, 11, 12, 7, 13, 14, 15, 91, 92, 93, 94, 95, 96, 97] (by decide +kernel) (by decide +kernel)) (goodIn_sub (fun _ h => List.mem_cons_of_mem _ (List.mem_append_right _ h)) (by decide +kernel))
set_option maxRecDepth 20000 in
theorem gX4_press_X4_houseAt : GoodIn wsX4_press (wsV RX4 95 RX4 yX4_houseAt wsX4_houseAt) := goodIn_app (goodIn_of _ (by decide +kernel)) ggX4_press_X4_houseAt
set_option maxRecDepth 20000 in
theorem ggX4_press_X4_bellAt : GoodIn wsX4_press wsX4_bellAt := goodIn_ca (goodIn_r _ [19, 14, 15, 4, 5, 6, 7, 8, 9, 10, 11, 12, 13, 78, 79, 80, 81, 82, 83, 84, 85, 86, 87, 88, 89, 90, 91, 92, 93, 94, 95, 96, 97] (by decide +kernel) (by decide +kernel)) (goodIn_sub (fun _ h => List.mem_cons_of_mem _ (List.mem_append_right _ h)) (by decide +kernel))
set_option maxRecDepth 20000 in
theorem gX4_press_X4_bellAt : GoodIn wsX4_press (wsV RX4 123 RX4 yX4_bellAt wsX4_bellAt) := goodIn_app (goodIn_of _ (by decide +kernel)) ggX4_press_X4_bellAt
set_option maxRecDepth 20000 in
theorem ggX4_press_X2_isQuietAt : GoodIn wsX4_press wsX2_isQuietAt := goodIn_r _ [24, 25, 26, 27, 23, 28, 29, 30, 31, 32, 33, 34, 35, 36, 37, 38, 39, 40, 78, 79, 80, 81, 82, 83, 84, 85, 86, 87, 88, 89, 90] (by decide +kernel) (by decide +kernel)
set_option maxRecDepth 20000 in
theorem gX4_press_X2_isQuietAt : GoodIn wsX4_press (wsV RX4 119 RX2 yX2_isQuietAt wsX2_isQuietAt) := goodIn_app (goodIn_of _ (by decide +kernel)) ggX4_press_X2_isQuietAt
set_option maxRecDepth 20000 in
theorem ggX4_press_X2_mayRing : GoodIn wsX4_press wsX2_mayRing := goodIn_r _ [44, 45, 46, 98, 99, 100, 101, 78, 79, 80, 81, 82, 83, 84, 85, 86, 87, 88, 89, 90] (by decide +kernel) (by decide +kernel)
set_option maxRecDepth 20000 in
theorem gX4_press_X2_mayRing : GoodIn wsX4_press (wsV RX4 153 RX2 yX2_mayRing wsX2_mayRing) := goodIn_app (goodIn_of _ (by decide +kernel)) ggX4_press_X2_mayRing
set_option maxRecDepth 20000 in
theorem ggX4_press_X2_ringingLoad : GoodIn wsX4_press wsX2_ringingLoad := goodIn_r _ [50, 51, 78, 79, 80, 81, 82, 83, 84, 85, 86, 87, 88, 89, 90, 74, 75, 76, 77] (by decide +kernel) (by decide +kernel)
set_option maxRecDepth 20000 in
theorem gX4_press_X2_ringingLoad : GoodIn wsX4_press (wsV RX4 156 RX2 yX2_ringingLoad wsX2_ringingLoad) := goodIn_app (goodIn_of _ (by decide +kernel)) ggX4_press_X2_ringingLoad
set_option maxRecDepth 20000 in
theorem ggX4_press_X2_breakDown : GoodIn wsX4_press wsX2_breakDown := goodIn_r _ [55, 56, 51, 78, 79, 80, 81, 82, 83, 84, 85, 86, 87, 88, 89, 90, 74, 75, 76, 77] (by decide +kernel) (by decide +kernel)
set_option maxRecDepth 20000 in
theorem gX4_press_X2_breakDown : GoodIn wsX4_press (wsV RX4 160 RX2 yX2_breakDown wsX2_breakDown) := goodIn_app (goodIn_of _ (by decide +kernel)) ggX4_press_X2_breakDown
set_option maxRecDepth 20000 in
theorem ggX4_press_X2_useRight : GoodIn wsX4_press wsX2_useRight := goodIn_r _ [60, 45, 46, 98, 99, 100, 101, 78, 79, 80, 81, 82, 83, 84, 85, 86, 87, 88, 89, 90] (by decide +kernel) (by decide +kernel)
set_option maxRecDepth 20000 in
theorem gX4_press_X2_useRight : GoodIn wsX4_press (wsV RX4 163 RX2 yX2_useRight wsX2_useRight) := goodIn_app (goodIn_of _ (by decide +kernel)) ggX4_press_X2_useRight
set_option maxRecDepth 20000 in
theorem ggX4_press_X3_lasts : GoodIn wsX4_press wsX3_lasts := goodIn_r _ [65, 66, 98, 99, 100, 101] (by decide +kernel) (by decide +kernel)
set_option maxRecDepth 20000 in
theorem gX4_press_X3_lasts : GoodIn wsX4_press (wsV RX4 167 RX3 yX3_lasts wsX3_lasts) := goodIn_app (goodIn_of _ (by decide +kernel)) ggX4_press_X3_lasts
set_option maxRecDepth 20000 in
theorem ggX4_press_X0_ringUntil : GoodIn wsX4_press wsX0_ringUntil := goodIn_r _ [71, 72, 73, 74, 75, 76, 77] (by decide +kernel) (by decide +kernel)
set_option maxRecDepth 20000 in
theorem gX4_press_X0_ringUntil : GoodIn wsX4_press (wsV RX4 170 RX0 yX0_ringUntil wsX0_ringUntil) := goodIn_app (goodIn_of _ (by decide +kernel)) ggX4_press_X0_ringUntil
theorem dX4_press_0 : decode cX4_press 0 = .ok (.aload_n 0, 1) := by decide +kernel
theorem dX4_press_1 : decode cX4_press 1 = .ok (.iload_n 1, 1) := by decide +kernel
theorem dX4_press_2 : decode cX4_press 2 = .ok (.invokevirtual 95, 3) := by decide +kernel
theorem dX4_press_5 : decode cX4_press 5 = .ok (.astore_n 3, 1) := by decide +kernel
theorem dX4_press_6 : decode cX4_press 6 = .ok (.aload_n 0, 1) := by decide +kernel
theorem dX4_press_7 : decode cX4_press 7 = .ok (.iload_n 1, 1) := by decide +kernel
theorem dX4_press_8 : decode cX4_press 8 = .ok (.iload_n 2, 1) := by decide +kernel
theorem dX4_press_9 : decode cX4_press 9 = .ok (.invokevirtual 123, 3) := by decide +kernel
theorem dX4_press_12 : decode cX4_press 12 = .ok (.astore 4, 2) := by decide +kernel
theorem dX4_press_14 : decode cX4_press 14 = .ok (.aload 4, 2) := by decide +kernel
theorem dX4_press_16 : decode cX4_press 16 = .ok (.getfield 129, 3) := by decide +kernel
theorem dX4_press_19 : decode cX4_press 19 = .ok (.astore 5, 2) := by decide +kernel
theorem dX4_press_21 : decode cX4_press 21 = .ok (.aload 5, 2) := by decide +kernel
theorem dX4_press_23 : decode cX4_press 23 = .ok (.ifnonnull 13, 3) := by decide +kernel
theorem dX4_press_26 : decode cX4_press 26 = .ok (.new 57, 3) := by decide +kernel
theorem dX4_press_29 : decode cX4_press 29 = .ok (.dup, 1) := by decide +kernel
theorem dX4_press_30 : decode cX4_press 30 = .ok (.ldc 145, 2) := by decide +kernel
theorem dX4_press_32 : decode cX4_press 32 = .ok (.invokespecial 61, 3) := by decide +kernel
theorem dX4_press_35 : decode cX4_press 35 = .ok (.athrow, 1) := by decide +kernel
theorem dX4_press_36 : decode cX4_press 36 = .ok (.aload_n 3, 1) := by decide +kernel
theorem dX4_press_37 : decode cX4_press 37 = .ok (.getfield 147, 3) := by decide +kernel
theorem dX4_press_40 : decode cX4_press 40 = .ok (.ifCond .eq 11, 3) := by decide +kernel
theorem dX4_press_43 : decode cX4_press 43 = .ok (.aload 4, 2) := by decide +kernel
theorem dX4_press_45 : decode cX4_press 45 = .ok (.getfield 138, 3) := by decide +kernel
theorem dX4_press_48 : decode cX4_press 48 = .ok (.ifCond .eq 5, 3) := by decide +kernel
theorem dX4_press_51 : decode cX4_press 51 = .ok (.iconst 0, 1) := by decide +kernel
theorem dX4_press_52 : decode cX4_press 52 = .ok (.ireturn, 1) := by decide +kernel
theorem dX4_press_53 : decode cX4_press 53 = .ok (.aload_n 3, 1) := by decide +kernel
theorem dX4_press_54 : decode cX4_press 54 = .ok (.aload_n 0, 1) := by decide +kernel
theorem dX4_press_55 : decode cX4_press 55 = .ok (.getfield 38, 3) := by decide +kernel
theorem dX4_press_58 : decode cX4_press 58 = .ok (.invokevirtual 119, 3) := by decide +kernel
theorem dX4_press_61 : decode cX4_press 61 = .ok (.ifCond .eq 15, 3) := by decide +kernel
theorem dX4_press_64 : decode cX4_press 64 = .ok (.aload_n 3, 1) := by decide +kernel
theorem dX4_press_65 : decode cX4_press 65 = .ok (.dup, 1) := by decide +kernel
theorem dX4_press_66 : decode cX4_press 66 = .ok (.getfield 150, 3) := by decide +kernel
theorem dX4_press_69 : decode cX4_press 69 = .ok (.iconst 1, 1) := by decide +kernel
theorem dX4_press_70 : decode cX4_press 70 = .ok (.iadd, 1) := by decide +kernel
theorem dX4_press_71 : decode cX4_press 71 = .ok (.putfield 150, 3) := by decide +kernel
theorem dX4_press_74 : decode cX4_press 74 = .ok (.iconst 2, 1) := by decide +kernel
theorem dX4_press_75 : decode cX4_press 75 = .ok (.ireturn, 1) := by decide +kernel
theorem dX4_press_76 : decode cX4_press 76 = .ok (.aload_n 3, 1) := by decide +kernel
theorem dX4_press_77 : decode cX4_press 77 = .ok (.aload 5, 2) := by decide +kernel
theorem dX4_press_79 : decode cX4_press 79 = .ok (.invokevirtual 153, 3) := by decide +kernel
theorem dX4_press_82 : decode cX4_press 82 = .ok (.ifCond .ne 5, 3) := by decide +kernel
theorem dX4_press_85 : decode cX4_press 85 = .ok (.iconst 0, 1) := by decide +kernel
theorem dX4_press_86 : decode cX4_press 86 = .ok (.ireturn, 1) := by decide +kernel
theorem dX4_press_87 : decode cX4_press 87 = .ok (.aload_n 3, 1) := by decide +kernel
theorem dX4_press_88 : decode cX4_press 88 = .ok (.invokevirtual 156, 3) := by decide +kernel
theorem dX4_press_91 : decode cX4_press 91 = .ok (.aload 4, 2) := by decide +kernel
theorem dX4_press_93 : decode cX4_press 93 = .ok (.getfield 135, 3) := by decide +kernel
theorem dX4_press_96 : decode cX4_press 96 = .ok (.iadd, 1) := by decide +kernel
theorem dX4_press_97 : decode cX4_press 97 = .ok (.bipush 10, 2) := by decide +kernel
theorem dX4_press_99 : decode cX4_press 99 = .ok (.if_icmp .le 9, 3) := by decide +kernel
theorem dX4_press_102 : decode cX4_press 102 = .ok (.aload_n 3, 1) := by decide +kernel
theorem dX4_press_103 : decode cX4_press 103 = .ok (.invokevirtual 160, 3) := by decide +kernel
theorem dX4_press_106 : decode cX4_press 106 = .ok (.iconst 3, 1) := by decide +kernel
theorem dX4_press_107 : decode cX4_press 107 = .ok (.ireturn, 1) := by decide +kernel
theorem dX4_press_108 : decode cX4_press 108 = .ok (.aload_n 3, 1) := by decide +kernel
theorem dX4_press_109 : decode cX4_press 109 = .ok (.aload 5, 2) := by decide +kernel
theorem dX4_press_111 : decode cX4_press 111 = .ok (.invokevirtual 163, 3) := by decide +kernel
theorem dX4_press_114 : decode cX4_press 114 = .ok (.aload 4, 2) := by decide +kernel
theorem dX4_press_116 : decode cX4_press 116 = .ok (.aload_n 0, 1) := by decide +kernel
theorem dX4_press_117 : decode cX4_press 117 = .ok (.getfield 38, 3) := by decide +kernel
theorem dX4_press_120 : decode cX4_press 120 = .ok (.aload 5, 2) := by decide +kernel
theorem dX4_press_122 : decode cX4_press 122 = .ok (.invokevirtual 167, 3) := by decide +kernel
theorem dX4_press_125 : decode cX4_press 125 = .ok (.iadd, 1) := by decide +kernel
theorem dX4_press_126 : decode cX4_press 126 = .ok (.invokevirtual 170, 3) := by decide +kernel
theorem dX4_press_129 : decode cX4_press 129 = .ok (.iconst 1, 1) := by decide +kernel
theorem dX4_press_130 : decode cX4_press 130 = .ok (.ireturn, 1) := by decide +kernel
set_option maxRecDepth 20000 in
theorem ggX4_fault_X4_houseAt : GoodIn wsX4_fault wsX4_houseAt := goodIn_ca (goodIn_r _ [11, 4, 12, 13, 14, 10, 15, 16, 17, 55, 56, 57, 58, 59, 60, 61] (by decide +kernel) (by decide +kernel)) (goodIn_sub (fun _ h => List.mem_cons_of_mem _ (List.mem_append_right _ h)) (by decide +kernel))
set_option maxRecDepth 20000 in
theorem gX4_fault_X4_houseAt : GoodIn wsX4_fault (wsV RX4 95 RX4 yX4_houseAt wsX4_houseAt) := goodIn_app (goodIn_of _ (by decide +kernel)) ggX4_fault_X4_houseAt
set_option maxRecDepth 20000 in
theorem ggX4_fault_X2_startBells : GoodIn wsX4_fault wsX2_startBells := goodIn_r _ [22, 23, 24, 25, 26, 27, 28, 29, 30, 31, 32, 33, 34, 35, 36, 42, 43, 44, 45, 46, 47, 48, 49, 50, 51, 52, 53, 54, 62, 63, 64, 65, 66, 67, 68, 69] (by decide +kernel) (by decide +kernel)
set_option maxRecDepth 20000 in
theorem gX4_fault_X2_startBells : GoodIn wsX4_fault (wsV RX4 180 RX2 yX2_startBells wsX2_startBells) := goodIn_app (goodIn_of _ (by decide +kernel)) ggX4_fault_X2_startBells
set_option maxRecDepth 20000 in
theorem ggX4_fault_X2_breakDown : GoodIn wsX4_fault wsX2_breakDown := goodIn_r _ [40, 41, 23, 42, 43, 44, 45, 46, 47, 48, 49, 50, 51, 52, 53, 54, 62, 63, 64, 65] (by decide +kernel) (by decide +kernel)
set_option maxRecDepth 20000 in
theorem gX4_fault_X2_breakDown : GoodIn wsX4_fault (wsV RX4 160 RX2 yX2_breakDown wsX2_breakDown) := goodIn_app (goodIn_of _ (by decide +kernel)) ggX4_fault_X2_breakDown
theorem dX4_fault_0 : decode cX4_fault 0 = .ok (.aload_n 0, 1) := by decide +kernel
theorem dX4_fault_1 : decode cX4_fault 1 = .ok (.iload_n 1, 1) := by decide +kernel
theorem dX4_fault_2 : decode cX4_fault 2 = .ok (.invokevirtual 95, 3) := by decide +kernel
theorem dX4_fault_5 : decode cX4_fault 5 = .ok (.astore_n 2, 1) := by decide +kernel
theorem dX4_fault_6 : decode cX4_fault 6 = .ok (.aload_n 2, 1) := by decide +kernel
theorem dX4_fault_7 : decode cX4_fault 7 = .ok (.getfield 147, 3) := by decide +kernel
theorem dX4_fault_10 : decode cX4_fault 10 = .ok (.ifCond .ne 13, 3) := by decide +kernel
theorem dX4_fault_13 : decode cX4_fault 13 = .ok (.new 57, 3) := by decide +kernel
theorem dX4_fault_16 : decode cX4_fault 16 = .ok (.dup, 1) := by decide +kernel
theorem dX4_fault_17 : decode cX4_fault 17 = .ok (.ldc 173, 2) := by decide +kernel
theorem dX4_fault_19 : decode cX4_fault 19 = .ok (.invokespecial 61, 3) := by decide +kernel
theorem dX4_fault_22 : decode cX4_fault 22 = .ok (.athrow, 1) := by decide +kernel
theorem dX4_fault_23 : decode cX4_fault 23 = .ok (.aload_n 0, 1) := by decide +kernel
theorem dX4_fault_24 : decode cX4_fault 24 = .ok (.getfield 35, 3) := by decide +kernel
theorem dX4_fault_27 : decode cX4_fault 27 = .ok (.bipush 100, 2) := by decide +kernel
theorem dX4_fault_29 : decode cX4_fault 29 = .ok (.if_icmp .lt 13, 3) := by decide +kernel
theorem dX4_fault_32 : decode cX4_fault 32 = .ok (.new 57, 3) := by decide +kernel
theorem dX4_fault_35 : decode cX4_fault 35 = .ok (.dup, 1) := by decide +kernel
theorem dX4_fault_36 : decode cX4_fault 36 = .ok (.ldc 175, 2) := by decide +kernel
theorem dX4_fault_38 : decode cX4_fault 38 = .ok (.invokespecial 61, 3) := by decide +kernel
theorem dX4_fault_41 : decode cX4_fault 41 = .ok (.athrow, 1) := by decide +kernel
theorem dX4_fault_42 : decode cX4_fault 42 = .ok (.iconst 0, 1) := by decide +kernel
theorem dX4_fault_43 : decode cX4_fault 43 = .ok (.istore_n 3, 1) := by decide +kernel
theorem dX4_fault_44 : decode cX4_fault 44 = .ok (.aload_n 0, 1) := by decide +kernel
theorem dX4_fault_45 : decode cX4_fault 45 = .ok (.getfield 11, 3) := by decide +kernel
theorem dX4_fault_48 : decode cX4_fault 48 = .ok (.astore 4, 2) := by decide +kernel
theorem dX4_fault_50 : decode cX4_fault 50 = .ok (.aload 4, 2) := by decide +kernel
theorem dX4_fault_52 : decode cX4_fault 52 = .ok (.arraylength, 1) := by decide +kernel
theorem dX4_fault_53 : decode cX4_fault 53 = .ok (.istore 5, 2) := by decide +kernel
theorem dX4_fault_55 : decode cX4_fault 55 = .ok (.iconst 0, 1) := by decide +kernel
theorem dX4_fault_56 : decode cX4_fault 56 = .ok (.istore 6, 2) := by decide +kernel
theorem dX4_fault_58 : decode cX4_fault 58 = .ok (.iload 6, 2) := by decide +kernel
theorem dX4_fault_60 : decode cX4_fault 60 = .ok (.iload 5, 2) := by decide +kernel
theorem dX4_fault_62 : decode cX4_fault 62 = .ok (.if_icmp .ge 54, 3) := by decide +kernel
theorem dX4_fault_65 : decode cX4_fault 65 = .ok (.aload 4, 2) := by decide +kernel
theorem dX4_fault_67 : decode cX4_fault 67 = .ok (.iload 6, 2) := by decide +kernel
theorem dX4_fault_69 : decode cX4_fault 69 = .ok (.aaload, 1) := by decide +kernel
theorem dX4_fault_70 : decode cX4_fault 70 = .ok (.astore 7, 2) := by decide +kernel
theorem dX4_fault_72 : decode cX4_fault 72 = .ok (.aload 7, 2) := by decide +kernel
theorem dX4_fault_74 : decode cX4_fault 74 = .ok (.aload_n 2, 1) := by decide +kernel
theorem dX4_fault_75 : decode cX4_fault 75 = .ok (.if_acmp .eq 35, 3) := by decide +kernel
theorem dX4_fault_78 : decode cX4_fault 78 = .ok (.aload 7, 2) := by decide +kernel
theorem dX4_fault_80 : decode cX4_fault 80 = .ok (.getfield 177, 3) := by decide +kernel
theorem dX4_fault_83 : decode cX4_fault 83 = .ok (.aload_n 2, 1) := by decide +kernel
theorem dX4_fault_84 : decode cX4_fault 84 = .ok (.getfield 177, 3) := by decide +kernel
theorem dX4_fault_87 : decode cX4_fault 87 = .ok (.if_icmp .ne 23, 3) := by decide +kernel
theorem dX4_fault_90 : decode cX4_fault 90 = .ok (.aload 7, 2) := by decide +kernel
theorem dX4_fault_92 : decode cX4_fault 92 = .ok (.getfield 147, 3) := by decide +kernel
theorem dX4_fault_95 : decode cX4_fault 95 = .ok (.ifCond .eq 15, 3) := by decide +kernel
theorem dX4_fault_98 : decode cX4_fault 98 = .ok (.iload_n 3, 1) := by decide +kernel
theorem dX4_fault_99 : decode cX4_fault 99 = .ok (.aload 7, 2) := by decide +kernel
theorem dX4_fault_101 : decode cX4_fault 101 = .ok (.aload_n 0, 1) := by decide +kernel
theorem dX4_fault_102 : decode cX4_fault 102 = .ok (.getfield 38, 3) := by decide +kernel
theorem dX4_fault_105 : decode cX4_fault 105 = .ok (.invokevirtual 180, 3) := by decide +kernel
theorem dX4_fault_108 : decode cX4_fault 108 = .ok (.iadd, 1) := by decide +kernel
theorem dX4_fault_109 : decode cX4_fault 109 = .ok (.istore_n 3, 1) := by decide +kernel
theorem dX4_fault_110 : decode cX4_fault 110 = .ok (.iinc 6 1, 3) := by decide +kernel
theorem dX4_fault_113 : decode cX4_fault 113 = .ok (.goto (-55), 3) := by decide +kernel
theorem dX4_fault_116 : decode cX4_fault 116 = .ok (.aload_n 2, 1) := by decide +kernel
theorem dX4_fault_117 : decode cX4_fault 117 = .ok (.invokevirtual 160, 3) := by decide +kernel
theorem dX4_fault_120 : decode cX4_fault 120 = .ok (.aload_n 2, 1) := by decide +kernel
theorem dX4_fault_121 : decode cX4_fault 121 = .ok (.dup, 1) := by decide +kernel
theorem dX4_fault_122 : decode cX4_fault 122 = .ok (.getfield 183, 3) := by decide +kernel
theorem dX4_fault_125 : decode cX4_fault 125 = .ok (.iconst 1, 1) := by decide +kernel
theorem dX4_fault_126 : decode cX4_fault 126 = .ok (.iadd, 1) := by decide +kernel
theorem dX4_fault_127 : decode cX4_fault 127 = .ok (.putfield 183, 3) := by decide +kernel
theorem dX4_fault_130 : decode cX4_fault 130 = .ok (.aload_n 0, 1) := by decide +kernel
theorem dX4_fault_131 : decode cX4_fault 131 = .ok (.getfield 27, 3) := by decide +kernel
theorem dX4_fault_134 : decode cX4_fault 134 = .ok (.aload_n 0, 1) := by decide +kernel
theorem dX4_fault_135 : decode cX4_fault 135 = .ok (.getfield 35, 3) := by decide +kernel
theorem dX4_fault_138 : decode cX4_fault 138 = .ok (.bipush 10, 2) := by decide +kernel
theorem dX4_fault_140 : decode cX4_fault 140 = .ok (.aload_n 0, 1) := by decide +kernel
theorem dX4_fault_141 : decode cX4_fault 141 = .ok (.getfield 38, 3) := by decide +kernel
theorem dX4_fault_144 : decode cX4_fault 144 = .ok (.imul, 1) := by decide +kernel
theorem dX4_fault_145 : decode cX4_fault 145 = .ok (.iload_n 1, 1) := by decide +kernel
theorem dX4_fault_146 : decode cX4_fault 146 = .ok (.iadd, 1) := by decide +kernel
theorem dX4_fault_147 : decode cX4_fault 147 = .ok (.iastore, 1) := by decide +kernel
theorem dX4_fault_148 : decode cX4_fault 148 = .ok (.aload_n 0, 1) := by decide +kernel
theorem dX4_fault_149 : decode cX4_fault 149 = .ok (.dup, 1) := by decide +kernel
theorem dX4_fault_150 : decode cX4_fault 150 = .ok (.getfield 35, 3) := by decide +kernel
theorem dX4_fault_153 : decode cX4_fault 153 = .ok (.iconst 1, 1) := by decide +kernel
theorem dX4_fault_154 : decode cX4_fault 154 = .ok (.iadd, 1) := by decide +kernel
theorem dX4_fault_155 : decode cX4_fault 155 = .ok (.putfield 35, 3) := by decide +kernel
theorem dX4_fault_158 : decode cX4_fault 158 = .ok (.iload_n 3, 1) := by decide +kernel
theorem dX4_fault_159 : decode cX4_fault 159 = .ok (.ireturn, 1) := by decide +kernel
set_option maxRecDepth 20000 in
theorem ggX4_repair_X4_houseAt : GoodIn wsX4_repair wsX4_houseAt := goodIn_ca (goodIn_r _ [9, 10, 11, 12, 13, 8, 14, 15, 16, 17, 18, 19, 20, 21, 22, 23] (by decide +kernel) (by decide +kernel)) (goodIn_sub (fun _ h => List.mem_cons_of_mem _ (List.mem_append_right _ h)) (by decide +kernel))
set_option maxRecDepth 20000 in
theorem gX4_repair_X4_houseAt : GoodIn wsX4_repair (wsV RX4 95 RX4 yX4_houseAt wsX4_houseAt) := goodIn_app (goodIn_of _ (by decide +kernel)) ggX4_repair_X4_houseAt
theorem dX4_repair_0 : decode cX4_repair 0 = .ok (.aload_n 0, 1) := by decide +kernel
theorem dX4_repair_1 : decode cX4_repair 1 = .ok (.iload_n 1, 1) := by decide +kernel
theorem dX4_repair_2 : decode cX4_repair 2 = .ok (.invokevirtual 95, 3) := by decide +kernel
theorem dX4_repair_5 : decode cX4_repair 5 = .ok (.astore_n 2, 1) := by decide +kernel
theorem dX4_repair_6 : decode cX4_repair 6 = .ok (.aload_n 0, 1) := by decide +kernel
theorem dX4_repair_7 : decode cX4_repair 7 = .ok (.getfield 17, 3) := by decide +kernel
theorem dX4_repair_10 : decode cX4_repair 10 = .ok (.aload_n 2, 1) := by decide +kernel
theorem dX4_repair_11 : decode cX4_repair 11 = .ok (.getfield 177, 3) := by decide +kernel
theorem dX4_repair_14 : decode cX4_repair 14 = .ok (.aaload, 1) := by decide +kernel
theorem dX4_repair_15 : decode cX4_repair 15 = .ok (.astore_n 3, 1) := by decide +kernel
theorem dX4_repair_16 : decode cX4_repair 16 = .ok (.aload_n 2, 1) := by decide +kernel
theorem dX4_repair_17 : decode cX4_repair 17 = .ok (.getfield 147, 3) := by decide +kernel
theorem dX4_repair_20 : decode cX4_repair 20 = .ok (.ifCond .eq 13, 3) := by decide +kernel
theorem dX4_repair_23 : decode cX4_repair 23 = .ok (.new 57, 3) := by decide +kernel
theorem dX4_repair_26 : decode cX4_repair 26 = .ok (.dup, 1) := by decide +kernel
theorem dX4_repair_27 : decode cX4_repair 27 = .ok (.ldc 186, 2) := by decide +kernel
theorem dX4_repair_29 : decode cX4_repair 29 = .ok (.invokespecial 61, 3) := by decide +kernel
theorem dX4_repair_32 : decode cX4_repair 32 = .ok (.athrow, 1) := by decide +kernel
theorem dX4_repair_33 : decode cX4_repair 33 = .ok (.aload_n 3, 1) := by decide +kernel
theorem dX4_repair_34 : decode cX4_repair 34 = .ok (.getfield 188, 3) := by decide +kernel
theorem dX4_repair_37 : decode cX4_repair 37 = .ok (.ifnull 13, 3) := by decide +kernel
theorem dX4_repair_40 : decode cX4_repair 40 = .ok (.new 57, 3) := by decide +kernel
theorem dX4_repair_43 : decode cX4_repair 43 = .ok (.dup, 1) := by decide +kernel
theorem dX4_repair_44 : decode cX4_repair 44 = .ok (.ldc 192, 2) := by decide +kernel
theorem dX4_repair_46 : decode cX4_repair 46 = .ok (.invokespecial 61, 3) := by decide +kernel
theorem dX4_repair_49 : decode cX4_repair 49 = .ok (.athrow, 1) := by decide +kernel
theorem dX4_repair_50 : decode cX4_repair 50 = .ok (.aload_n 3, 1) := by decide +kernel
theorem dX4_repair_51 : decode cX4_repair 51 = .ok (.aload_n 2, 1) := by decide +kernel
theorem dX4_repair_52 : decode cX4_repair 52 = .ok (.putfield 188, 3) := by decide +kernel
theorem dX4_repair_55 : decode cX4_repair 55 = .ok (.aload_n 3, 1) := by decide +kernel
theorem dX4_repair_56 : decode cX4_repair 56 = .ok (.aload_n 0, 1) := by decide +kernel
theorem dX4_repair_57 : decode cX4_repair 57 = .ok (.getfield 38, 3) := by decide +kernel
theorem dX4_repair_60 : decode cX4_repair 60 = .ok (.bipush 50, 2) := by decide +kernel
theorem dX4_repair_62 : decode cX4_repair 62 = .ok (.iadd, 1) := by decide +kernel
theorem dX4_repair_63 : decode cX4_repair 63 = .ok (.putfield 194, 3) := by decide +kernel
theorem dX4_repair_66 : decode cX4_repair 66 = .ok (.aload_n 3, 1) := by decide +kernel
theorem dX4_repair_67 : decode cX4_repair 67 = .ok (.getfield 194, 3) := by decide +kernel
theorem dX4_repair_70 : decode cX4_repair 70 = .ok (.ireturn, 1) := by decide +kernel
set_option maxRecDepth 20000 in
theorem ggX4_pass_X4_nextChange : GoodIn wsX4_pass wsX4_nextChange := goodIn_r _ [11, 5, 12, 13, 14, 15, 16, 17, 18, 19, 20, 21, 22, 23, 69, 70, 71, 72, 73, 74, 75, 76, 77, 78, 79, 80, 81, 82, 83, 84, 85, 86, 87, 88, 89, 90, 91, 92, 93, 94] (by decide +kernel) (by decide +kernel)
set_option maxRecDepth 20000 in
theorem gX4_pass_X4_nextChange : GoodIn wsX4_pass (wsV RX4 202 RX4 yX4_nextChange wsX4_nextChange) := goodIn_app (goodIn_of _ (by decide +kernel)) ggX4_pass_X4_nextChange
set_option maxRecDepth 20000 in
theorem ggX4_pass_X4_passStretch : GoodIn wsX4_pass wsX4_passStretch := goodIn_r _ [27, 16, 5, 17, 28, 29, 30, 21, 31, 32, 33, 34, 35, 36, 37, 38, 23, 39, 40, 41, 42, 43, 44, 45, 46, 47, 48, 13, 14, 15, 49, 50, 51, 52, 53, 54, 55, 56, 57, 58, 59, 60, 61, 62, 63, 64, 65, 66, 67, 68, 69, 70, 71, 72, 73, 74, 75, 78, 79, 80, 81, 82, 83, 84, 85, 86, 87, 88, 89, 90, 91, 92, 93, 94, 76, 77] (by decide +kernel) (by decide +kernel)
set_option maxRecDepth 20000 in
theorem gX4_pass_X4_passStretch : GoodIn wsX4_pass (wsV RX4 205 RX4 yX4_passStretch wsX4_passStretch) := goodIn_app (goodIn_of _ (by decide +kernel)) ggX4_pass_X4_passStretch
theorem dX4_pass_0 : decode cX4_pass 0 = .ok (.iload_n 1, 1) := by decide +kernel
theorem dX4_pass_1 : decode cX4_pass 1 = .ok (.iconst 1, 1) := by decide +kernel
theorem dX4_pass_2 : decode cX4_pass 2 = .ok (.if_icmp .lt 10, 3) := by decide +kernel
theorem dX4_pass_5 : decode cX4_pass 5 = .ok (.iload_n 1, 1) := by decide +kernel
theorem dX4_pass_6 : decode cX4_pass 6 = .ok (.sipush 2000, 3) := by decide +kernel
theorem dX4_pass_9 : decode cX4_pass 9 = .ok (.if_icmp .le 13, 3) := by decide +kernel
theorem dX4_pass_12 : decode cX4_pass 12 = .ok (.new 48, 3) := by decide +kernel
theorem dX4_pass_15 : decode cX4_pass 15 = .ok (.dup, 1) := by decide +kernel
theorem dX4_pass_16 : decode cX4_pass 16 = .ok (.ldc 197, 2) := by decide +kernel
theorem dX4_pass_18 : decode cX4_pass 18 = .ok (.invokespecial 52, 3) := by decide +kernel
theorem dX4_pass_21 : decode cX4_pass 21 = .ok (.athrow, 1) := by decide +kernel
theorem dX4_pass_22 : decode cX4_pass 22 = .ok (.aload_n 0, 1) := by decide +kernel
theorem dX4_pass_23 : decode cX4_pass 23 = .ok (.getfield 38, 3) := by decide +kernel
theorem dX4_pass_26 : decode cX4_pass 26 = .ok (.iload_n 1, 1) := by decide +kernel
theorem dX4_pass_27 : decode cX4_pass 27 = .ok (.iadd, 1) := by decide +kernel
theorem dX4_pass_28 : decode cX4_pass 28 = .ok (.ldc 199, 2) := by decide +kernel
theorem dX4_pass_30 : decode cX4_pass 30 = .ok (.if_icmp .le 13, 3) := by decide +kernel
theorem dX4_pass_33 : decode cX4_pass 33 = .ok (.new 57, 3) := by decide +kernel
theorem dX4_pass_36 : decode cX4_pass 36 = .ok (.dup, 1) := by decide +kernel
theorem dX4_pass_37 : decode cX4_pass 37 = .ok (.ldc 200, 2) := by decide +kernel
theorem dX4_pass_39 : decode cX4_pass 39 = .ok (.invokespecial 61, 3) := by decide +kernel
theorem dX4_pass_42 : decode cX4_pass 42 = .ok (.athrow, 1) := by decide +kernel
theorem dX4_pass_43 : decode cX4_pass 43 = .ok (.aload_n 0, 1) := by decide +kernel
theorem dX4_pass_44 : decode cX4_pass 44 = .ok (.getfield 38, 3) := by decide +kernel
theorem dX4_pass_47 : decode cX4_pass 47 = .ok (.iload_n 1, 1) := by decide +kernel
theorem dX4_pass_48 : decode cX4_pass 48 = .ok (.iadd, 1) := by decide +kernel
theorem dX4_pass_49 : decode cX4_pass 49 = .ok (.istore_n 2, 1) := by decide +kernel
theorem dX4_pass_50 : decode cX4_pass 50 = .ok (.iconst 0, 1) := by decide +kernel
theorem dX4_pass_51 : decode cX4_pass 51 = .ok (.istore_n 3, 1) := by decide +kernel
theorem dX4_pass_52 : decode cX4_pass 52 = .ok (.iload_n 3, 1) := by decide +kernel
theorem dX4_pass_53 : decode cX4_pass 53 = .ok (.iload_n 1, 1) := by decide +kernel
theorem dX4_pass_54 : decode cX4_pass 54 = .ok (.if_icmp .ge 26, 3) := by decide +kernel
theorem dX4_pass_57 : decode cX4_pass 57 = .ok (.aload_n 0, 1) := by decide +kernel
theorem dX4_pass_58 : decode cX4_pass 58 = .ok (.getfield 38, 3) := by decide +kernel
theorem dX4_pass_61 : decode cX4_pass 61 = .ok (.iload_n 2, 1) := by decide +kernel
theorem dX4_pass_62 : decode cX4_pass 62 = .ok (.if_icmp .ge 18, 3) := by decide +kernel
theorem dX4_pass_65 : decode cX4_pass 65 = .ok (.aload_n 0, 1) := by decide +kernel
theorem dX4_pass_66 : decode cX4_pass 66 = .ok (.aload_n 0, 1) := by decide +kernel
theorem dX4_pass_67 : decode cX4_pass 67 = .ok (.iload_n 2, 1) := by decide +kernel
theorem dX4_pass_68 : decode cX4_pass 68 = .ok (.invokevirtual 202, 3) := by decide +kernel
theorem dX4_pass_71 : decode cX4_pass 71 = .ok (.invokevirtual 205, 3) := by decide +kernel
theorem dX4_pass_74 : decode cX4_pass 74 = .ok (.iinc 3 1, 3) := by decide +kernel
theorem dX4_pass_77 : decode cX4_pass 77 = .ok (.goto (-25), 3) := by decide +kernel
theorem dX4_pass_80 : decode cX4_pass 80 = .ok (.aload_n 0, 1) := by decide +kernel
theorem dX4_pass_81 : decode cX4_pass 81 = .ok (.getfield 38, 3) := by decide +kernel
theorem dX4_pass_84 : decode cX4_pass 84 = .ok (.ireturn, 1) := by decide +kernel
theorem dX4_time_0 : decode cX4_time 0 = .ok (.aload_n 0, 1) := by decide +kernel
theorem dX4_time_1 : decode cX4_time 1 = .ok (.getfield 38, 3) := by decide +kernel
theorem dX4_time_4 : decode cX4_time 4 = .ok (.ireturn, 1) := by decide +kernel
set_option maxRecDepth 20000 in
theorem ggX4_ringing_X4_houseAt : GoodIn wsX4_ringing wsX4_houseAt := goodIn_ca (goodIn_r _ [5, 6, 7, 8, 9, 4, 10, 11, 12, 19, 20, 21, 22, 23, 24, 25] (by decide +kernel) (by decide +kernel)) (goodIn_sub (fun _ h => List.mem_cons_of_mem _ (List.mem_append_right _ h)) (by decide +kernel))
set_option maxRecDepth 20000 in
theorem gX4_ringing_X4_houseAt : GoodIn wsX4_ringing (wsV RX4 95 RX4 yX4_houseAt wsX4_houseAt) := goodIn_app (goodIn_of _ (by decide +kernel)) ggX4_ringing_X4_houseAt
set_option maxRecDepth 20000 in
theorem ggX4_ringing_X2_ringingSet : GoodIn wsX4_ringing wsX2_ringingSet := goodIn_r _ [17, 18, 26, 27, 28, 29, 30, 31, 32, 33, 34, 35, 36, 37, 38, 39, 40, 41, 42] (by decide +kernel) (by decide +kernel)
set_option maxRecDepth 20000 in
theorem gX4_ringing_X2_ringingSet : GoodIn wsX4_ringing (wsV RX4 208 RX2 yX2_ringingSet wsX2_ringingSet) := goodIn_app (goodIn_of _ (by decide +kernel)) ggX4_ringing_X2_ringingSet
theorem dX4_ringing_0 : decode cX4_ringing 0 = .ok (.aload_n 0, 1) := by decide +kernel
theorem dX4_ringing_1 : decode cX4_ringing 1 = .ok (.iload_n 1, 1) := by decide +kernel
theorem dX4_ringing_2 : decode cX4_ringing 2 = .ok (.invokevirtual 95, 3) := by decide +kernel
theorem dX4_ringing_5 : decode cX4_ringing 5 = .ok (.invokevirtual 208, 3) := by decide +kernel
theorem dX4_ringing_8 : decode cX4_ringing 8 = .ok (.ireturn, 1) := by decide +kernel
set_option maxRecDepth 20000 in
theorem ggX4_isSound_X4_houseAt : GoodIn wsX4_isSound wsX4_houseAt := goodIn_ca (goodIn_r _ [5, 6, 7, 8, 9, 4, 10, 11, 12, 26, 27, 28, 29, 30, 31, 32] (by decide +kernel) (by decide +kernel)) (goodIn_sub (fun _ h => List.mem_cons_of_mem _ (List.mem_append_right _ h)) (by decide +kernel))
set_option maxRecDepth 20000 in
theorem gX4_isSound_X4_houseAt : GoodIn wsX4_isSound (wsV RX4 95 RX4 yX4_houseAt wsX4_houseAt) := goodIn_app (goodIn_of _ (by decide +kernel)) ggX4_isSound_X4_houseAt
theorem dX4_isSound_0 : decode cX4_isSound 0 = .ok (.aload_n 0, 1) := by decide +kernel
theorem dX4_isSound_1 : decode cX4_isSound 1 = .ok (.iload_n 1, 1) := by decide +kernel
theorem dX4_isSound_2 : decode cX4_isSound 2 = .ok (.invokevirtual 95, 3) := by decide +kernel
theorem dX4_isSound_5 : decode cX4_isSound 5 = .ok (.getfield 147, 3) := by decide +kernel
theorem dX4_isSound_8 : decode cX4_isSound 8 = .ok (.ireturn, 1) := by decide +kernel
set_option maxRecDepth 20000 in
theorem ggX4_ringsLeft_X4_houseAt : GoodIn wsX4_ringsLeft wsX4_houseAt := goodIn_ca (goodIn_r _ [5, 6, 7, 8, 9, 4, 10, 11, 12, 35, 36, 37, 38, 39, 40, 41] (by decide +kernel) (by decide +kernel)) (goodIn_sub (fun _ h => List.mem_cons_of_mem _ (List.mem_append_right _ h)) (by decide +kernel))
set_option maxRecDepth 20000 in
theorem gX4_ringsLeft_X4_houseAt : GoodIn wsX4_ringsLeft (wsV RX4 95 RX4 yX4_houseAt wsX4_houseAt) := goodIn_app (goodIn_of _ (by decide +kernel)) ggX4_ringsLeft_X4_houseAt
set_option maxRecDepth 20000 in
theorem ggX4_ringsLeft_X4_melodyAt : GoodIn wsX4_ringsLeft wsX4_melodyAt := goodIn_ca (goodIn_r _ [16, 11, 12, 17, 35, 36, 37, 38, 39, 40, 41] (by decide +kernel) (by decide +kernel)) (goodIn_sub (fun _ h => List.mem_cons_of_mem _ (List.mem_append_right _ h)) (by decide +kernel))
set_option maxRecDepth 20000 in
theorem gX4_ringsLeft_X4_melodyAt : GoodIn wsX4_ringsLeft (wsV RX4 65 RX4 yX4_melodyAt wsX4_melodyAt) := goodIn_app (goodIn_of _ (by decide +kernel)) ggX4_ringsLeft_X4_melodyAt
theorem dX4_ringsLeft_0 : decode cX4_ringsLeft 0 = .ok (.aload_n 0, 1) := by decide +kernel
theorem dX4_ringsLeft_1 : decode cX4_ringsLeft 1 = .ok (.iload_n 1, 1) := by decide +kernel
theorem dX4_ringsLeft_2 : decode cX4_ringsLeft 2 = .ok (.invokevirtual 95, 3) := by decide +kernel
theorem dX4_ringsLeft_5 : decode cX4_ringsLeft 5 = .ok (.astore_n 3, 1) := by decide +kernel
theorem dX4_ringsLeft_6 : decode cX4_ringsLeft 6 = .ok (.aload_n 0, 1) := by decide +kernel
theorem dX4_ringsLeft_7 : decode cX4_ringsLeft 7 = .ok (.iload_n 2, 1) := by decide +kernel
theorem dX4_ringsLeft_8 : decode cX4_ringsLeft 8 = .ok (.invokevirtual 65, 3) := by decide +kernel
theorem dX4_ringsLeft_11 : decode cX4_ringsLeft 11 = .ok (.getfield 101, 3) := by decide +kernel
theorem dX4_ringsLeft_14 : decode cX4_ringsLeft 14 = .ok (.iload_n 1, 1) := by decide +kernel
theorem dX4_ringsLeft_15 : decode cX4_ringsLeft 15 = .ok (.if_icmp .ne 7, 3) := by decide +kernel
theorem dX4_ringsLeft_18 : decode cX4_ringsLeft 18 = .ok (.iconst (-1), 1) := by decide +kernel
theorem dX4_ringsLeft_19 : decode cX4_ringsLeft 19 = .ok (.goto 9, 3) := by decide +kernel
theorem dX4_ringsLeft_22 : decode cX4_ringsLeft 22 = .ok (.aload_n 3, 1) := by decide +kernel
theorem dX4_ringsLeft_23 : decode cX4_ringsLeft 23 = .ok (.getfield 106, 3) := by decide +kernel
theorem dX4_ringsLeft_26 : decode cX4_ringsLeft 26 = .ok (.iload_n 2, 1) := by decide +kernel
theorem dX4_ringsLeft_27 : decode cX4_ringsLeft 27 = .ok (.iaload, 1) := by decide +kernel
theorem dX4_ringsLeft_28 : decode cX4_ringsLeft 28 = .ok (.ireturn, 1) := by decide +kernel
set_option maxRecDepth 20000 in
theorem ggX4_points_X4_houseAt : GoodIn wsX4_points wsX4_houseAt := goodIn_ca (goodIn_r _ [5, 6, 7, 8, 9, 4, 10, 11, 12, 26, 27, 28, 29, 30, 31, 32] (by decide +kernel) (by decide +kernel)) (goodIn_sub (fun _ h => List.mem_cons_of_mem _ (List.mem_append_right _ h)) (by decide +kernel))
set_option maxRecDepth 20000 in
theorem gX4_points_X4_houseAt : GoodIn wsX4_points (wsV RX4 95 RX4 yX4_houseAt wsX4_houseAt) := goodIn_app (goodIn_of _ (by decide +kernel)) ggX4_points_X4_houseAt
theorem dX4_points_0 : decode cX4_points 0 = .ok (.aload_n 0, 1) := by decide +kernel
theorem dX4_points_1 : decode cX4_points 1 = .ok (.iload_n 1, 1) := by decide +kernel
theorem dX4_points_2 : decode cX4_points 2 = .ok (.invokevirtual 95, 3) := by decide +kernel
theorem dX4_points_5 : decode cX4_points 5 = .ok (.getfield 211, 3) := by decide +kernel
theorem dX4_points_8 : decode cX4_points 8 = .ok (.ireturn, 1) := by decide +kernel
set_option maxRecDepth 20000 in
theorem ggX4_secondsRung_X4_houseAt : GoodIn wsX4_secondsRung wsX4_houseAt := goodIn_ca (goodIn_r _ [5, 6, 7, 8, 9, 4, 10, 11, 12, 26, 27, 28, 29, 30, 31, 32] (by decide +kernel) (by decide +kernel)) (goodIn_sub (fun _ h => List.mem_cons_of_mem _ (List.mem_append_right _ h)) (by decide +kernel))
set_option maxRecDepth 20000 in
theorem gX4_secondsRung_X4_houseAt : GoodIn wsX4_secondsRung (wsV RX4 95 RX4 yX4_houseAt wsX4_houseAt) := goodIn_app (goodIn_of _ (by decide +kernel)) ggX4_secondsRung_X4_houseAt
theorem dX4_secondsRung_0 : decode cX4_secondsRung 0 = .ok (.aload_n 0, 1) := by decide +kernel
theorem dX4_secondsRung_1 : decode cX4_secondsRung 1 = .ok (.iload_n 1, 1) := by decide +kernel
theorem dX4_secondsRung_2 : decode cX4_secondsRung 2 = .ok (.invokevirtual 95, 3) := by decide +kernel
theorem dX4_secondsRung_5 : decode cX4_secondsRung 5 = .ok (.getfield 214, 3) := by decide +kernel
theorem dX4_secondsRung_8 : decode cX4_secondsRung 8 = .ok (.ireturn, 1) := by decide +kernel
set_option maxRecDepth 20000 in
theorem ggX4_quietBroken_X4_houseAt : GoodIn wsX4_quietBroken wsX4_houseAt := goodIn_ca (goodIn_r _ [5, 6, 7, 8, 9, 4, 10, 11, 12, 26, 27, 28, 29, 30, 31, 32] (by decide +kernel) (by decide +kernel)) (goodIn_sub (fun _ h => List.mem_cons_of_mem _ (List.mem_append_right _ h)) (by decide +kernel))
set_option maxRecDepth 20000 in
theorem gX4_quietBroken_X4_houseAt : GoodIn wsX4_quietBroken (wsV RX4 95 RX4 yX4_houseAt wsX4_houseAt) := goodIn_app (goodIn_of _ (by decide +kernel)) ggX4_quietBroken_X4_houseAt
theorem dX4_quietBroken_0 : decode cX4_quietBroken 0 = .ok (.aload_n 0, 1) := by decide +kernel
theorem dX4_quietBroken_1 : decode cX4_quietBroken 1 = .ok (.iload_n 1, 1) := by decide +kernel
theorem dX4_quietBroken_2 : decode cX4_quietBroken 2 = .ok (.invokevirtual 95, 3) := by decide +kernel
theorem dX4_quietBroken_5 : decode cX4_quietBroken 5 = .ok (.getfield 217, 3) := by decide +kernel
theorem dX4_quietBroken_8 : decode cX4_quietBroken 8 = .ok (.ireturn, 1) := by decide +kernel
set_option maxRecDepth 20000 in
theorem ggX4_hushed_X4_houseAt : GoodIn wsX4_hushed wsX4_houseAt := goodIn_ca (goodIn_r _ [5, 6, 7, 8, 9, 4, 10, 11, 12, 26, 27, 28, 29, 30, 31, 32] (by decide +kernel) (by decide +kernel)) (goodIn_sub (fun _ h => List.mem_cons_of_mem _ (List.mem_append_right _ h)) (by decide +kernel))
set_option maxRecDepth 20000 in
theorem gX4_hushed_X4_houseAt : GoodIn wsX4_hushed (wsV RX4 95 RX4 yX4_houseAt wsX4_houseAt) := goodIn_app (goodIn_of _ (by decide +kernel)) ggX4_hushed_X4_houseAt
theorem dX4_hushed_0 : decode cX4_hushed 0 = .ok (.aload_n 0, 1) := by decide +kernel
theorem dX4_hushed_1 : decode cX4_hushed 1 = .ok (.iload_n 1, 1) := by decide +kernel
theorem dX4_hushed_2 : decode cX4_hushed 2 = .ok (.invokevirtual 95, 3) := by decide +kernel
theorem dX4_hushed_5 : decode cX4_hushed 5 = .ok (.getfield 150, 3) := by decide +kernel
theorem dX4_hushed_8 : decode cX4_hushed 8 = .ok (.ireturn, 1) := by decide +kernel
theorem dX4_faults_0 : decode cX4_faults 0 = .ok (.aload_n 0, 1) := by decide +kernel
theorem dX4_faults_1 : decode cX4_faults 1 = .ok (.getfield 35, 3) := by decide +kernel
theorem dX4_faults_4 : decode cX4_faults 4 = .ok (.ireturn, 1) := by decide +kernel
theorem dX4_faultAt_0 : decode cX4_faultAt 0 = .ok (.iload_n 1, 1) := by decide +kernel
theorem dX4_faultAt_1 : decode cX4_faultAt 1 = .ok (.ifCond .lt 11, 3) := by decide +kernel
theorem dX4_faultAt_4 : decode cX4_faultAt 4 = .ok (.iload_n 1, 1) := by decide +kernel
theorem dX4_faultAt_5 : decode cX4_faultAt 5 = .ok (.aload_n 0, 1) := by decide +kernel
theorem dX4_faultAt_6 : decode cX4_faultAt 6 = .ok (.getfield 35, 3) := by decide +kernel
theorem dX4_faultAt_9 : decode cX4_faultAt 9 = .ok (.if_icmp .lt 13, 3) := by decide +kernel
theorem dX4_faultAt_12 : decode cX4_faultAt 12 = .ok (.new 72, 3) := by decide +kernel
theorem dX4_faultAt_15 : decode cX4_faultAt 15 = .ok (.dup, 1) := by decide +kernel
theorem dX4_faultAt_16 : decode cX4_faultAt 16 = .ok (.ldc 220, 2) := by decide +kernel
theorem dX4_faultAt_18 : decode cX4_faultAt 18 = .ok (.invokespecial 76, 3) := by decide +kernel
theorem dX4_faultAt_21 : decode cX4_faultAt 21 = .ok (.athrow, 1) := by decide +kernel
theorem dX4_faultAt_22 : decode cX4_faultAt 22 = .ok (.aload_n 0, 1) := by decide +kernel
theorem dX4_faultAt_23 : decode cX4_faultAt 23 = .ok (.getfield 27, 3) := by decide +kernel
theorem dX4_faultAt_26 : decode cX4_faultAt 26 = .ok (.iload_n 1, 1) := by decide +kernel
theorem dX4_faultAt_27 : decode cX4_faultAt 27 = .ok (.iaload, 1) := by decide +kernel
theorem dX4_faultAt_28 : decode cX4_faultAt 28 = .ok (.ireturn, 1) := by decide +kernel
theorem dX4_checkHouse_0 : decode cX4_checkHouse 0 = .ok (.iload_n 1, 1) := by decide +kernel
theorem dX4_checkHouse_1 : decode cX4_checkHouse 1 = .ok (.ifCond .lt 9, 3) := by decide +kernel
theorem dX4_checkHouse_4 : decode cX4_checkHouse 4 = .ok (.iload_n 1, 1) := by decide +kernel
theorem dX4_checkHouse_5 : decode cX4_checkHouse 5 = .ok (.bipush 8, 2) := by decide +kernel
theorem dX4_checkHouse_7 : decode cX4_checkHouse 7 = .ok (.if_icmp .lt 13, 3) := by decide +kernel
theorem dX4_checkHouse_10 : decode cX4_checkHouse 10 = .ok (.new 72, 3) := by decide +kernel
theorem dX4_checkHouse_13 : decode cX4_checkHouse 13 = .ok (.dup, 1) := by decide +kernel
theorem dX4_checkHouse_14 : decode cX4_checkHouse 14 = .ok (.ldc 222, 2) := by decide +kernel
theorem dX4_checkHouse_16 : decode cX4_checkHouse 16 = .ok (.invokespecial 76, 3) := by decide +kernel
theorem dX4_checkHouse_19 : decode cX4_checkHouse 19 = .ok (.athrow, 1) := by decide +kernel
theorem dX4_checkHouse_20 : decode cX4_checkHouse 20 = .ok (.return_, 1) := by decide +kernel
set_option maxRecDepth 20000 in
theorem ggX4_houseAt_X4_checkHouse : GoodIn wsX4_houseAt wsX4_checkHouse := goodIn_ca (goodIn_r _ [6, 7, 8] (by decide +kernel) (by decide +kernel)) (goodIn_sub (fun _ h => List.mem_cons_of_mem _ (List.mem_append_right _ h)) (by decide +kernel))
set_option maxRecDepth 20000 in
theorem gX4_houseAt_X4_checkHouse : GoodIn wsX4_houseAt (wsV RX4 45 RX4 yX4_checkHouse wsX4_checkHouse) := goodIn_app (goodIn_of _ (by decide +kernel)) ggX4_houseAt_X4_checkHouse
theorem dX4_houseAt_0 : decode cX4_houseAt 0 = .ok (.aload_n 0, 1) := by decide +kernel
theorem dX4_houseAt_1 : decode cX4_houseAt 1 = .ok (.iload_n 1, 1) := by decide +kernel
theorem dX4_houseAt_2 : decode cX4_houseAt 2 = .ok (.invokevirtual 45, 3) := by decide +kernel
theorem dX4_houseAt_5 : decode cX4_houseAt 5 = .ok (.aload_n 0, 1) := by decide +kernel
theorem dX4_houseAt_6 : decode cX4_houseAt 6 = .ok (.getfield 11, 3) := by decide +kernel
theorem dX4_houseAt_9 : decode cX4_houseAt 9 = .ok (.iload_n 1, 1) := by decide +kernel
theorem dX4_houseAt_10 : decode cX4_houseAt 10 = .ok (.aaload, 1) := by decide +kernel
theorem dX4_houseAt_11 : decode cX4_houseAt 11 = .ok (.areturn, 1) := by decide +kernel
set_option maxRecDepth 20000 in
theorem ggX4_bellAt_X4_houseAt : GoodIn wsX4_bellAt wsX4_houseAt := goodIn_ca (goodIn_r _ [7, 8, 9, 10, 11, 6, 12, 1, 2, 26, 27, 28, 29, 30, 31, 32] (by decide +kernel) (by decide +kernel)) (goodIn_sub (fun _ h => List.mem_cons_of_mem _ (List.mem_append_right _ h)) (by decide +kernel))
set_option maxRecDepth 20000 in
theorem gX4_bellAt_X4_houseAt : GoodIn wsX4_bellAt (wsV RX4 95 RX4 yX4_houseAt wsX4_houseAt) := goodIn_app (goodIn_of _ (by decide +kernel)) ggX4_bellAt_X4_houseAt
theorem dX4_bellAt_0 : decode cX4_bellAt 0 = .ok (.aload_n 0, 1) := by decide +kernel
theorem dX4_bellAt_1 : decode cX4_bellAt 1 = .ok (.iload_n 1, 1) := by decide +kernel
theorem dX4_bellAt_2 : decode cX4_bellAt 2 = .ok (.invokevirtual 95, 3) := by decide +kernel
theorem dX4_bellAt_5 : decode cX4_bellAt 5 = .ok (.astore_n 3, 1) := by decide +kernel
theorem dX4_bellAt_6 : decode cX4_bellAt 6 = .ok (.iload_n 2, 1) := by decide +kernel
theorem dX4_bellAt_7 : decode cX4_bellAt 7 = .ok (.ifCond .lt 8, 3) := by decide +kernel
theorem dX4_bellAt_10 : decode cX4_bellAt 10 = .ok (.iload_n 2, 1) := by decide +kernel
theorem dX4_bellAt_11 : decode cX4_bellAt 11 = .ok (.iconst 3, 1) := by decide +kernel
theorem dX4_bellAt_12 : decode cX4_bellAt 12 = .ok (.if_icmp .lt 13, 3) := by decide +kernel
theorem dX4_bellAt_15 : decode cX4_bellAt 15 = .ok (.new 72, 3) := by decide +kernel
theorem dX4_bellAt_18 : decode cX4_bellAt 18 = .ok (.dup, 1) := by decide +kernel
theorem dX4_bellAt_19 : decode cX4_bellAt 19 = .ok (.ldc 224, 2) := by decide +kernel
theorem dX4_bellAt_21 : decode cX4_bellAt 21 = .ok (.invokespecial 76, 3) := by decide +kernel
theorem dX4_bellAt_24 : decode cX4_bellAt 24 = .ok (.athrow, 1) := by decide +kernel
theorem dX4_bellAt_25 : decode cX4_bellAt 25 = .ok (.aload_n 3, 1) := by decide +kernel
theorem dX4_bellAt_26 : decode cX4_bellAt 26 = .ok (.getfield 226, 3) := by decide +kernel
theorem dX4_bellAt_29 : decode cX4_bellAt 29 = .ok (.iload_n 2, 1) := by decide +kernel
theorem dX4_bellAt_30 : decode cX4_bellAt 30 = .ok (.aaload, 1) := by decide +kernel
theorem dX4_bellAt_31 : decode cX4_bellAt 31 = .ok (.areturn, 1) := by decide +kernel
theorem dX4_melodyAt_0 : decode cX4_melodyAt 0 = .ok (.iload_n 1, 1) := by decide +kernel
theorem dX4_melodyAt_1 : decode cX4_melodyAt 1 = .ok (.ifCond .lt 9, 3) := by decide +kernel
theorem dX4_melodyAt_4 : decode cX4_melodyAt 4 = .ok (.iload_n 1, 1) := by decide +kernel
theorem dX4_melodyAt_5 : decode cX4_melodyAt 5 = .ok (.bipush 12, 2) := by decide +kernel
theorem dX4_melodyAt_7 : decode cX4_melodyAt 7 = .ok (.if_icmp .lt 7, 3) := by decide +kernel
theorem dX4_melodyAt_10 : decode cX4_melodyAt 10 = .ok (.aconst_null, 1) := by decide +kernel
theorem dX4_melodyAt_11 : decode cX4_melodyAt 11 = .ok (.goto 9, 3) := by decide +kernel
theorem dX4_melodyAt_14 : decode cX4_melodyAt 14 = .ok (.aload_n 0, 1) := by decide +kernel
theorem dX4_melodyAt_15 : decode cX4_melodyAt 15 = .ok (.getfield 23, 3) := by decide +kernel
theorem dX4_melodyAt_18 : decode cX4_melodyAt 18 = .ok (.iload_n 1, 1) := by decide +kernel
theorem dX4_melodyAt_19 : decode cX4_melodyAt 19 = .ok (.aaload, 1) := by decide +kernel
theorem dX4_melodyAt_20 : decode cX4_melodyAt 20 = .ok (.astore_n 2, 1) := by decide +kernel
theorem dX4_melodyAt_21 : decode cX4_melodyAt 21 = .ok (.aload_n 2, 1) := by decide +kernel
theorem dX4_melodyAt_22 : decode cX4_melodyAt 22 = .ok (.ifnonnull 13, 3) := by decide +kernel
theorem dX4_melodyAt_25 : decode cX4_melodyAt 25 = .ok (.new 72, 3) := by decide +kernel
theorem dX4_melodyAt_28 : decode cX4_melodyAt 28 = .ok (.dup, 1) := by decide +kernel
theorem dX4_melodyAt_29 : decode cX4_melodyAt 29 = .ok (.ldc 230, 2) := by decide +kernel
theorem dX4_melodyAt_31 : decode cX4_melodyAt 31 = .ok (.invokespecial 76, 3) := by decide +kernel
theorem dX4_melodyAt_34 : decode cX4_melodyAt 34 = .ok (.athrow, 1) := by decide +kernel
theorem dX4_melodyAt_35 : decode cX4_melodyAt 35 = .ok (.aload_n 2, 1) := by decide +kernel
theorem dX4_melodyAt_36 : decode cX4_melodyAt 36 = .ok (.areturn, 1) := by decide +kernel
set_option maxRecDepth 20000 in
theorem ggX4_nextChange_X2_firstStop : GoodIn wsX4_nextChange wsX2_firstStop := goodIn_r _ [12, 13, 23, 24, 25, 26, 27, 28, 29, 30, 31, 32, 33, 34, 35, 36, 37, 38, 39] (by decide +kernel) (by decide +kernel)
set_option maxRecDepth 20000 in
theorem gX4_nextChange_X2_firstStop : GoodIn wsX4_nextChange (wsV RX4 238 RX2 yX2_firstStop wsX2_firstStop) := goodIn_app (goodIn_of _ (by decide +kernel)) ggX4_nextChange_X2_firstStop
theorem dX4_nextChange_0 : decode cX4_nextChange 0 = .ok (.iload_n 1, 1) := by decide +kernel
theorem dX4_nextChange_1 : decode cX4_nextChange 1 = .ok (.aload_n 0, 1) := by decide +kernel
theorem dX4_nextChange_2 : decode cX4_nextChange 2 = .ok (.getfield 38, 3) := by decide +kernel
theorem dX4_nextChange_5 : decode cX4_nextChange 5 = .ok (.aload_n 0, 1) := by decide +kernel
theorem dX4_nextChange_6 : decode cX4_nextChange 6 = .ok (.getfield 38, 3) := by decide +kernel
theorem dX4_nextChange_9 : decode cX4_nextChange 9 = .ok (.sipush 1000, 3) := by decide +kernel
theorem dX4_nextChange_12 : decode cX4_nextChange 12 = .ok (.irem, 1) := by decide +kernel
theorem dX4_nextChange_13 : decode cX4_nextChange 13 = .ok (.isub, 1) := by decide +kernel
theorem dX4_nextChange_14 : decode cX4_nextChange 14 = .ok (.sipush 1000, 3) := by decide +kernel
theorem dX4_nextChange_17 : decode cX4_nextChange 17 = .ok (.iadd, 1) := by decide +kernel
theorem dX4_nextChange_18 : decode cX4_nextChange 18 = .ok (.invokestatic 232, 3) := by decide +kernel
theorem dX4_nextChange_21 : decode cX4_nextChange 21 = .ok (.istore_n 2, 1) := by decide +kernel
theorem dX4_nextChange_22 : decode cX4_nextChange 22 = .ok (.aload_n 0, 1) := by decide +kernel
theorem dX4_nextChange_23 : decode cX4_nextChange 23 = .ok (.getfield 11, 3) := by decide +kernel
theorem dX4_nextChange_26 : decode cX4_nextChange 26 = .ok (.astore_n 3, 1) := by decide +kernel
theorem dX4_nextChange_27 : decode cX4_nextChange 27 = .ok (.aload_n 3, 1) := by decide +kernel
theorem dX4_nextChange_28 : decode cX4_nextChange 28 = .ok (.arraylength, 1) := by decide +kernel
theorem dX4_nextChange_29 : decode cX4_nextChange 29 = .ok (.istore 4, 2) := by decide +kernel
theorem dX4_nextChange_31 : decode cX4_nextChange 31 = .ok (.iconst 0, 1) := by decide +kernel
theorem dX4_nextChange_32 : decode cX4_nextChange 32 = .ok (.istore 5, 2) := by decide +kernel
theorem dX4_nextChange_34 : decode cX4_nextChange 34 = .ok (.iload 5, 2) := by decide +kernel
theorem dX4_nextChange_36 : decode cX4_nextChange 36 = .ok (.iload 4, 2) := by decide +kernel
theorem dX4_nextChange_38 : decode cX4_nextChange 38 = .ok (.if_icmp .ge 26, 3) := by decide +kernel
theorem dX4_nextChange_41 : decode cX4_nextChange 41 = .ok (.aload_n 3, 1) := by decide +kernel
theorem dX4_nextChange_42 : decode cX4_nextChange 42 = .ok (.iload 5, 2) := by decide +kernel
theorem dX4_nextChange_44 : decode cX4_nextChange 44 = .ok (.aaload, 1) := by decide +kernel
theorem dX4_nextChange_45 : decode cX4_nextChange 45 = .ok (.astore 6, 2) := by decide +kernel
theorem dX4_nextChange_47 : decode cX4_nextChange 47 = .ok (.iload_n 2, 1) := by decide +kernel
theorem dX4_nextChange_48 : decode cX4_nextChange 48 = .ok (.aload 6, 2) := by decide +kernel
theorem dX4_nextChange_50 : decode cX4_nextChange 50 = .ok (.iload_n 2, 1) := by decide +kernel
theorem dX4_nextChange_51 : decode cX4_nextChange 51 = .ok (.invokevirtual 238, 3) := by decide +kernel
theorem dX4_nextChange_54 : decode cX4_nextChange 54 = .ok (.invokestatic 232, 3) := by decide +kernel
theorem dX4_nextChange_57 : decode cX4_nextChange 57 = .ok (.istore_n 2, 1) := by decide +kernel
theorem dX4_nextChange_58 : decode cX4_nextChange 58 = .ok (.iinc 5 1, 3) := by decide +kernel
theorem dX4_nextChange_61 : decode cX4_nextChange 61 = .ok (.goto (-27), 3) := by decide +kernel
theorem dX4_nextChange_64 : decode cX4_nextChange 64 = .ok (.aload_n 0, 1) := by decide +kernel
theorem dX4_nextChange_65 : decode cX4_nextChange 65 = .ok (.getfield 17, 3) := by decide +kernel
theorem dX4_nextChange_68 : decode cX4_nextChange 68 = .ok (.astore_n 3, 1) := by decide +kernel
theorem dX4_nextChange_69 : decode cX4_nextChange 69 = .ok (.aload_n 3, 1) := by decide +kernel
theorem dX4_nextChange_70 : decode cX4_nextChange 70 = .ok (.arraylength, 1) := by decide +kernel
theorem dX4_nextChange_71 : decode cX4_nextChange 71 = .ok (.istore 4, 2) := by decide +kernel
theorem dX4_nextChange_73 : decode cX4_nextChange 73 = .ok (.iconst 0, 1) := by decide +kernel
theorem dX4_nextChange_74 : decode cX4_nextChange 74 = .ok (.istore 5, 2) := by decide +kernel
theorem dX4_nextChange_76 : decode cX4_nextChange 76 = .ok (.iload 5, 2) := by decide +kernel
theorem dX4_nextChange_78 : decode cX4_nextChange 78 = .ok (.iload 4, 2) := by decide +kernel
theorem dX4_nextChange_80 : decode cX4_nextChange 80 = .ok (.if_icmp .ge 33, 3) := by decide +kernel
theorem dX4_nextChange_83 : decode cX4_nextChange 83 = .ok (.aload_n 3, 1) := by decide +kernel
theorem dX4_nextChange_84 : decode cX4_nextChange 84 = .ok (.iload 5, 2) := by decide +kernel
theorem dX4_nextChange_86 : decode cX4_nextChange 86 = .ok (.aaload, 1) := by decide +kernel
theorem dX4_nextChange_87 : decode cX4_nextChange 87 = .ok (.astore 6, 2) := by decide +kernel
theorem dX4_nextChange_89 : decode cX4_nextChange 89 = .ok (.aload 6, 2) := by decide +kernel
theorem dX4_nextChange_91 : decode cX4_nextChange 91 = .ok (.getfield 188, 3) := by decide +kernel
theorem dX4_nextChange_94 : decode cX4_nextChange 94 = .ok (.ifnull 13, 3) := by decide +kernel
theorem dX4_nextChange_97 : decode cX4_nextChange 97 = .ok (.iload_n 2, 1) := by decide +kernel
theorem dX4_nextChange_98 : decode cX4_nextChange 98 = .ok (.aload 6, 2) := by decide +kernel
theorem dX4_nextChange_100 : decode cX4_nextChange 100 = .ok (.getfield 194, 3) := by decide +kernel
theorem dX4_nextChange_103 : decode cX4_nextChange 103 = .ok (.invokestatic 232, 3) := by decide +kernel
theorem dX4_nextChange_106 : decode cX4_nextChange 106 = .ok (.istore_n 2, 1) := by decide +kernel
theorem dX4_nextChange_107 : decode cX4_nextChange 107 = .ok (.iinc 5 1, 3) := by decide +kernel
theorem dX4_nextChange_110 : decode cX4_nextChange 110 = .ok (.goto (-34), 3) := by decide +kernel
theorem dX4_nextChange_113 : decode cX4_nextChange 113 = .ok (.iload_n 2, 1) := by decide +kernel
theorem dX4_nextChange_114 : decode cX4_nextChange 114 = .ok (.ireturn, 1) := by decide +kernel
set_option maxRecDepth 20000 in
theorem ggX4_passStretch_X2_spend : GoodIn wsX4_passStretch wsX2_spend := goodIn_r _ [8, 9, 10, 11, 12, 13, 14, 7, 15, 16, 17, 18, 19, 20, 21, 22, 23, 24, 25, 26, 27, 28, 29, 30, 31, 32, 57, 58, 59, 60, 61, 62, 63, 64, 65, 66, 67, 68, 69, 70, 71, 72, 73] (by decide +kernel) (by decide +kernel)
set_option maxRecDepth 20000 in
theorem gX4_passStretch_X2_spend : GoodIn wsX4_passStretch (wsV RX4 241 RX2 yX2_spend wsX2_spend) := goodIn_app (goodIn_of _ (by decide +kernel)) ggX4_passStretch_X2_spend
set_option maxRecDepth 20000 in
theorem ggX4_passStretch_X2_stopEndedBells : GoodIn wsX4_passStretch wsX2_stopEndedBells := goodIn_r _ [36, 16, 57, 58, 59, 60, 61, 62, 63, 64, 65, 66, 67, 68, 69, 70, 71, 72, 73] (by decide +kernel) (by decide +kernel)
set_option maxRecDepth 20000 in
theorem gX4_passStretch_X2_stopEndedBells : GoodIn wsX4_passStretch (wsV RX4 245 RX2 yX2_stopEndedBells wsX2_stopEndedBells) := goodIn_app (goodIn_of _ (by decide +kernel)) ggX4_passStretch_X2_stopEndedBells
set_option maxRecDepth 20000 in
theorem ggX4_passStretch_X1_finish : GoodIn wsX4_passStretch wsX1_finish := goodIn_r _ [41, 42, 43, 74, 75, 57, 58, 59, 60, 61, 62, 63, 64, 65, 66, 67, 68, 69] (by decide +kernel) (by decide +kernel)
set_option maxRecDepth 20000 in
theorem gX4_passStretch_X1_finish : GoodIn wsX4_passStretch (wsV RX4 248 RX1 yX1_finish wsX1_finish) := goodIn_app (goodIn_of _ (by decide +kernel)) ggX4_passStretch_X1_finish
set_option maxRecDepth 20000 in
theorem ggX4_passStretch_X2_closeDay : GoodIn wsX4_passStretch wsX2_closeDay := goodIn_r _ [47, 11, 48, 49, 57, 58, 59, 60, 61, 62, 63, 64, 65, 66, 67, 68, 69] (by decide +kernel) (by decide +kernel)
set_option maxRecDepth 20000 in
theorem gX4_passStretch_X2_closeDay : GoodIn wsX4_passStretch (wsV RX4 251 RX2 yX2_closeDay wsX2_closeDay) := goodIn_app (goodIn_of _ (by decide +kernel)) ggX4_passStretch_X2_closeDay
theorem dX4_passStretch_0 : decode cX4_passStretch 0 = .ok (.aload_n 0, 1) := by decide +kernel
theorem dX4_passStretch_1 : decode cX4_passStretch 1 = .ok (.getfield 11, 3) := by decide +kernel
theorem dX4_passStretch_4 : decode cX4_passStretch 4 = .ok (.astore_n 2, 1) := by decide +kernel
theorem dX4_passStretch_5 : decode cX4_passStretch 5 = .ok (.aload_n 2, 1) := by decide +kernel
theorem dX4_passStretch_6 : decode cX4_passStretch 6 = .ok (.arraylength, 1) := by decide +kernel
theorem dX4_passStretch_7 : decode cX4_passStretch 7 = .ok (.istore_n 3, 1) := by decide +kernel
theorem dX4_passStretch_8 : decode cX4_passStretch 8 = .ok (.iconst 0, 1) := by decide +kernel
theorem dX4_passStretch_9 : decode cX4_passStretch 9 = .ok (.istore 4, 2) := by decide +kernel
theorem dX4_passStretch_11 : decode cX4_passStretch 11 = .ok (.iload 4, 2) := by decide +kernel
theorem dX4_passStretch_13 : decode cX4_passStretch 13 = .ok (.iload_n 3, 1) := by decide +kernel
theorem dX4_passStretch_14 : decode cX4_passStretch 14 = .ok (.if_icmp .ge 25, 3) := by decide +kernel
theorem dX4_passStretch_17 : decode cX4_passStretch 17 = .ok (.aload_n 2, 1) := by decide +kernel
theorem dX4_passStretch_18 : decode cX4_passStretch 18 = .ok (.iload 4, 2) := by decide +kernel
theorem dX4_passStretch_20 : decode cX4_passStretch 20 = .ok (.aaload, 1) := by decide +kernel
theorem dX4_passStretch_21 : decode cX4_passStretch 21 = .ok (.astore 5, 2) := by decide +kernel
theorem dX4_passStretch_23 : decode cX4_passStretch 23 = .ok (.aload 5, 2) := by decide +kernel
theorem dX4_passStretch_25 : decode cX4_passStretch 25 = .ok (.aload_n 0, 1) := by decide +kernel
theorem dX4_passStretch_26 : decode cX4_passStretch 26 = .ok (.getfield 38, 3) := by decide +kernel
theorem dX4_passStretch_29 : decode cX4_passStretch 29 = .ok (.iload_n 1, 1) := by decide +kernel
theorem dX4_passStretch_30 : decode cX4_passStretch 30 = .ok (.invokevirtual 241, 3) := by decide +kernel
theorem dX4_passStretch_33 : decode cX4_passStretch 33 = .ok (.iinc 4 1, 3) := by decide +kernel
theorem dX4_passStretch_36 : decode cX4_passStretch 36 = .ok (.goto (-25), 3) := by decide +kernel
theorem dX4_passStretch_39 : decode cX4_passStretch 39 = .ok (.aload_n 0, 1) := by decide +kernel
theorem dX4_passStretch_40 : decode cX4_passStretch 40 = .ok (.iload_n 1, 1) := by decide +kernel
theorem dX4_passStretch_41 : decode cX4_passStretch 41 = .ok (.putfield 38, 3) := by decide +kernel
theorem dX4_passStretch_44 : decode cX4_passStretch 44 = .ok (.aload_n 0, 1) := by decide +kernel
theorem dX4_passStretch_45 : decode cX4_passStretch 45 = .ok (.getfield 11, 3) := by decide +kernel
theorem dX4_passStretch_48 : decode cX4_passStretch 48 = .ok (.astore_n 2, 1) := by decide +kernel
theorem dX4_passStretch_49 : decode cX4_passStretch 49 = .ok (.aload_n 2, 1) := by decide +kernel
theorem dX4_passStretch_50 : decode cX4_passStretch 50 = .ok (.arraylength, 1) := by decide +kernel
theorem dX4_passStretch_51 : decode cX4_passStretch 51 = .ok (.istore_n 3, 1) := by decide +kernel
theorem dX4_passStretch_52 : decode cX4_passStretch 52 = .ok (.iconst 0, 1) := by decide +kernel
theorem dX4_passStretch_53 : decode cX4_passStretch 53 = .ok (.istore 4, 2) := by decide +kernel
theorem dX4_passStretch_55 : decode cX4_passStretch 55 = .ok (.iload 4, 2) := by decide +kernel
theorem dX4_passStretch_57 : decode cX4_passStretch 57 = .ok (.iload_n 3, 1) := by decide +kernel
theorem dX4_passStretch_58 : decode cX4_passStretch 58 = .ok (.if_icmp .ge 24, 3) := by decide +kernel
theorem dX4_passStretch_61 : decode cX4_passStretch 61 = .ok (.aload_n 2, 1) := by decide +kernel
theorem dX4_passStretch_62 : decode cX4_passStretch 62 = .ok (.iload 4, 2) := by decide +kernel
theorem dX4_passStretch_64 : decode cX4_passStretch 64 = .ok (.aaload, 1) := by decide +kernel
theorem dX4_passStretch_65 : decode cX4_passStretch 65 = .ok (.astore 5, 2) := by decide +kernel
theorem dX4_passStretch_67 : decode cX4_passStretch 67 = .ok (.aload 5, 2) := by decide +kernel
theorem dX4_passStretch_69 : decode cX4_passStretch 69 = .ok (.aload_n 0, 1) := by decide +kernel
theorem dX4_passStretch_70 : decode cX4_passStretch 70 = .ok (.getfield 38, 3) := by decide +kernel
theorem dX4_passStretch_73 : decode cX4_passStretch 73 = .ok (.invokevirtual 245, 3) := by decide +kernel
theorem dX4_passStretch_76 : decode cX4_passStretch 76 = .ok (.iinc 4 1, 3) := by decide +kernel
theorem dX4_passStretch_79 : decode cX4_passStretch 79 = .ok (.goto (-24), 3) := by decide +kernel
theorem dX4_passStretch_82 : decode cX4_passStretch 82 = .ok (.aload_n 0, 1) := by decide +kernel
theorem dX4_passStretch_83 : decode cX4_passStretch 83 = .ok (.getfield 17, 3) := by decide +kernel
theorem dX4_passStretch_86 : decode cX4_passStretch 86 = .ok (.astore_n 2, 1) := by decide +kernel
theorem dX4_passStretch_87 : decode cX4_passStretch 87 = .ok (.aload_n 2, 1) := by decide +kernel
theorem dX4_passStretch_88 : decode cX4_passStretch 88 = .ok (.arraylength, 1) := by decide +kernel
theorem dX4_passStretch_89 : decode cX4_passStretch 89 = .ok (.istore_n 3, 1) := by decide +kernel
theorem dX4_passStretch_90 : decode cX4_passStretch 90 = .ok (.iconst 0, 1) := by decide +kernel
theorem dX4_passStretch_91 : decode cX4_passStretch 91 = .ok (.istore 4, 2) := by decide +kernel
theorem dX4_passStretch_93 : decode cX4_passStretch 93 = .ok (.iload 4, 2) := by decide +kernel
theorem dX4_passStretch_95 : decode cX4_passStretch 95 = .ok (.iload_n 3, 1) := by decide +kernel
theorem dX4_passStretch_96 : decode cX4_passStretch 96 = .ok (.if_icmp .ge 24, 3) := by decide +kernel
theorem dX4_passStretch_99 : decode cX4_passStretch 99 = .ok (.aload_n 2, 1) := by decide +kernel
theorem dX4_passStretch_100 : decode cX4_passStretch 100 = .ok (.iload 4, 2) := by decide +kernel
theorem dX4_passStretch_102 : decode cX4_passStretch 102 = .ok (.aaload, 1) := by decide +kernel
theorem dX4_passStretch_103 : decode cX4_passStretch 103 = .ok (.astore 5, 2) := by decide +kernel
theorem dX4_passStretch_105 : decode cX4_passStretch 105 = .ok (.aload 5, 2) := by decide +kernel
theorem dX4_passStretch_107 : decode cX4_passStretch 107 = .ok (.aload_n 0, 1) := by decide +kernel
theorem dX4_passStretch_108 : decode cX4_passStretch 108 = .ok (.getfield 38, 3) := by decide +kernel
theorem dX4_passStretch_111 : decode cX4_passStretch 111 = .ok (.invokevirtual 248, 3) := by decide +kernel
theorem dX4_passStretch_114 : decode cX4_passStretch 114 = .ok (.iinc 4 1, 3) := by decide +kernel
theorem dX4_passStretch_117 : decode cX4_passStretch 117 = .ok (.goto (-24), 3) := by decide +kernel
theorem dX4_passStretch_120 : decode cX4_passStretch 120 = .ok (.aload_n 0, 1) := by decide +kernel
theorem dX4_passStretch_121 : decode cX4_passStretch 121 = .ok (.getfield 38, 3) := by decide +kernel
theorem dX4_passStretch_124 : decode cX4_passStretch 124 = .ok (.sipush 1000, 3) := by decide +kernel
theorem dX4_passStretch_127 : decode cX4_passStretch 127 = .ok (.irem, 1) := by decide +kernel
theorem dX4_passStretch_128 : decode cX4_passStretch 128 = .ok (.ifCond .ne 37, 3) := by decide +kernel
theorem dX4_passStretch_131 : decode cX4_passStretch 131 = .ok (.aload_n 0, 1) := by decide +kernel
theorem dX4_passStretch_132 : decode cX4_passStretch 132 = .ok (.getfield 11, 3) := by decide +kernel
theorem dX4_passStretch_135 : decode cX4_passStretch 135 = .ok (.astore_n 2, 1) := by decide +kernel
theorem dX4_passStretch_136 : decode cX4_passStretch 136 = .ok (.aload_n 2, 1) := by decide +kernel
theorem dX4_passStretch_137 : decode cX4_passStretch 137 = .ok (.arraylength, 1) := by decide +kernel
theorem dX4_passStretch_138 : decode cX4_passStretch 138 = .ok (.istore_n 3, 1) := by decide +kernel
theorem dX4_passStretch_139 : decode cX4_passStretch 139 = .ok (.iconst 0, 1) := by decide +kernel
theorem dX4_passStretch_140 : decode cX4_passStretch 140 = .ok (.istore 4, 2) := by decide +kernel
theorem dX4_passStretch_142 : decode cX4_passStretch 142 = .ok (.iload 4, 2) := by decide +kernel
theorem dX4_passStretch_144 : decode cX4_passStretch 144 = .ok (.iload_n 3, 1) := by decide +kernel
theorem dX4_passStretch_145 : decode cX4_passStretch 145 = .ok (.if_icmp .ge 20, 3) := by decide +kernel
theorem dX4_passStretch_148 : decode cX4_passStretch 148 = .ok (.aload_n 2, 1) := by decide +kernel
theorem dX4_passStretch_149 : decode cX4_passStretch 149 = .ok (.iload 4, 2) := by decide +kernel
theorem dX4_passStretch_151 : decode cX4_passStretch 151 = .ok (.aaload, 1) := by decide +kernel
theorem dX4_passStretch_152 : decode cX4_passStretch 152 = .ok (.astore 5, 2) := by decide +kernel
theorem dX4_passStretch_154 : decode cX4_passStretch 154 = .ok (.aload 5, 2) := by decide +kernel
theorem dX4_passStretch_156 : decode cX4_passStretch 156 = .ok (.invokevirtual 251, 3) := by decide +kernel
theorem dX4_passStretch_159 : decode cX4_passStretch 159 = .ok (.iinc 4 1, 3) := by decide +kernel
theorem dX4_passStretch_162 : decode cX4_passStretch 162 = .ok (.goto (-20), 3) := by decide +kernel
theorem dX4_passStretch_165 : decode cX4_passStretch 165 = .ok (.return_, 1) := by decide +kernel
theorem dJ9_max_7cf53_0 : decode cJ9_max_7cf53 0 = .ok (.iload_n 0, 1) := by decide +kernel
theorem dJ9_max_7cf53_1 : decode cJ9_max_7cf53 1 = .ok (.iload_n 1, 1) := by decide +kernel
theorem dJ9_max_7cf53_2 : decode cJ9_max_7cf53 2 = .ok (.if_icmp .lt 7, 3) := by decide +kernel
theorem dJ9_max_7cf53_5 : decode cJ9_max_7cf53 5 = .ok (.iload_n 0, 1) := by decide +kernel
theorem dJ9_max_7cf53_6 : decode cJ9_max_7cf53 6 = .ok (.goto 4, 3) := by decide +kernel
theorem dJ9_max_7cf53_9 : decode cJ9_max_7cf53 9 = .ok (.iload_n 1, 1) := by decide +kernel
theorem dJ9_max_7cf53_10 : decode cJ9_max_7cf53 10 = .ok (.ireturn, 1) := by decide +kernel
theorem dJ9_min_7cf53_0 : decode cJ9_min_7cf53 0 = .ok (.iload_n 0, 1) := by decide +kernel
theorem dJ9_min_7cf53_1 : decode cJ9_min_7cf53 1 = .ok (.iload_n 1, 1) := by decide +kernel
theorem dJ9_min_7cf53_2 : decode cJ9_min_7cf53 2 = .ok (.if_icmp .gt 7, 3) := by decide +kernel
theorem dJ9_min_7cf53_5 : decode cJ9_min_7cf53 5 = .ok (.iload_n 0, 1) := by decide +kernel
theorem dJ9_min_7cf53_6 : decode cJ9_min_7cf53 6 = .ok (.goto 4, 3) := by decide +kernel
theorem dJ9_min_7cf53_9 : decode cJ9_min_7cf53 9 = .ok (.iload_n 1, 1) := by decide +kernel
theorem dJ9_min_7cf53_10 : decode cJ9_min_7cf53 10 = .ok (.ireturn, 1) := by decide +kernel
theorem dL_low_0 : decode cL_low 0 = .ok (.iload_n 0, 1) := by decide +kernel
theorem dL_low_1 : decode cL_low 1 = .ok (.ldc 7, 2) := by decide +kernel
theorem dL_low_3 : decode cL_low 3 = .ok (.iand, 1) := by decide +kernel
theorem dL_low_4 : decode cL_low 4 = .ok (.iload_n 1, 1) := by decide +kernel
theorem dL_low_5 : decode cL_low 5 = .ok (.irem, 1) := by decide +kernel
theorem dL_low_6 : decode cL_low 6 = .ok (.ireturn, 1) := by decide +kernel
theorem dL_cell_0 : decode cL_cell 0 = .ok (.iload_n 1, 1) := by decide +kernel
theorem dL_cell_1 : decode cL_cell 1 = .ok (.aload_n 0, 1) := by decide +kernel
theorem dL_cell_2 : decode cL_cell 2 = .ok (.arraylength, 1) := by decide +kernel
theorem dL_cell_3 : decode cL_cell 3 = .ok (.if_icmp .ge 9, 3) := by decide +kernel
theorem dL_cell_6 : decode cL_cell 6 = .ok (.aload_n 0, 1) := by decide +kernel
theorem dL_cell_7 : decode cL_cell 7 = .ok (.iload_n 1, 1) := by decide +kernel
theorem dL_cell_8 : decode cL_cell 8 = .ok (.iaload, 1) := by decide +kernel
theorem dL_cell_9 : decode cL_cell 9 = .ok (.goto 11, 3) := by decide +kernel
theorem dL_cell_12 : decode cL_cell 12 = .ok (.ldc 8, 2) := by decide +kernel
theorem dL_cell_14 : decode cL_cell 14 = .ok (.iload_n 1, 1) := by decide +kernel
theorem dL_cell_15 : decode cL_cell 15 = .ok (.imul, 1) := by decide +kernel
theorem dL_cell_16 : decode cL_cell 16 = .ok (.sipush 977, 3) := by decide +kernel
theorem dL_cell_19 : decode cL_cell 19 = .ok (.iadd, 1) := by decide +kernel
theorem dL_cell_20 : decode cL_cell 20 = .ok (.ireturn, 1) := by decide +kernel
set_option maxRecDepth 20000 in
theorem ggL_melody_X4_addMelody : GoodIn wsL_melody wsX4_addMelody := goodIn_ca (goodIn_ca (goodIn_ca (goodIn_r _ [6, 7, 8, 9, 10, 11, 12, 13, 14, 15, 16, 17, 18, 5, 19, 20, 21, 22, 23, 24, 25, 26, 27, 28, 29, 30, 31, 32, 33, 34, 35, 36, 37, 38, 39, 40, 41, 42] (by decide +kernel) (by decide +kernel)) (goodIn_sub (fun _ h => List.mem_cons_of_mem _ (List.mem_append_left _ (List.mem_append_left _ (List.mem_append_right _ h)))) (by decide +kernel))) (goodIn_sub (fun _ h => List.mem_cons_of_mem _ (List.mem_append_left _ (List.mem_append_right _ h))) (by decide +kernel))) (goodIn_sub (fun _ h => List.mem_cons_of_mem _ (List.mem_append_right _ h)) (by decide +kernel))
set_option maxRecDepth 20000 in
theorem gL_melody_X4_addMelody : GoodIn wsL_melody (wsV RL 9 RX4 yX4_addMelody wsX4_addMelody) := goodIn_app (goodIn_of _ (by decide +kernel)) ggL_melody_X4_addMelody
theorem dL_melody_0 : decode cL_melody 0 = .ok (.aload_n 0, 1) := by decide +kernel
theorem dL_melody_1 : decode cL_melody 1 = .ok (.iload_n 1, 1) := by decide +kernel
theorem dL_melody_2 : decode cL_melody 2 = .ok (.iload_n 2, 1) := by decide +kernel
theorem dL_melody_3 : decode cL_melody 3 = .ok (.lload_n 3, 1) := by decide +kernel
theorem dL_melody_4 : decode cL_melody 4 = .ok (.invokevirtual 9, 3) := by decide +kernel
theorem dL_melody_7 : decode cL_melody 7 = .ok (.ireturn, 1) := by decide +kernel
theorem dL_melody_8 : decode cL_melody 8 = .ok (.astore 5, 2) := by decide +kernel
theorem dL_melody_10 : decode cL_melody 10 = .ok (.bipush (-3), 2) := by decide +kernel
theorem dL_melody_12 : decode cL_melody 12 = .ok (.ireturn, 1) := by decide +kernel
set_option maxRecDepth 20000 in
theorem ggL_license_X4_license : GoodIn wsL_license wsX4_license := goodIn_ca (goodIn_ca (goodIn_ca (goodIn_r _ [6, 7, 8, 9, 10, 11, 12, 13, 5, 14, 15, 16, 17, 18, 19, 20, 21, 22, 23, 24, 25, 26, 27, 28, 29, 30, 31, 32, 33, 34, 35, 36, 37, 38, 39, 40, 41, 42, 43, 44, 45, 46, 47, 48, 49, 50] (by decide +kernel) (by decide +kernel)) (goodIn_sub (fun _ h => List.mem_cons_of_mem _ (List.mem_append_left _ (List.mem_append_left _ (List.mem_append_right _ h)))) (by decide +kernel))) (goodIn_sub (fun _ h => List.mem_cons_of_mem _ (List.mem_append_left _ (List.mem_append_right _ h))) (by decide +kernel))) (goodIn_sub (fun _ h => List.mem_cons_of_mem _ (List.mem_append_right _ h)) (by decide +kernel))
set_option maxRecDepth 20000 in
theorem gL_license_X4_license : GoodIn wsL_license (wsV RL 17 RX4 yX4_license wsX4_license) := goodIn_app (goodIn_of _ (by decide +kernel)) ggL_license_X4_license
theorem dL_license_0 : decode cL_license 0 = .ok (.aload_n 0, 1) := by decide +kernel
theorem dL_license_1 : decode cL_license 1 = .ok (.iload_n 1, 1) := by decide +kernel
theorem dL_license_2 : decode cL_license 2 = .ok (.iload_n 2, 1) := by decide +kernel
theorem dL_license_3 : decode cL_license 3 = .ok (.iload_n 3, 1) := by decide +kernel
theorem dL_license_4 : decode cL_license 4 = .ok (.invokevirtual 17, 3) := by decide +kernel
theorem dL_license_7 : decode cL_license 7 = .ok (.ireturn, 1) := by decide +kernel
theorem dL_license_8 : decode cL_license 8 = .ok (.astore 4, 2) := by decide +kernel
theorem dL_license_10 : decode cL_license 10 = .ok (.bipush (-3), 2) := by decide +kernel
theorem dL_license_12 : decode cL_license 12 = .ok (.ireturn, 1) := by decide +kernel
set_option maxRecDepth 20000 in
theorem ggL_press_X4_press : GoodIn wsL_press wsX4_press := goodIn_ca (goodIn_ca (goodIn_r _ [6, 7, 8, 9, 10, 11, 12, 5, 13, 14, 15, 16, 17, 18, 19, 20, 21, 22, 23, 24, 25, 26, 27, 28, 29, 30, 31, 32, 33, 34, 35, 36, 37, 38, 39, 40, 41, 42, 43, 44, 45, 46, 47, 48, 49, 50, 51, 52, 53, 54, 55, 56, 57, 58, 59, 60, 61, 62, 63, 64, 65, 66, 67, 68, 69, 70, 71, 72, 73, 74, 75, 76, 77, 78, 79, 80, 81, 82, 83, 84, 85, 86, 87, 88, 89, 90, 91, 92, 93, 94, 95, 96, 97, 98, 99, 100, 101, 102, 103, 104, 105, 106] (by decide +kernel) (by decide +kernel)) (goodIn_sub (fun _ h => List.mem_cons_of_mem _ (List.mem_append_left _ (List.mem_append_right _ h))) (by decide +kernel))) (goodIn_sub (fun _ h => List.mem_cons_of_mem _ (List.mem_append_right _ h)) (by decide +kernel))
set_option maxRecDepth 20000 in
theorem gL_press_X4_press : GoodIn wsL_press (wsV RL 21 RX4 yX4_press wsX4_press) := goodIn_app (goodIn_of _ (by decide +kernel)) ggL_press_X4_press
theorem dL_press_0 : decode cL_press 0 = .ok (.aload_n 0, 1) := by decide +kernel
theorem dL_press_1 : decode cL_press 1 = .ok (.iload_n 1, 1) := by decide +kernel
theorem dL_press_2 : decode cL_press 2 = .ok (.iload_n 2, 1) := by decide +kernel
theorem dL_press_3 : decode cL_press 3 = .ok (.invokevirtual 21, 3) := by decide +kernel
theorem dL_press_6 : decode cL_press 6 = .ok (.ireturn, 1) := by decide +kernel
theorem dL_press_7 : decode cL_press 7 = .ok (.astore_n 3, 1) := by decide +kernel
theorem dL_press_8 : decode cL_press 8 = .ok (.bipush (-3), 2) := by decide +kernel
theorem dL_press_10 : decode cL_press 10 = .ok (.ireturn, 1) := by decide +kernel
set_option maxRecDepth 20000 in
theorem ggL_fault_X4_fault : GoodIn wsL_fault wsX4_fault := goodIn_ca (goodIn_ca (goodIn_r _ [6, 7, 8, 9, 10, 11, 12, 13, 14, 15, 5, 16, 17, 18, 19, 20, 21, 22, 23, 24, 25, 26, 27, 28, 29, 30, 31, 32, 33, 34, 35, 36, 37, 38, 39, 40, 41, 42, 43, 44, 45, 46, 47, 48, 49, 50, 51, 52, 53, 54, 55, 56, 57, 58, 59, 60, 61, 62, 63, 64, 65, 66, 67, 68, 69, 70, 71, 72, 73, 74] (by decide +kernel) (by decide +kernel)) (goodIn_sub (fun _ h => List.mem_cons_of_mem _ (List.mem_append_left _ (List.mem_append_right _ h))) (by decide +kernel))) (goodIn_sub (fun _ h => List.mem_cons_of_mem _ (List.mem_append_right _ h)) (by decide +kernel))
set_option maxRecDepth 20000 in
theorem gL_fault_X4_fault : GoodIn wsL_fault (wsV RL 25 RX4 yX4_fault wsX4_fault) := goodIn_app (goodIn_of _ (by decide +kernel)) ggL_fault_X4_fault
theorem dL_fault_0 : decode cL_fault 0 = .ok (.aload_n 0, 1) := by decide +kernel
theorem dL_fault_1 : decode cL_fault 1 = .ok (.iload_n 1, 1) := by decide +kernel
theorem dL_fault_2 : decode cL_fault 2 = .ok (.invokevirtual 25, 3) := by decide +kernel
theorem dL_fault_5 : decode cL_fault 5 = .ok (.ireturn, 1) := by decide +kernel
theorem dL_fault_6 : decode cL_fault 6 = .ok (.astore_n 2, 1) := by decide +kernel
theorem dL_fault_7 : decode cL_fault 7 = .ok (.bipush (-3), 2) := by decide +kernel
theorem dL_fault_9 : decode cL_fault 9 = .ok (.ireturn, 1) := by decide +kernel
set_option maxRecDepth 20000 in
theorem ggL_repair_X4_repair : GoodIn wsL_repair wsX4_repair := goodIn_ca (goodIn_ca (goodIn_r _ [6, 7, 8, 9, 10, 11, 12, 13, 5, 14, 15, 16, 17, 18, 19, 20, 21, 22, 23, 24, 25, 26, 27, 28, 29, 30, 31, 32, 33, 34, 35, 36, 37, 38, 39, 40, 41, 42, 43] (by decide +kernel) (by decide +kernel)) (goodIn_sub (fun _ h => List.mem_cons_of_mem _ (List.mem_append_left _ (List.mem_append_right _ h))) (by decide +kernel))) (goodIn_sub (fun _ h => List.mem_cons_of_mem _ (List.mem_append_right _ h)) (by decide +kernel))
set_option maxRecDepth 20000 in
theorem gL_repair_X4_repair : GoodIn wsL_repair (wsV RL 29 RX4 yX4_repair wsX4_repair) := goodIn_app (goodIn_of _ (by decide +kernel)) ggL_repair_X4_repair
theorem dL_repair_0 : decode cL_repair 0 = .ok (.aload_n 0, 1) := by decide +kernel
theorem dL_repair_1 : decode cL_repair 1 = .ok (.iload_n 1, 1) := by decide +kernel
theorem dL_repair_2 : decode cL_repair 2 = .ok (.invokevirtual 29, 3) := by decide +kernel
theorem dL_repair_5 : decode cL_repair 5 = .ok (.ireturn, 1) := by decide +kernel
theorem dL_repair_6 : decode cL_repair 6 = .ok (.astore_n 2, 1) := by decide +kernel
theorem dL_repair_7 : decode cL_repair 7 = .ok (.bipush (-3), 2) := by decide +kernel
theorem dL_repair_9 : decode cL_repair 9 = .ok (.ireturn, 1) := by decide +kernel
theorem dL_bits_0 : decode cL_bits 0 = .ok (.iload_n 0, 1) := by decide +kernel
theorem dL_bits_1 : decode cL_bits 1 = .ok (.iconst 1, 1) := by decide +kernel
theorem dL_bits_2 : decode cL_bits 2 = .ok (.iand, 1) := by decide +kernel
theorem dL_bits_3 : decode cL_bits 3 = .ok (.iload_n 0, 1) := by decide +kernel
theorem dL_bits_4 : decode cL_bits 4 = .ok (.iconst 1, 1) := by decide +kernel
theorem dL_bits_5 : decode cL_bits 5 = .ok (.ishr, 1) := by decide +kernel
theorem dL_bits_6 : decode cL_bits 6 = .ok (.iconst 1, 1) := by decide +kernel
theorem dL_bits_7 : decode cL_bits 7 = .ok (.iand, 1) := by decide +kernel
theorem dL_bits_8 : decode cL_bits 8 = .ok (.iadd, 1) := by decide +kernel
theorem dL_bits_9 : decode cL_bits 9 = .ok (.iload_n 0, 1) := by decide +kernel
theorem dL_bits_10 : decode cL_bits 10 = .ok (.iconst 2, 1) := by decide +kernel
theorem dL_bits_11 : decode cL_bits 11 = .ok (.ishr, 1) := by decide +kernel
theorem dL_bits_12 : decode cL_bits 12 = .ok (.iconst 1, 1) := by decide +kernel
theorem dL_bits_13 : decode cL_bits 13 = .ok (.iand, 1) := by decide +kernel
theorem dL_bits_14 : decode cL_bits 14 = .ok (.iadd, 1) := by decide +kernel
theorem dL_bits_15 : decode cL_bits 15 = .ok (.ireturn, 1) := by decide +kernel
set_option maxRecDepth 20000 in
theorem ggL_holds_X4_time : GoodIn wsL_holds wsX4_time := goodIn_r _ [5, 6, 58, 59, 60, 61, 62, 63, 64] (by decide +kernel) (by decide +kernel)
set_option maxRecDepth 20000 in
theorem gL_holds_X4_time : GoodIn wsL_holds (wsV RL 32 RX4 yX4_time wsX4_time) := goodIn_app (goodIn_of _ (by decide +kernel)) ggL_holds_X4_time
set_option maxRecDepth 20000 in
theorem ggL_holds_X4_faults : GoodIn wsL_holds wsX4_faults := goodIn_r _ [10, 11, 58, 59, 60, 61, 62, 63, 64] (by decide +kernel) (by decide +kernel)
set_option maxRecDepth 20000 in
theorem gL_holds_X4_faults : GoodIn wsL_holds (wsV RL 36 RX4 yX4_faults wsX4_faults) := goodIn_app (goodIn_of _ (by decide +kernel)) ggL_holds_X4_faults
set_option maxRecDepth 20000 in
theorem ggL_holds_X4_faultAt : GoodIn wsL_holds wsX4_faultAt := goodIn_ca (goodIn_r _ [15, 16, 17, 11, 18, 58, 59, 60, 61, 62, 63, 64] (by decide +kernel) (by decide +kernel)) (goodIn_sub (fun _ h => List.mem_cons_of_mem _ (List.mem_append_right _ h)) (by decide +kernel))
set_option maxRecDepth 20000 in
theorem gL_holds_X4_faultAt : GoodIn wsL_holds (wsV RL 39 RX4 yX4_faultAt wsX4_faultAt) := goodIn_app (goodIn_of _ (by decide +kernel)) ggL_holds_X4_faultAt
set_option maxRecDepth 20000 in
theorem ggL_holds_X4_points : GoodIn wsL_holds wsX4_points := goodIn_ca (goodIn_r _ [22, 23, 24, 25, 4, 26, 27, 28, 29, 30, 31, 16, 17, 65, 66, 67, 68, 69, 70, 71, 72, 73, 74, 75, 76, 77, 58, 59, 60, 61, 62, 63, 64] (by decide +kernel) (by decide +kernel)) (goodIn_sub (fun _ h => List.mem_cons_of_mem _ (List.mem_append_right _ h)) (by decide +kernel))
set_option maxRecDepth 20000 in
theorem gL_holds_X4_points : GoodIn wsL_holds (wsV RL 42 RX4 yX4_points wsX4_points) := goodIn_app (goodIn_of _ (by decide +kernel)) ggL_holds_X4_points
set_option maxRecDepth 20000 in
theorem ggL_holds_X4_isSound : GoodIn wsL_holds wsX4_isSound := goodIn_ca (goodIn_r _ [35, 23, 24, 25, 4, 26, 27, 28, 29, 30, 31, 16, 17, 65, 66, 67, 68, 69, 70, 71, 72, 73, 74, 75, 76, 77, 58, 59, 60, 61, 62, 63, 64] (by decide +kernel) (by decide +kernel)) (goodIn_sub (fun _ h => List.mem_cons_of_mem _ (List.mem_append_right _ h)) (by decide +kernel))
set_option maxRecDepth 20000 in
theorem gL_holds_X4_isSound : GoodIn wsL_holds (wsV RL 45 RX4 yX4_isSound wsX4_isSound) := goodIn_app (goodIn_of _ (by decide +kernel)) ggL_holds_X4_isSound
set_option maxRecDepth 20000 in
theorem ggL_holds_X4_ringing : GoodIn wsL_holds wsX4_ringing := goodIn_ca (goodIn_r _ [39, 23, 24, 25, 4, 26, 27, 28, 29, 30, 31, 16, 17, 40, 41, 42, 43, 44, 45, 58, 59, 60, 61, 62, 63, 64, 65, 66, 67, 68, 69, 70, 71, 72, 73, 74, 75, 76, 77, 78, 79, 80, 81] (by decide +kernel) (by decide +kernel)) (goodIn_sub (fun _ h => List.mem_cons_of_mem _ (List.mem_append_right _ h)) (by decide +kernel))
set_option maxRecDepth 20000 in
theorem gL_holds_X4_ringing : GoodIn wsL_holds (wsV RL 49 RX4 yX4_ringing wsX4_ringing) := goodIn_app (goodIn_of _ (by decide +kernel)) ggL_holds_X4_ringing
set_option maxRecDepth 20000 in
theorem ggL_holds_X4_quietBroken : GoodIn wsL_holds wsX4_quietBroken := goodIn_ca (goodIn_r _ [49, 23, 24, 25, 4, 26, 27, 28, 29, 30, 31, 16, 17, 65, 66, 67, 68, 69, 70, 71, 72, 73, 74, 75, 76, 77, 58, 59, 60, 61, 62, 63, 64] (by decide +kernel) (by decide +kernel)) (goodIn_sub (fun _ h => List.mem_cons_of_mem _ (List.mem_append_right _ h)) (by decide +kernel))
set_option maxRecDepth 20000 in
theorem gL_holds_X4_quietBroken : GoodIn wsL_holds (wsV RL 52 RX4 yX4_quietBroken wsX4_quietBroken) := goodIn_app (goodIn_of _ (by decide +kernel)) ggL_holds_X4_quietBroken
set_option maxRecDepth 20000 in
theorem ggL_holds_X4_secondsRung : GoodIn wsL_holds wsX4_secondsRung := goodIn_ca (goodIn_r _ [53, 23, 24, 25, 4, 26, 27, 28, 29, 30, 31, 16, 17, 65, 66, 67, 68, 69, 70, 71, 72, 73, 74, 75, 76, 77, 58, 59, 60, 61, 62, 63, 64] (by decide +kernel) (by decide +kernel)) (goodIn_sub (fun _ h => List.mem_cons_of_mem _ (List.mem_append_right _ h)) (by decide +kernel))
set_option maxRecDepth 20000 in
theorem gL_holds_X4_secondsRung : GoodIn wsL_holds (wsV RL 55 RX4 yX4_secondsRung wsX4_secondsRung) := goodIn_app (goodIn_of _ (by decide +kernel)) ggL_holds_X4_secondsRung
set_option maxRecDepth 20000 in
theorem ggL_holds_X4_hushed : GoodIn wsL_holds wsX4_hushed := goodIn_ca (goodIn_r _ [57, 23, 24, 25, 4, 26, 27, 28, 29, 30, 31, 16, 17, 65, 66, 67, 68, 69, 70, 71, 72, 73, 74, 75, 76, 77, 58, 59, 60, 61, 62, 63, 64] (by decide +kernel) (by decide +kernel)) (goodIn_sub (fun _ h => List.mem_cons_of_mem _ (List.mem_append_right _ h)) (by decide +kernel))
set_option maxRecDepth 20000 in
theorem gL_holds_X4_hushed : GoodIn wsL_holds (wsV RL 58 RX4 yX4_hushed wsX4_hushed) := goodIn_app (goodIn_of _ (by decide +kernel)) ggL_holds_X4_hushed
theorem dL_holds_0 : decode cL_holds 0 = .ok (.aload_n 0, 1) := by decide +kernel
theorem dL_holds_1 : decode cL_holds 1 = .ok (.invokevirtual 32, 3) := by decide +kernel
theorem dL_holds_4 : decode cL_holds 4 = .ok (.sipush 1000, 3) := by decide +kernel
theorem dL_holds_7 : decode cL_holds 7 = .ok (.idiv, 1) := by decide +kernel
theorem dL_holds_8 : decode cL_holds 8 = .ok (.istore_n 1, 1) := by decide +kernel
theorem dL_holds_9 : decode cL_holds 9 = .ok (.iconst 0, 1) := by decide +kernel
theorem dL_holds_10 : decode cL_holds 10 = .ok (.istore_n 2, 1) := by decide +kernel
theorem dL_holds_11 : decode cL_holds 11 = .ok (.aload_n 0, 1) := by decide +kernel
theorem dL_holds_12 : decode cL_holds 12 = .ok (.invokevirtual 36, 3) := by decide +kernel
theorem dL_holds_15 : decode cL_holds 15 = .ok (.ifCond .lt 16, 3) := by decide +kernel
theorem dL_holds_18 : decode cL_holds 18 = .ok (.aload_n 0, 1) := by decide +kernel
theorem dL_holds_19 : decode cL_holds 19 = .ok (.invokevirtual 36, 3) := by decide +kernel
theorem dL_holds_22 : decode cL_holds 22 = .ok (.bipush 100, 2) := by decide +kernel
theorem dL_holds_24 : decode cL_holds 24 = .ok (.if_icmp .gt 7, 3) := by decide +kernel
theorem dL_holds_27 : decode cL_holds 27 = .ok (.iconst 1, 1) := by decide +kernel
theorem dL_holds_28 : decode cL_holds 28 = .ok (.goto 4, 3) := by decide +kernel
theorem dL_holds_31 : decode cL_holds 31 = .ok (.iconst 0, 1) := by decide +kernel
theorem dL_holds_32 : decode cL_holds 32 = .ok (.istore_n 3, 1) := by decide +kernel
theorem dL_holds_33 : decode cL_holds 33 = .ok (.iconst 0, 1) := by decide +kernel
theorem dL_holds_34 : decode cL_holds 34 = .ok (.istore 4, 2) := by decide +kernel
theorem dL_holds_36 : decode cL_holds 36 = .ok (.iload 4, 2) := by decide +kernel
theorem dL_holds_38 : decode cL_holds 38 = .ok (.aload_n 0, 1) := by decide +kernel
theorem dL_holds_39 : decode cL_holds 39 = .ok (.invokevirtual 36, 3) := by decide +kernel
theorem dL_holds_42 : decode cL_holds 42 = .ok (.if_icmp .ge 102, 3) := by decide +kernel
theorem dL_holds_45 : decode cL_holds 45 = .ok (.iload_n 3, 1) := by decide +kernel
theorem dL_holds_46 : decode cL_holds 46 = .ok (.ifCond .eq 98, 3) := by decide +kernel
theorem dL_holds_49 : decode cL_holds 49 = .ok (.iload_n 2, 1) := by decide +kernel
theorem dL_holds_50 : decode cL_holds 50 = .ok (.aload_n 0, 1) := by decide +kernel
theorem dL_holds_51 : decode cL_holds 51 = .ok (.iload 4, 2) := by decide +kernel
theorem dL_holds_53 : decode cL_holds 53 = .ok (.invokevirtual 39, 3) := by decide +kernel
theorem dL_holds_56 : decode cL_holds 56 = .ok (.bipush 10, 2) := by decide +kernel
theorem dL_holds_58 : decode cL_holds 58 = .ok (.idiv, 1) := by decide +kernel
theorem dL_holds_59 : decode cL_holds 59 = .ok (.sipush 1000, 3) := by decide +kernel
theorem dL_holds_62 : decode cL_holds 62 = .ok (.iload_n 1, 1) := by decide +kernel
theorem dL_holds_63 : decode cL_holds 63 = .ok (.imul, 1) := by decide +kernel
theorem dL_holds_64 : decode cL_holds 64 = .ok (.if_icmp .ge 7, 3) := by decide +kernel
theorem dL_holds_67 : decode cL_holds 67 = .ok (.iconst 1, 1) := by decide +kernel
theorem dL_holds_68 : decode cL_holds 68 = .ok (.goto 4, 3) := by decide +kernel
theorem dL_holds_71 : decode cL_holds 71 = .ok (.iconst 0, 1) := by decide +kernel
theorem dL_holds_72 : decode cL_holds 72 = .ok (.iadd, 1) := by decide +kernel
theorem dL_holds_73 : decode cL_holds 73 = .ok (.istore_n 2, 1) := by decide +kernel
theorem dL_holds_74 : decode cL_holds 74 = .ok (.aload_n 0, 1) := by decide +kernel
theorem dL_holds_75 : decode cL_holds 75 = .ok (.iload 4, 2) := by decide +kernel
theorem dL_holds_77 : decode cL_holds 77 = .ok (.invokevirtual 39, 3) := by decide +kernel
theorem dL_holds_80 : decode cL_holds 80 = .ok (.bipush 10, 2) := by decide +kernel
theorem dL_holds_82 : decode cL_holds 82 = .ok (.irem, 1) := by decide +kernel
theorem dL_holds_83 : decode cL_holds 83 = .ok (.bipush 8, 2) := by decide +kernel
theorem dL_holds_85 : decode cL_holds 85 = .ok (.if_icmp .ge 51, 3) := by decide +kernel
theorem dL_holds_88 : decode cL_holds 88 = .ok (.aload_n 0, 1) := by decide +kernel
theorem dL_holds_89 : decode cL_holds 89 = .ok (.iload 4, 2) := by decide +kernel
theorem dL_holds_91 : decode cL_holds 91 = .ok (.invokevirtual 39, 3) := by decide +kernel
theorem dL_holds_94 : decode cL_holds 94 = .ok (.bipush 10, 2) := by decide +kernel
theorem dL_holds_96 : decode cL_holds 96 = .ok (.idiv, 1) := by decide +kernel
theorem dL_holds_97 : decode cL_holds 97 = .ok (.aload_n 0, 1) := by decide +kernel
theorem dL_holds_98 : decode cL_holds 98 = .ok (.invokevirtual 32, 3) := by decide +kernel
theorem dL_holds_101 : decode cL_holds 101 = .ok (.if_icmp .gt 35, 3) := by decide +kernel
theorem dL_holds_104 : decode cL_holds 104 = .ok (.iload 4, 2) := by decide +kernel
theorem dL_holds_106 : decode cL_holds 106 = .ok (.ifCond .eq 26, 3) := by decide +kernel
theorem dL_holds_109 : decode cL_holds 109 = .ok (.aload_n 0, 1) := by decide +kernel
theorem dL_holds_110 : decode cL_holds 110 = .ok (.iload 4, 2) := by decide +kernel
theorem dL_holds_112 : decode cL_holds 112 = .ok (.iconst 1, 1) := by decide +kernel
theorem dL_holds_113 : decode cL_holds 113 = .ok (.isub, 1) := by decide +kernel
theorem dL_holds_114 : decode cL_holds 114 = .ok (.invokevirtual 39, 3) := by decide +kernel
theorem dL_holds_117 : decode cL_holds 117 = .ok (.bipush 10, 2) := by decide +kernel
theorem dL_holds_119 : decode cL_holds 119 = .ok (.idiv, 1) := by decide +kernel
theorem dL_holds_120 : decode cL_holds 120 = .ok (.aload_n 0, 1) := by decide +kernel
theorem dL_holds_121 : decode cL_holds 121 = .ok (.iload 4, 2) := by decide +kernel
theorem dL_holds_123 : decode cL_holds 123 = .ok (.invokevirtual 39, 3) := by decide +kernel
theorem dL_holds_126 : decode cL_holds 126 = .ok (.bipush 10, 2) := by decide +kernel
theorem dL_holds_128 : decode cL_holds 128 = .ok (.idiv, 1) := by decide +kernel
theorem dL_holds_129 : decode cL_holds 129 = .ok (.if_icmp .gt 7, 3) := by decide +kernel
theorem dL_holds_132 : decode cL_holds 132 = .ok (.iconst 1, 1) := by decide +kernel
theorem dL_holds_133 : decode cL_holds 133 = .ok (.goto 4, 3) := by decide +kernel
theorem dL_holds_136 : decode cL_holds 136 = .ok (.iconst 0, 1) := by decide +kernel
theorem dL_holds_137 : decode cL_holds 137 = .ok (.istore_n 3, 1) := by decide +kernel
theorem dL_holds_138 : decode cL_holds 138 = .ok (.iinc 4 1, 3) := by decide +kernel
theorem dL_holds_141 : decode cL_holds 141 = .ok (.goto (-105), 3) := by decide +kernel
theorem dL_holds_144 : decode cL_holds 144 = .ok (.iconst 0, 1) := by decide +kernel
theorem dL_holds_145 : decode cL_holds 145 = .ok (.istore 4, 2) := by decide +kernel
theorem dL_holds_147 : decode cL_holds 147 = .ok (.iconst 0, 1) := by decide +kernel
theorem dL_holds_148 : decode cL_holds 148 = .ok (.istore 5, 2) := by decide +kernel
theorem dL_holds_150 : decode cL_holds 150 = .ok (.iload 5, 2) := by decide +kernel
theorem dL_holds_152 : decode cL_holds 152 = .ok (.bipush 8, 2) := by decide +kernel
theorem dL_holds_154 : decode cL_holds 154 = .ok (.if_icmp .ge 104, 3) := by decide +kernel
theorem dL_holds_157 : decode cL_holds 157 = .ok (.iload_n 3, 1) := by decide +kernel
theorem dL_holds_158 : decode cL_holds 158 = .ok (.ifCond .eq 100, 3) := by decide +kernel
theorem dL_holds_161 : decode cL_holds 161 = .ok (.iload 4, 2) := by decide +kernel
theorem dL_holds_163 : decode cL_holds 163 = .ok (.aload_n 0, 1) := by decide +kernel
theorem dL_holds_164 : decode cL_holds 164 = .ok (.iload 5, 2) := by decide +kernel
theorem dL_holds_166 : decode cL_holds 166 = .ok (.invokevirtual 42, 3) := by decide +kernel
theorem dL_holds_169 : decode cL_holds 169 = .ok (.iadd, 1) := by decide +kernel
theorem dL_holds_170 : decode cL_holds 170 = .ok (.istore 4, 2) := by decide +kernel
theorem dL_holds_172 : decode cL_holds 172 = .ok (.aload_n 0, 1) := by decide +kernel
theorem dL_holds_173 : decode cL_holds 173 = .ok (.iload 5, 2) := by decide +kernel
theorem dL_holds_175 : decode cL_holds 175 = .ok (.invokevirtual 45, 3) := by decide +kernel
theorem dL_holds_178 : decode cL_holds 178 = .ok (.ifCond .ne 12, 3) := by decide +kernel
theorem dL_holds_181 : decode cL_holds 181 = .ok (.aload_n 0, 1) := by decide +kernel
theorem dL_holds_182 : decode cL_holds 182 = .ok (.iload 5, 2) := by decide +kernel
theorem dL_holds_184 : decode cL_holds 184 = .ok (.invokevirtual 49, 3) := by decide +kernel
theorem dL_holds_187 : decode cL_holds 187 = .ok (.ifCond .ne 63, 3) := by decide +kernel
theorem dL_holds_190 : decode cL_holds 190 = .ok (.aload_n 0, 1) := by decide +kernel
theorem dL_holds_191 : decode cL_holds 191 = .ok (.iload 5, 2) := by decide +kernel
theorem dL_holds_193 : decode cL_holds 193 = .ok (.invokevirtual 52, 3) := by decide +kernel
theorem dL_holds_196 : decode cL_holds 196 = .ok (.ifCond .lt 54, 3) := by decide +kernel
theorem dL_holds_199 : decode cL_holds 199 = .ok (.aload_n 0, 1) := by decide +kernel
theorem dL_holds_200 : decode cL_holds 200 = .ok (.iload 5, 2) := by decide +kernel
theorem dL_holds_202 : decode cL_holds 202 = .ok (.invokevirtual 52, 3) := by decide +kernel
theorem dL_holds_205 : decode cL_holds 205 = .ok (.aload_n 0, 1) := by decide +kernel
end
section
theorem dL_holds_206 : decode cL_holds 206 = .ok (.iload 5, 2) := by decide +kernel
theorem dL_holds_208 : decode cL_holds 208 = .ok (.invokevirtual 55, 3) := by decide +kernel
theorem dL_holds_211 : decode cL_holds 211 = .ok (.if_icmp .gt 39, 3) := by decide +kernel
theorem dL_holds_214 : decode cL_holds 214 = .ok (.aload_n 0, 1) := by decide +kernel
theorem dL_holds_215 : decode cL_holds 215 = .ok (.iload 5, 2) := by decide +kernel
theorem dL_holds_217 : decode cL_holds 217 = .ok (.invokevirtual 55, 3) := by decide +kernel
theorem dL_holds_220 : decode cL_holds 220 = .ok (.aload_n 0, 1) := by decide +kernel
theorem dL_holds_221 : decode cL_holds 221 = .ok (.invokevirtual 32, 3) := by decide +kernel
theorem dL_holds_224 : decode cL_holds 224 = .ok (.if_icmp .gt 26, 3) := by decide +kernel
theorem dL_holds_227 : decode cL_holds 227 = .ok (.aload_n 0, 1) := by decide +kernel
theorem dL_holds_228 : decode cL_holds 228 = .ok (.iload 5, 2) := by decide +kernel
theorem dL_holds_230 : decode cL_holds 230 = .ok (.invokevirtual 42, 3) := by decide +kernel
theorem dL_holds_233 : decode cL_holds 233 = .ok (.iload_n 1, 1) := by decide +kernel
theorem dL_holds_234 : decode cL_holds 234 = .ok (.if_icmp .gt 16, 3) := by decide +kernel
theorem dL_holds_237 : decode cL_holds 237 = .ok (.aload_n 0, 1) := by decide +kernel
theorem dL_holds_238 : decode cL_holds 238 = .ok (.iload 5, 2) := by decide +kernel
theorem dL_holds_240 : decode cL_holds 240 = .ok (.invokevirtual 58, 3) := by decide +kernel
theorem dL_holds_243 : decode cL_holds 243 = .ok (.ifCond .lt 7, 3) := by decide +kernel
theorem dL_holds_246 : decode cL_holds 246 = .ok (.iconst 1, 1) := by decide +kernel
theorem dL_holds_247 : decode cL_holds 247 = .ok (.goto 4, 3) := by decide +kernel
theorem dL_holds_250 : decode cL_holds 250 = .ok (.iconst 0, 1) := by decide +kernel
theorem dL_holds_251 : decode cL_holds 251 = .ok (.istore_n 3, 1) := by decide +kernel
theorem dL_holds_252 : decode cL_holds 252 = .ok (.iinc 5 1, 3) := by decide +kernel
theorem dL_holds_255 : decode cL_holds 255 = .ok (.goto (-105), 3) := by decide +kernel
theorem dL_holds_258 : decode cL_holds 258 = .ok (.iload_n 3, 1) := by decide +kernel
theorem dL_holds_259 : decode cL_holds 259 = .ok (.ifCond .eq 20, 3) := by decide +kernel
theorem dL_holds_262 : decode cL_holds 262 = .ok (.iload 4, 2) := by decide +kernel
theorem dL_holds_264 : decode cL_holds 264 = .ok (.bipush 8, 2) := by decide +kernel
theorem dL_holds_266 : decode cL_holds 266 = .ok (.iload_n 1, 1) := by decide +kernel
theorem dL_holds_267 : decode cL_holds 267 = .ok (.imul, 1) := by decide +kernel
theorem dL_holds_268 : decode cL_holds 268 = .ok (.iconst 3, 1) := by decide +kernel
theorem dL_holds_269 : decode cL_holds 269 = .ok (.iload_n 2, 1) := by decide +kernel
theorem dL_holds_270 : decode cL_holds 270 = .ok (.imul, 1) := by decide +kernel
theorem dL_holds_271 : decode cL_holds 271 = .ok (.isub, 1) := by decide +kernel
theorem dL_holds_272 : decode cL_holds 272 = .ok (.if_icmp .gt 7, 3) := by decide +kernel
theorem dL_holds_275 : decode cL_holds 275 = .ok (.iconst 1, 1) := by decide +kernel
theorem dL_holds_276 : decode cL_holds 276 = .ok (.goto 4, 3) := by decide +kernel
theorem dL_holds_279 : decode cL_holds 279 = .ok (.iconst 0, 1) := by decide +kernel
theorem dL_holds_280 : decode cL_holds 280 = .ok (.ireturn, 1) := by decide +kernel
set_option maxRecDepth 20000 in
theorem ggL_melodies_X4_areAlike : GoodIn wsL_melodies wsX4_areAlike := goodIn_ca (goodIn_r _ [6, 7, 8, 9, 5, 10, 11, 12, 13, 14, 15, 16, 17, 18, 19, 20, 21, 22, 23, 24, 25, 26, 27, 28, 49, 50, 51, 52, 53, 54, 55, 56, 57, 58, 59] (by decide +kernel) (by decide +kernel)) (goodIn_sub (fun _ h => List.mem_cons_of_mem _ (List.mem_append_left _ (List.mem_append_right _ h))) (by decide +kernel))
set_option maxRecDepth 20000 in
theorem gL_melodies_X4_areAlike : GoodIn wsL_melodies (wsV RL 61 RX4 yX4_areAlike wsX4_areAlike) := goodIn_app (goodIn_of _ (by decide +kernel)) ggL_melodies_X4_areAlike
set_option maxRecDepth 20000 in
theorem ggL_melodies_X4_shifted : GoodIn wsL_melodies wsX4_shifted := goodIn_ca (goodIn_ca (goodIn_r _ [32, 33, 34, 7, 8, 9, 5, 10, 11, 12, 13, 35, 26, 27, 17, 28, 19, 21, 22, 23, 24, 20, 49, 50, 51, 52, 53, 54, 55, 56, 57, 58, 59] (by decide +kernel) (by decide +kernel)) (goodIn_sub (fun _ h => List.mem_cons_of_mem _ (List.mem_append_right _ h)) (by decide +kernel))) (goodIn_sub (fun _ h => List.mem_cons_of_mem _ (List.mem_append_left _ (List.mem_append_right _ h))) (by decide +kernel))
set_option maxRecDepth 20000 in
theorem gL_melodies_X4_shifted : GoodIn wsL_melodies (wsV RL 65 RX4 yX4_shifted wsX4_shifted) := goodIn_app (goodIn_of _ (by decide +kernel)) ggL_melodies_X4_shifted
set_option maxRecDepth 20000 in
theorem ggL_melodies_X4_toneAt : GoodIn wsL_melodies wsX4_toneAt := goodIn_ca (goodIn_r _ [39, 11, 12, 7, 8, 9, 5, 10, 13, 40, 22, 23, 17, 24, 20, 56, 57, 58, 59, 49, 50, 51, 52, 53, 54, 55] (by decide +kernel) (by decide +kernel)) (goodIn_sub (fun _ h => List.mem_cons_of_mem _ (List.mem_append_left _ (List.mem_append_right _ h))) (by decide +kernel))
set_option maxRecDepth 20000 in
theorem gL_melodies_X4_toneAt : GoodIn wsL_melodies (wsV RL 69 RX4 yX4_toneAt wsX4_toneAt) := goodIn_app (goodIn_of _ (by decide +kernel)) ggL_melodies_X4_toneAt
set_option maxRecDepth 20000 in
theorem ggL_melodies_X4_turned : GoodIn wsL_melodies wsX4_turned := goodIn_ca (goodIn_r _ [44, 7, 8, 9, 5, 10, 11, 12, 13, 45, 46, 47, 17, 48, 19, 21, 22, 23, 24, 20, 49, 50, 51, 52, 53, 54, 55, 56, 57, 58, 59] (by decide +kernel) (by decide +kernel)) (goodIn_sub (fun _ h => List.mem_cons_of_mem _ (List.mem_append_left _ (List.mem_append_right _ h))) (by decide +kernel))
set_option maxRecDepth 20000 in
theorem gL_melodies_X4_turned : GoodIn wsL_melodies (wsV RL 74 RX4 yX4_turned wsX4_turned) := goodIn_app (goodIn_of _ (by decide +kernel)) ggL_melodies_X4_turned
theorem dL_melodies_0 : decode cL_melodies 0 = .ok (.aload_n 0, 1) := by decide +kernel
theorem dL_melodies_1 : decode cL_melodies 1 = .ok (.iload_n 1, 1) := by decide +kernel
theorem dL_melodies_2 : decode cL_melodies 2 = .ok (.iload_n 1, 1) := by decide +kernel
theorem dL_melodies_3 : decode cL_melodies 3 = .ok (.invokevirtual 61, 3) := by decide +kernel
theorem dL_melodies_6 : decode cL_melodies 6 = .ok (.ifCond .eq 18, 3) := by decide +kernel
theorem dL_melodies_9 : decode cL_melodies 9 = .ok (.aload_n 0, 1) := by decide +kernel
theorem dL_melodies_10 : decode cL_melodies 10 = .ok (.iload_n 1, 1) := by decide +kernel
theorem dL_melodies_11 : decode cL_melodies 11 = .ok (.iconst 0, 1) := by decide +kernel
theorem dL_melodies_12 : decode cL_melodies 12 = .ok (.invokevirtual 65, 3) := by decide +kernel
theorem dL_melodies_15 : decode cL_melodies 15 = .ok (.lload_n 3, 1) := by decide +kernel
theorem dL_melodies_16 : decode cL_melodies 16 = .ok (.lcmp, 1) := by decide +kernel
theorem dL_melodies_17 : decode cL_melodies 17 = .ok (.ifCond .ne 7, 3) := by decide +kernel
theorem dL_melodies_20 : decode cL_melodies 20 = .ok (.iconst 1, 1) := by decide +kernel
theorem dL_melodies_21 : decode cL_melodies 21 = .ok (.goto 4, 3) := by decide +kernel
theorem dL_melodies_24 : decode cL_melodies 24 = .ok (.iconst 0, 1) := by decide +kernel
theorem dL_melodies_25 : decode cL_melodies 25 = .ok (.istore 6, 2) := by decide +kernel
theorem dL_melodies_27 : decode cL_melodies 27 = .ok (.lconst 0, 1) := by decide +kernel
theorem dL_melodies_28 : decode cL_melodies 28 = .ok (.lstore 7, 2) := by decide +kernel
theorem dL_melodies_30 : decode cL_melodies 30 = .ok (.iconst 0, 1) := by decide +kernel
theorem dL_melodies_31 : decode cL_melodies 31 = .ok (.istore 9, 2) := by decide +kernel
theorem dL_melodies_33 : decode cL_melodies 33 = .ok (.iload 9, 2) := by decide +kernel
theorem dL_melodies_35 : decode cL_melodies 35 = .ok (.iload_n 2, 1) := by decide +kernel
theorem dL_melodies_36 : decode cL_melodies 36 = .ok (.if_icmp .ge 91, 3) := by decide +kernel
theorem dL_melodies_39 : decode cL_melodies 39 = .ok (.iload 6, 2) := by decide +kernel
theorem dL_melodies_41 : decode cL_melodies 41 = .ok (.ifCond .eq 86, 3) := by decide +kernel
theorem dL_melodies_44 : decode cL_melodies 44 = .ok (.aload_n 0, 1) := by decide +kernel
theorem dL_melodies_45 : decode cL_melodies 45 = .ok (.iload_n 1, 1) := by decide +kernel
theorem dL_melodies_46 : decode cL_melodies 46 = .ok (.iload 9, 2) := by decide +kernel
theorem dL_melodies_48 : decode cL_melodies 48 = .ok (.invokevirtual 69, 3) := by decide +kernel
theorem dL_melodies_51 : decode cL_melodies 51 = .ok (.lload_n 3, 1) := by decide +kernel
theorem dL_melodies_52 : decode cL_melodies 52 = .ok (.iconst 4, 1) := by decide +kernel
theorem dL_melodies_53 : decode cL_melodies 53 = .ok (.iload 9, 2) := by decide +kernel
theorem dL_melodies_55 : decode cL_melodies 55 = .ok (.imul, 1) := by decide +kernel
theorem dL_melodies_56 : decode cL_melodies 56 = .ok (.lshr, 1) := by decide +kernel
theorem dL_melodies_57 : decode cL_melodies 57 = .ok (.ldc2_w 72, 3) := by decide +kernel
theorem dL_melodies_60 : decode cL_melodies 60 = .ok (.land, 1) := by decide +kernel
theorem dL_melodies_61 : decode cL_melodies 61 = .ok (.l2i, 1) := by decide +kernel
theorem dL_melodies_62 : decode cL_melodies 62 = .ok (.if_icmp .ne 41, 3) := by decide +kernel
theorem dL_melodies_65 : decode cL_melodies 65 = .ok (.aload_n 0, 1) := by decide +kernel
theorem dL_melodies_66 : decode cL_melodies 66 = .ok (.iload_n 1, 1) := by decide +kernel
theorem dL_melodies_67 : decode cL_melodies 67 = .ok (.iload 5, 2) := by decide +kernel
theorem dL_melodies_69 : decode cL_melodies 69 = .ok (.invokevirtual 65, 3) := by decide +kernel
theorem dL_melodies_72 : decode cL_melodies 72 = .ok (.iconst 4, 1) := by decide +kernel
theorem dL_melodies_73 : decode cL_melodies 73 = .ok (.iload 9, 2) := by decide +kernel
theorem dL_melodies_75 : decode cL_melodies 75 = .ok (.imul, 1) := by decide +kernel
theorem dL_melodies_76 : decode cL_melodies 76 = .ok (.lshr, 1) := by decide +kernel
theorem dL_melodies_77 : decode cL_melodies 77 = .ok (.ldc2_w 72, 3) := by decide +kernel
theorem dL_melodies_80 : decode cL_melodies 80 = .ok (.land, 1) := by decide +kernel
theorem dL_melodies_81 : decode cL_melodies 81 = .ok (.aload_n 0, 1) := by decide +kernel
theorem dL_melodies_82 : decode cL_melodies 82 = .ok (.iload_n 1, 1) := by decide +kernel
theorem dL_melodies_83 : decode cL_melodies 83 = .ok (.iload 9, 2) := by decide +kernel
theorem dL_melodies_85 : decode cL_melodies 85 = .ok (.invokevirtual 69, 3) := by decide +kernel
theorem dL_melodies_88 : decode cL_melodies 88 = .ok (.iload 5, 2) := by decide +kernel
theorem dL_melodies_90 : decode cL_melodies 90 = .ok (.iadd, 1) := by decide +kernel
theorem dL_melodies_91 : decode cL_melodies 91 = .ok (.bipush 16, 2) := by decide +kernel
theorem dL_melodies_93 : decode cL_melodies 93 = .ok (.irem, 1) := by decide +kernel
theorem dL_melodies_94 : decode cL_melodies 94 = .ok (.i2l, 1) := by decide +kernel
theorem dL_melodies_95 : decode cL_melodies 95 = .ok (.lcmp, 1) := by decide +kernel
theorem dL_melodies_96 : decode cL_melodies 96 = .ok (.ifCond .ne 7, 3) := by decide +kernel
theorem dL_melodies_99 : decode cL_melodies 99 = .ok (.iconst 1, 1) := by decide +kernel
theorem dL_melodies_100 : decode cL_melodies 100 = .ok (.goto 4, 3) := by decide +kernel
theorem dL_melodies_103 : decode cL_melodies 103 = .ok (.iconst 0, 1) := by decide +kernel
theorem dL_melodies_104 : decode cL_melodies 104 = .ok (.istore 6, 2) := by decide +kernel
theorem dL_melodies_106 : decode cL_melodies 106 = .ok (.lload 7, 2) := by decide +kernel
theorem dL_melodies_108 : decode cL_melodies 108 = .ok (.iconst 4, 1) := by decide +kernel
theorem dL_melodies_109 : decode cL_melodies 109 = .ok (.lshl, 1) := by decide +kernel
theorem dL_melodies_110 : decode cL_melodies 110 = .ok (.aload_n 0, 1) := by decide +kernel
theorem dL_melodies_111 : decode cL_melodies 111 = .ok (.iload_n 1, 1) := by decide +kernel
theorem dL_melodies_112 : decode cL_melodies 112 = .ok (.iload 9, 2) := by decide +kernel
theorem dL_melodies_114 : decode cL_melodies 114 = .ok (.invokevirtual 69, 3) := by decide +kernel
theorem dL_melodies_117 : decode cL_melodies 117 = .ok (.i2l, 1) := by decide +kernel
theorem dL_melodies_118 : decode cL_melodies 118 = .ok (.lor, 1) := by decide +kernel
theorem dL_melodies_119 : decode cL_melodies 119 = .ok (.lstore 7, 2) := by decide +kernel
theorem dL_melodies_121 : decode cL_melodies 121 = .ok (.iinc 9 1, 3) := by decide +kernel
theorem dL_melodies_124 : decode cL_melodies 124 = .ok (.goto (-91), 3) := by decide +kernel
theorem dL_melodies_127 : decode cL_melodies 127 = .ok (.iload 6, 2) := by decide +kernel
theorem dL_melodies_129 : decode cL_melodies 129 = .ok (.ifCond .eq 18, 3) := by decide +kernel
theorem dL_melodies_132 : decode cL_melodies 132 = .ok (.aload_n 0, 1) := by decide +kernel
theorem dL_melodies_133 : decode cL_melodies 133 = .ok (.iload_n 1, 1) := by decide +kernel
theorem dL_melodies_134 : decode cL_melodies 134 = .ok (.invokevirtual 74, 3) := by decide +kernel
theorem dL_melodies_137 : decode cL_melodies 137 = .ok (.lload 7, 2) := by decide +kernel
theorem dL_melodies_139 : decode cL_melodies 139 = .ok (.lcmp, 1) := by decide +kernel
theorem dL_melodies_140 : decode cL_melodies 140 = .ok (.ifCond .ne 7, 3) := by decide +kernel
theorem dL_melodies_143 : decode cL_melodies 143 = .ok (.iconst 1, 1) := by decide +kernel
theorem dL_melodies_144 : decode cL_melodies 144 = .ok (.goto 4, 3) := by decide +kernel
theorem dL_melodies_147 : decode cL_melodies 147 = .ok (.iconst 0, 1) := by decide +kernel
theorem dL_melodies_148 : decode cL_melodies 148 = .ok (.ireturn, 1) := by decide +kernel
set_option maxRecDepth 20000 in
theorem ggL_presses_X4_ringing : GoodIn wsL_presses wsX4_ringing := goodIn_ca (goodIn_r _ [5, 6, 7, 8, 4, 9, 10, 11, 12, 13, 14, 15, 16, 17, 18, 19, 20, 21, 22, 99, 100, 101, 102, 103, 104, 105, 106, 107, 108, 109, 110, 111, 112, 113, 114, 115, 116, 117, 118, 119, 120, 121, 122] (by decide +kernel) (by decide +kernel)) (goodIn_sub (fun _ h => List.mem_cons_of_mem _ (List.mem_append_left _ (List.mem_append_right _ h))) (by decide +kernel))
set_option maxRecDepth 20000 in
theorem gL_presses_X4_ringing : GoodIn wsL_presses (wsV RL 49 RX4 yX4_ringing wsX4_ringing) := goodIn_app (goodIn_of _ (by decide +kernel)) ggL_presses_X4_ringing
set_option maxRecDepth 20000 in
theorem ggL_presses_X4_hushed : GoodIn wsL_presses wsX4_hushed := goodIn_ca (goodIn_r _ [26, 6, 7, 8, 4, 9, 10, 11, 12, 13, 14, 15, 16, 106, 107, 108, 109, 110, 111, 112, 113, 114, 115, 116, 117, 118, 99, 100, 101, 102, 103, 104, 105] (by decide +kernel) (by decide +kernel)) (goodIn_sub (fun _ h => List.mem_cons_of_mem _ (List.mem_append_left _ (List.mem_append_right _ h))) (by decide +kernel))
set_option maxRecDepth 20000 in
theorem gL_presses_X4_hushed : GoodIn wsL_presses (wsV RL 58 RX4 yX4_hushed wsX4_hushed) := goodIn_app (goodIn_of _ (by decide +kernel)) ggL_presses_X4_hushed
set_option maxRecDepth 20000 in
theorem ggL_presses_X4_isSound : GoodIn wsL_presses wsX4_isSound := goodIn_ca (goodIn_r _ [30, 6, 7, 8, 4, 9, 10, 11, 12, 13, 14, 15, 16, 106, 107, 108, 109, 110, 111, 112, 113, 114, 115, 116, 117, 118, 99, 100, 101, 102, 103, 104, 105] (by decide +kernel) (by decide +kernel)) (goodIn_sub (fun _ h => List.mem_cons_of_mem _ (List.mem_append_left _ (List.mem_append_right _ h))) (by decide +kernel))
set_option maxRecDepth 20000 in
theorem gL_presses_X4_isSound : GoodIn wsL_presses (wsV RL 45 RX4 yX4_isSound wsX4_isSound) := goodIn_app (goodIn_of _ (by decide +kernel)) ggL_presses_X4_isSound
set_option maxRecDepth 20000 in
theorem ggL_presses_L_press : GoodIn wsL_presses wsL_press := goodIn_ca (goodIn_ca (goodIn_r _ [34, 35, 36, 37, 38, 4, 39, 40, 41, 42, 6, 7, 8, 9, 10, 11, 12, 13, 14, 15, 16, 43, 44, 45, 46, 47, 48, 49, 20, 50, 51, 52, 53, 54, 55, 56, 57, 58, 59, 60, 61, 62, 63, 64, 65, 66, 67, 68, 69, 70, 71, 72, 73, 74, 75, 76, 22, 77, 78, 79, 80, 81, 82, 83, 84, 85, 86, 87, 88, 89, 90, 91, 92, 93, 94, 95, 96, 97, 98, 119, 120, 121, 122, 106, 107, 108, 109, 110, 111, 112, 113, 114, 115, 116, 117, 118, 99, 100, 101, 102, 103, 104, 105, 123, 124, 125, 126] (by decide +kernel) (by decide +kernel)) (goodIn_sub (fun _ h => List.mem_cons_of_mem _ (List.mem_append_right _ h)) (by decide +kernel))) (goodIn_sub (fun _ h => List.mem_cons_of_mem _ (List.mem_append_left _ (List.mem_append_right _ h))) (by decide +kernel))
set_option maxRecDepth 20000 in
theorem gL_presses_L_press : GoodIn wsL_presses (va_wsS RL 78 yL_press wsL_press) := goodIn_app (goodIn_of _ (by decide +kernel)) ggL_presses_L_press
theorem dL_presses_0 : decode cL_presses 0 = .ok (.aload_n 0, 1) := by decide +kernel
theorem dL_presses_1 : decode cL_presses 1 = .ok (.iload_n 1, 1) := by decide +kernel
theorem dL_presses_2 : decode cL_presses 2 = .ok (.invokevirtual 49, 3) := by decide +kernel
theorem dL_presses_5 : decode cL_presses 5 = .ok (.istore_n 3, 1) := by decide +kernel
theorem dL_presses_6 : decode cL_presses 6 = .ok (.aload_n 0, 1) := by decide +kernel
theorem dL_presses_7 : decode cL_presses 7 = .ok (.iload_n 1, 1) := by decide +kernel
theorem dL_presses_8 : decode cL_presses 8 = .ok (.invokevirtual 58, 3) := by decide +kernel
theorem dL_presses_11 : decode cL_presses 11 = .ok (.istore 4, 2) := by decide +kernel
theorem dL_presses_13 : decode cL_presses 13 = .ok (.aload_n 0, 1) := by decide +kernel
theorem dL_presses_14 : decode cL_presses 14 = .ok (.iload_n 1, 1) := by decide +kernel
theorem dL_presses_15 : decode cL_presses 15 = .ok (.invokevirtual 45, 3) := by decide +kernel
theorem dL_presses_18 : decode cL_presses 18 = .ok (.istore 5, 2) := by decide +kernel
theorem dL_presses_20 : decode cL_presses 20 = .ok (.aload_n 0, 1) := by decide +kernel
theorem dL_presses_21 : decode cL_presses 21 = .ok (.iload_n 1, 1) := by decide +kernel
theorem dL_presses_22 : decode cL_presses 22 = .ok (.iload_n 2, 1) := by decide +kernel
theorem dL_presses_23 : decode cL_presses 23 = .ok (.invokestatic 78, 3) := by decide +kernel
theorem dL_presses_26 : decode cL_presses 26 = .ok (.istore 6, 2) := by decide +kernel
theorem dL_presses_28 : decode cL_presses 28 = .ok (.aload_n 0, 1) := by decide +kernel
theorem dL_presses_29 : decode cL_presses 29 = .ok (.iload_n 1, 1) := by decide +kernel
theorem dL_presses_30 : decode cL_presses 30 = .ok (.invokevirtual 58, 3) := by decide +kernel
theorem dL_presses_33 : decode cL_presses 33 = .ok (.iload 4, 2) := by decide +kernel
theorem dL_presses_35 : decode cL_presses 35 = .ok (.iload 6, 2) := by decide +kernel
theorem dL_presses_37 : decode cL_presses 37 = .ok (.iconst 2, 1) := by decide +kernel
theorem dL_presses_38 : decode cL_presses 38 = .ok (.if_icmp .ne 7, 3) := by decide +kernel
theorem dL_presses_41 : decode cL_presses 41 = .ok (.iconst 1, 1) := by decide +kernel
theorem dL_presses_42 : decode cL_presses 42 = .ok (.goto 4, 3) := by decide +kernel
theorem dL_presses_45 : decode cL_presses 45 = .ok (.iconst 0, 1) := by decide +kernel
theorem dL_presses_46 : decode cL_presses 46 = .ok (.iadd, 1) := by decide +kernel
theorem dL_presses_47 : decode cL_presses 47 = .ok (.if_icmp .ne 31, 3) := by decide +kernel
theorem dL_presses_50 : decode cL_presses 50 = .ok (.aload_n 0, 1) := by decide +kernel
theorem dL_presses_51 : decode cL_presses 51 = .ok (.iload_n 1, 1) := by decide +kernel
theorem dL_presses_52 : decode cL_presses 52 = .ok (.invokevirtual 45, 3) := by decide +kernel
theorem dL_presses_55 : decode cL_presses 55 = .ok (.iload 5, 2) := by decide +kernel
theorem dL_presses_57 : decode cL_presses 57 = .ok (.ifCond .eq 13, 3) := by decide +kernel
theorem dL_presses_60 : decode cL_presses 60 = .ok (.iload 6, 2) := by decide +kernel
theorem dL_presses_62 : decode cL_presses 62 = .ok (.iconst 3, 1) := by decide +kernel
theorem dL_presses_63 : decode cL_presses 63 = .ok (.if_icmp .eq 7, 3) := by decide +kernel
theorem dL_presses_66 : decode cL_presses 66 = .ok (.iconst 1, 1) := by decide +kernel
theorem dL_presses_67 : decode cL_presses 67 = .ok (.goto 4, 3) := by decide +kernel
theorem dL_presses_70 : decode cL_presses 70 = .ok (.iconst 0, 1) := by decide +kernel
theorem dL_presses_71 : decode cL_presses 71 = .ok (.if_icmp .ne 7, 3) := by decide +kernel
theorem dL_presses_74 : decode cL_presses 74 = .ok (.iconst 1, 1) := by decide +kernel
theorem dL_presses_75 : decode cL_presses 75 = .ok (.goto 4, 3) := by decide +kernel
theorem dL_presses_78 : decode cL_presses 78 = .ok (.iconst 0, 1) := by decide +kernel
theorem dL_presses_79 : decode cL_presses 79 = .ok (.istore 7, 2) := by decide +kernel
theorem dL_presses_81 : decode cL_presses 81 = .ok (.iload 7, 2) := by decide +kernel
theorem dL_presses_83 : decode cL_presses 83 = .ok (.ifCond .eq 72, 3) := by decide +kernel
theorem dL_presses_86 : decode cL_presses 86 = .ok (.iload 6, 2) := by decide +kernel
theorem dL_presses_88 : decode cL_presses 88 = .ok (.iconst 1, 1) := by decide +kernel
theorem dL_presses_89 : decode cL_presses 89 = .ok (.if_icmp .ne 36, 3) := by decide +kernel
theorem dL_presses_92 : decode cL_presses 92 = .ok (.iload_n 3, 1) := by decide +kernel
theorem dL_presses_93 : decode cL_presses 93 = .ok (.iload_n 2, 1) := by decide +kernel
theorem dL_presses_94 : decode cL_presses 94 = .ok (.ishr, 1) := by decide +kernel
theorem dL_presses_95 : decode cL_presses 95 = .ok (.iconst 1, 1) := by decide +kernel
theorem dL_presses_96 : decode cL_presses 96 = .ok (.iand, 1) := by decide +kernel
theorem dL_presses_97 : decode cL_presses 97 = .ok (.ifCond .ne 58, 3) := by decide +kernel
theorem dL_presses_100 : decode cL_presses 100 = .ok (.aload_n 0, 1) := by decide +kernel
theorem dL_presses_101 : decode cL_presses 101 = .ok (.iload_n 1, 1) := by decide +kernel
theorem dL_presses_102 : decode cL_presses 102 = .ok (.invokevirtual 49, 3) := by decide +kernel
theorem dL_presses_105 : decode cL_presses 105 = .ok (.iload_n 3, 1) := by decide +kernel
theorem dL_presses_106 : decode cL_presses 106 = .ok (.iconst 1, 1) := by decide +kernel
theorem dL_presses_107 : decode cL_presses 107 = .ok (.iload_n 2, 1) := by decide +kernel
theorem dL_presses_108 : decode cL_presses 108 = .ok (.ishl, 1) := by decide +kernel
theorem dL_presses_109 : decode cL_presses 109 = .ok (.ior, 1) := by decide +kernel
theorem dL_presses_110 : decode cL_presses 110 = .ok (.if_icmp .ne 45, 3) := by decide +kernel
theorem dL_presses_113 : decode cL_presses 113 = .ok (.aload_n 0, 1) := by decide +kernel
theorem dL_presses_114 : decode cL_presses 114 = .ok (.iload_n 1, 1) := by decide +kernel
theorem dL_presses_115 : decode cL_presses 115 = .ok (.iload_n 2, 1) := by decide +kernel
theorem dL_presses_116 : decode cL_presses 116 = .ok (.invokestatic 78, 3) := by decide +kernel
theorem dL_presses_119 : decode cL_presses 119 = .ok (.ifCond .ne 36, 3) := by decide +kernel
theorem dL_presses_122 : decode cL_presses 122 = .ok (.goto 29, 3) := by decide +kernel
theorem dL_presses_125 : decode cL_presses 125 = .ok (.iload 6, 2) := by decide +kernel
theorem dL_presses_127 : decode cL_presses 127 = .ok (.iconst 3, 1) := by decide +kernel
theorem dL_presses_128 : decode cL_presses 128 = .ok (.if_icmp .ne 14, 3) := by decide +kernel
theorem dL_presses_131 : decode cL_presses 131 = .ok (.aload_n 0, 1) := by decide +kernel
theorem dL_presses_132 : decode cL_presses 132 = .ok (.iload_n 1, 1) := by decide +kernel
theorem dL_presses_133 : decode cL_presses 133 = .ok (.invokevirtual 49, 3) := by decide +kernel
theorem dL_presses_136 : decode cL_presses 136 = .ok (.ifCond .ne 19, 3) := by decide +kernel
theorem dL_presses_139 : decode cL_presses 139 = .ok (.goto 12, 3) := by decide +kernel
theorem dL_presses_142 : decode cL_presses 142 = .ok (.aload_n 0, 1) := by decide +kernel
theorem dL_presses_143 : decode cL_presses 143 = .ok (.iload_n 1, 1) := by decide +kernel
theorem dL_presses_144 : decode cL_presses 144 = .ok (.invokevirtual 49, 3) := by decide +kernel
theorem dL_presses_147 : decode cL_presses 147 = .ok (.iload_n 3, 1) := by decide +kernel
theorem dL_presses_148 : decode cL_presses 148 = .ok (.if_icmp .ne 7, 3) := by decide +kernel
theorem dL_presses_151 : decode cL_presses 151 = .ok (.iconst 1, 1) := by decide +kernel
theorem dL_presses_152 : decode cL_presses 152 = .ok (.goto 4, 3) := by decide +kernel
theorem dL_presses_155 : decode cL_presses 155 = .ok (.iconst 0, 1) := by decide +kernel
theorem dL_presses_156 : decode cL_presses 156 = .ok (.ireturn, 1) := by decide +kernel
set_option maxRecDepth 20000 in
theorem ggL_faulty_X4_faults : GoodIn wsL_faulty wsX4_faults := goodIn_r _ [5, 6, 78, 79, 80, 81, 82, 83, 84] (by decide +kernel) (by decide +kernel)
set_option maxRecDepth 20000 in
theorem gL_faulty_X4_faults : GoodIn wsL_faulty (wsV RL 36 RX4 yX4_faults wsX4_faults) := goodIn_app (goodIn_of _ (by decide +kernel)) ggL_faulty_X4_faults
set_option maxRecDepth 20000 in
theorem ggL_faulty_X4_isSound : GoodIn wsL_faulty wsX4_isSound := goodIn_ca (goodIn_r _ [10, 11, 12, 13, 4, 14, 15, 16, 17, 18, 19, 20, 21, 85, 86, 87, 88, 89, 90, 91, 92, 93, 94, 95, 96, 97, 78, 79, 80, 81, 82, 83, 84] (by decide +kernel) (by decide +kernel)) (goodIn_sub (fun _ h => List.mem_cons_of_mem _ (List.mem_append_left _ (List.mem_append_right _ h))) (by decide +kernel))
set_option maxRecDepth 20000 in
theorem gL_faulty_X4_isSound : GoodIn wsL_faulty (wsV RL 45 RX4 yX4_isSound wsX4_isSound) := goodIn_app (goodIn_of _ (by decide +kernel)) ggL_faulty_X4_isSound
set_option maxRecDepth 20000 in
theorem ggL_faulty_X4_ringing : GoodIn wsL_faulty wsX4_ringing := goodIn_ca (goodIn_r _ [25, 11, 12, 13, 4, 14, 15, 16, 17, 18, 19, 20, 21, 26, 27, 28, 29, 30, 31, 78, 79, 80, 81, 82, 83, 84, 85, 86, 87, 88, 89, 90, 91, 92, 93, 94, 95, 96, 97, 98, 99, 100, 101] (by decide +kernel) (by decide +kernel)) (goodIn_sub (fun _ h => List.mem_cons_of_mem _ (List.mem_append_left _ (List.mem_append_right _ h))) (by decide +kernel))
set_option maxRecDepth 20000 in
theorem gL_faulty_X4_ringing : GoodIn wsL_faulty (wsV RL 49 RX4 yX4_ringing wsX4_ringing) := goodIn_app (goodIn_of _ (by decide +kernel)) ggL_faulty_X4_ringing
set_option maxRecDepth 20000 in
theorem ggL_faulty_L_bits : GoodIn wsL_faulty wsL_bits := goodIn_r _ [35] (by decide +kernel) (by decide +kernel)
set_option maxRecDepth 20000 in
theorem gL_faulty_L_bits : GoodIn wsL_faulty (va_wsS RL 83 yL_bits wsL_bits) := goodIn_app (goodIn_of _ (by decide +kernel)) ggL_faulty_L_bits
set_option maxRecDepth 20000 in
theorem ggL_faulty_L_fault : GoodIn wsL_faulty wsL_fault := goodIn_ca (goodIn_ca (goodIn_r _ [38, 39, 40, 41, 42, 4, 43, 44, 45, 6, 15, 46, 47, 11, 12, 13, 14, 16, 17, 18, 19, 20, 21, 48, 49, 50, 29, 51, 31, 52, 53, 54, 55, 56, 57, 58, 59, 60, 61, 62, 63, 64, 65, 66, 67, 68, 69, 85, 86, 87, 88, 89, 90, 91, 92, 93, 94, 95, 96, 97, 78, 79, 80, 81, 82, 83, 84, 98, 99, 100, 101, 102, 103, 104, 105] (by decide +kernel) (by decide +kernel)) (goodIn_sub (fun _ h => List.mem_cons_of_mem _ (List.mem_append_right _ h)) (by decide +kernel))) (goodIn_sub (fun _ h => List.mem_cons_of_mem _ (List.mem_append_left _ (List.mem_append_right _ h))) (by decide +kernel))
set_option maxRecDepth 20000 in
theorem gL_faulty_L_fault : GoodIn wsL_faulty (va_wsS RL 86 yL_fault wsL_fault) := goodIn_app (goodIn_of _ (by decide +kernel)) ggL_faulty_L_fault
set_option maxRecDepth 20000 in
theorem ggL_faulty_X4_faultAt : GoodIn wsL_faulty wsX4_faultAt := goodIn_ca (goodIn_r _ [73, 20, 21, 6, 47, 78, 79, 80, 81, 82, 83, 84] (by decide +kernel) (by decide +kernel)) (goodIn_sub (fun _ h => List.mem_cons_of_mem _ (List.mem_append_left _ (List.mem_append_right _ h))) (by decide +kernel))
set_option maxRecDepth 20000 in
theorem gL_faulty_X4_faultAt : GoodIn wsL_faulty (wsV RL 39 RX4 yX4_faultAt wsX4_faultAt) := goodIn_app (goodIn_of _ (by decide +kernel)) ggL_faulty_X4_faultAt
set_option maxRecDepth 20000 in
theorem ggL_faulty_X4_time : GoodIn wsL_faulty wsX4_time := goodIn_r _ [77, 46, 78, 79, 80, 81, 82, 83, 84] (by decide +kernel) (by decide +kernel)
set_option maxRecDepth 20000 in
theorem gL_faulty_X4_time : GoodIn wsL_faulty (wsV RL 32 RX4 yX4_time wsX4_time) := goodIn_app (goodIn_of _ (by decide +kernel)) ggL_faulty_X4_time
theorem dL_faulty_0 : decode cL_faulty 0 = .ok (.aload_n 0, 1) := by decide +kernel
theorem dL_faulty_1 : decode cL_faulty 1 = .ok (.invokevirtual 36, 3) := by decide +kernel
theorem dL_faulty_4 : decode cL_faulty 4 = .ok (.istore_n 2, 1) := by decide +kernel
theorem dL_faulty_5 : decode cL_faulty 5 = .ok (.iconst 0, 1) := by decide +kernel
theorem dL_faulty_6 : decode cL_faulty 6 = .ok (.istore_n 3, 1) := by decide +kernel
theorem dL_faulty_7 : decode cL_faulty 7 = .ok (.iconst 0, 1) := by decide +kernel
theorem dL_faulty_8 : decode cL_faulty 8 = .ok (.istore 4, 2) := by decide +kernel
theorem dL_faulty_10 : decode cL_faulty 10 = .ok (.aload_n 0, 1) := by decide +kernel
theorem dL_faulty_11 : decode cL_faulty 11 = .ok (.iload_n 1, 1) := by decide +kernel
theorem dL_faulty_12 : decode cL_faulty 12 = .ok (.invokevirtual 45, 3) := by decide +kernel
theorem dL_faulty_15 : decode cL_faulty 15 = .ok (.istore 5, 2) := by decide +kernel
theorem dL_faulty_17 : decode cL_faulty 17 = .ok (.iload_n 1, 1) := by decide +kernel
theorem dL_faulty_18 : decode cL_faulty 18 = .ok (.iconst 4, 1) := by decide +kernel
theorem dL_faulty_19 : decode cL_faulty 19 = .ok (.idiv, 1) := by decide +kernel
theorem dL_faulty_20 : decode cL_faulty 20 = .ok (.iconst 4, 1) := by decide +kernel
theorem dL_faulty_21 : decode cL_faulty 21 = .ok (.imul, 1) := by decide +kernel
theorem dL_faulty_22 : decode cL_faulty 22 = .ok (.istore 6, 2) := by decide +kernel
theorem dL_faulty_24 : decode cL_faulty 24 = .ok (.iload 6, 2) := by decide +kernel
theorem dL_faulty_26 : decode cL_faulty 26 = .ok (.iload_n 1, 1) := by decide +kernel
theorem dL_faulty_27 : decode cL_faulty 27 = .ok (.iconst 4, 1) := by decide +kernel
theorem dL_faulty_28 : decode cL_faulty 28 = .ok (.idiv, 1) := by decide +kernel
theorem dL_faulty_29 : decode cL_faulty 29 = .ok (.iconst 4, 1) := by decide +kernel
theorem dL_faulty_30 : decode cL_faulty 30 = .ok (.imul, 1) := by decide +kernel
theorem dL_faulty_31 : decode cL_faulty 31 = .ok (.iconst 4, 1) := by decide +kernel
theorem dL_faulty_32 : decode cL_faulty 32 = .ok (.iadd, 1) := by decide +kernel
theorem dL_faulty_33 : decode cL_faulty 33 = .ok (.if_icmp .ge 31, 3) := by decide +kernel
theorem dL_faulty_36 : decode cL_faulty 36 = .ok (.iload_n 3, 1) := by decide +kernel
theorem dL_faulty_37 : decode cL_faulty 37 = .ok (.iload 6, 2) := by decide +kernel
theorem dL_faulty_39 : decode cL_faulty 39 = .ok (.iload_n 1, 1) := by decide +kernel
theorem dL_faulty_40 : decode cL_faulty 40 = .ok (.if_icmp .ne 7, 3) := by decide +kernel
theorem dL_faulty_43 : decode cL_faulty 43 = .ok (.iconst 0, 1) := by decide +kernel
theorem dL_faulty_44 : decode cL_faulty 44 = .ok (.goto 12, 3) := by decide +kernel
theorem dL_faulty_47 : decode cL_faulty 47 = .ok (.aload_n 0, 1) := by decide +kernel
theorem dL_faulty_48 : decode cL_faulty 48 = .ok (.iload 6, 2) := by decide +kernel
theorem dL_faulty_50 : decode cL_faulty 50 = .ok (.invokevirtual 49, 3) := by decide +kernel
theorem dL_faulty_53 : decode cL_faulty 53 = .ok (.invokestatic 83, 3) := by decide +kernel
theorem dL_faulty_56 : decode cL_faulty 56 = .ok (.iadd, 1) := by decide +kernel
theorem dL_faulty_57 : decode cL_faulty 57 = .ok (.istore_n 3, 1) := by decide +kernel
theorem dL_faulty_58 : decode cL_faulty 58 = .ok (.iinc 6 1, 3) := by decide +kernel
theorem dL_faulty_61 : decode cL_faulty 61 = .ok (.goto (-37), 3) := by decide +kernel
theorem dL_faulty_64 : decode cL_faulty 64 = .ok (.aload_n 0, 1) := by decide +kernel
theorem dL_faulty_65 : decode cL_faulty 65 = .ok (.iload_n 1, 1) := by decide +kernel
theorem dL_faulty_66 : decode cL_faulty 66 = .ok (.invokestatic 86, 3) := by decide +kernel
theorem dL_faulty_69 : decode cL_faulty 69 = .ok (.istore 6, 2) := by decide +kernel
theorem dL_faulty_71 : decode cL_faulty 71 = .ok (.iload_n 1, 1) := by decide +kernel
theorem dL_faulty_72 : decode cL_faulty 72 = .ok (.iconst 4, 1) := by decide +kernel
theorem dL_faulty_73 : decode cL_faulty 73 = .ok (.idiv, 1) := by decide +kernel
theorem dL_faulty_74 : decode cL_faulty 74 = .ok (.iconst 4, 1) := by decide +kernel
theorem dL_faulty_75 : decode cL_faulty 75 = .ok (.imul, 1) := by decide +kernel
theorem dL_faulty_76 : decode cL_faulty 76 = .ok (.istore 7, 2) := by decide +kernel
theorem dL_faulty_78 : decode cL_faulty 78 = .ok (.iload 7, 2) := by decide +kernel
theorem dL_faulty_80 : decode cL_faulty 80 = .ok (.iload_n 1, 1) := by decide +kernel
theorem dL_faulty_81 : decode cL_faulty 81 = .ok (.iconst 4, 1) := by decide +kernel
theorem dL_faulty_82 : decode cL_faulty 82 = .ok (.idiv, 1) := by decide +kernel
theorem dL_faulty_83 : decode cL_faulty 83 = .ok (.iconst 4, 1) := by decide +kernel
theorem dL_faulty_84 : decode cL_faulty 84 = .ok (.imul, 1) := by decide +kernel
theorem dL_faulty_85 : decode cL_faulty 85 = .ok (.iconst 4, 1) := by decide +kernel
theorem dL_faulty_86 : decode cL_faulty 86 = .ok (.iadd, 1) := by decide +kernel
theorem dL_faulty_87 : decode cL_faulty 87 = .ok (.if_icmp .ge 33, 3) := by decide +kernel
theorem dL_faulty_90 : decode cL_faulty 90 = .ok (.iload 4, 2) := by decide +kernel
theorem dL_faulty_92 : decode cL_faulty 92 = .ok (.iload 7, 2) := by decide +kernel
theorem dL_faulty_94 : decode cL_faulty 94 = .ok (.iload_n 1, 1) := by decide +kernel
theorem dL_faulty_95 : decode cL_faulty 95 = .ok (.if_icmp .ne 7, 3) := by decide +kernel
theorem dL_faulty_98 : decode cL_faulty 98 = .ok (.iconst 0, 1) := by decide +kernel
theorem dL_faulty_99 : decode cL_faulty 99 = .ok (.goto 12, 3) := by decide +kernel
theorem dL_faulty_102 : decode cL_faulty 102 = .ok (.aload_n 0, 1) := by decide +kernel
theorem dL_faulty_103 : decode cL_faulty 103 = .ok (.iload 7, 2) := by decide +kernel
theorem dL_faulty_105 : decode cL_faulty 105 = .ok (.invokevirtual 49, 3) := by decide +kernel
theorem dL_faulty_108 : decode cL_faulty 108 = .ok (.invokestatic 83, 3) := by decide +kernel
theorem dL_faulty_111 : decode cL_faulty 111 = .ok (.iadd, 1) := by decide +kernel
theorem dL_faulty_112 : decode cL_faulty 112 = .ok (.istore 4, 2) := by decide +kernel
theorem dL_faulty_114 : decode cL_faulty 114 = .ok (.iinc 7 1, 3) := by decide +kernel
theorem dL_faulty_117 : decode cL_faulty 117 = .ok (.goto (-39), 3) := by decide +kernel
theorem dL_faulty_120 : decode cL_faulty 120 = .ok (.iload 6, 2) := by decide +kernel
theorem dL_faulty_122 : decode cL_faulty 122 = .ok (.bipush (-3), 2) := by decide +kernel
theorem dL_faulty_124 : decode cL_faulty 124 = .ok (.if_icmp .ne 30, 3) := by decide +kernel
theorem dL_faulty_127 : decode cL_faulty 127 = .ok (.aload_n 0, 1) := by decide +kernel
theorem dL_faulty_128 : decode cL_faulty 128 = .ok (.invokevirtual 36, 3) := by decide +kernel
theorem dL_faulty_131 : decode cL_faulty 131 = .ok (.iload_n 2, 1) := by decide +kernel
theorem dL_faulty_132 : decode cL_faulty 132 = .ok (.if_icmp .ne 18, 3) := by decide +kernel
theorem dL_faulty_135 : decode cL_faulty 135 = .ok (.iload 5, 2) := by decide +kernel
theorem dL_faulty_137 : decode cL_faulty 137 = .ok (.ifCond .eq 9, 3) := by decide +kernel
theorem dL_faulty_140 : decode cL_faulty 140 = .ok (.iload_n 2, 1) := by decide +kernel
theorem dL_faulty_141 : decode cL_faulty 141 = .ok (.bipush 100, 2) := by decide +kernel
theorem dL_faulty_143 : decode cL_faulty 143 = .ok (.if_icmp .ne 7, 3) := by decide +kernel
theorem dL_faulty_146 : decode cL_faulty 146 = .ok (.iconst 1, 1) := by decide +kernel
theorem dL_faulty_147 : decode cL_faulty 147 = .ok (.goto 61, 3) := by decide +kernel
theorem dL_faulty_150 : decode cL_faulty 150 = .ok (.iconst 0, 1) := by decide +kernel
theorem dL_faulty_151 : decode cL_faulty 151 = .ok (.goto 57, 3) := by decide +kernel
theorem dL_faulty_154 : decode cL_faulty 154 = .ok (.iload 5, 2) := by decide +kernel
theorem dL_faulty_156 : decode cL_faulty 156 = .ok (.ifCond .eq 51, 3) := by decide +kernel
theorem dL_faulty_159 : decode cL_faulty 159 = .ok (.iload 4, 2) := by decide +kernel
theorem dL_faulty_161 : decode cL_faulty 161 = .ok (.iload_n 3, 1) := by decide +kernel
theorem dL_faulty_162 : decode cL_faulty 162 = .ok (.isub, 1) := by decide +kernel
theorem dL_faulty_163 : decode cL_faulty 163 = .ok (.iload 6, 2) := by decide +kernel
theorem dL_faulty_165 : decode cL_faulty 165 = .ok (.if_icmp .ne 42, 3) := by decide +kernel
theorem dL_faulty_168 : decode cL_faulty 168 = .ok (.aload_n 0, 1) := by decide +kernel
theorem dL_faulty_169 : decode cL_faulty 169 = .ok (.iload_n 1, 1) := by decide +kernel
theorem dL_faulty_170 : decode cL_faulty 170 = .ok (.invokevirtual 45, 3) := by decide +kernel
theorem dL_faulty_173 : decode cL_faulty 173 = .ok (.ifCond .ne 34, 3) := by decide +kernel
theorem dL_faulty_176 : decode cL_faulty 176 = .ok (.aload_n 0, 1) := by decide +kernel
theorem dL_faulty_177 : decode cL_faulty 177 = .ok (.invokevirtual 36, 3) := by decide +kernel
theorem dL_faulty_180 : decode cL_faulty 180 = .ok (.iload_n 2, 1) := by decide +kernel
theorem dL_faulty_181 : decode cL_faulty 181 = .ok (.iconst 1, 1) := by decide +kernel
theorem dL_faulty_182 : decode cL_faulty 182 = .ok (.iadd, 1) := by decide +kernel
theorem dL_faulty_183 : decode cL_faulty 183 = .ok (.if_icmp .ne 24, 3) := by decide +kernel
theorem dL_faulty_186 : decode cL_faulty 186 = .ok (.aload_n 0, 1) := by decide +kernel
theorem dL_faulty_187 : decode cL_faulty 187 = .ok (.iload_n 2, 1) := by decide +kernel
theorem dL_faulty_188 : decode cL_faulty 188 = .ok (.invokevirtual 39, 3) := by decide +kernel
theorem dL_faulty_191 : decode cL_faulty 191 = .ok (.bipush 10, 2) := by decide +kernel
theorem dL_faulty_193 : decode cL_faulty 193 = .ok (.aload_n 0, 1) := by decide +kernel
theorem dL_faulty_194 : decode cL_faulty 194 = .ok (.invokevirtual 32, 3) := by decide +kernel
theorem dL_faulty_197 : decode cL_faulty 197 = .ok (.imul, 1) := by decide +kernel
theorem dL_faulty_198 : decode cL_faulty 198 = .ok (.iload_n 1, 1) := by decide +kernel
theorem dL_faulty_199 : decode cL_faulty 199 = .ok (.iadd, 1) := by decide +kernel
theorem dL_faulty_200 : decode cL_faulty 200 = .ok (.if_icmp .ne 7, 3) := by decide +kernel
theorem dL_faulty_203 : decode cL_faulty 203 = .ok (.iconst 1, 1) := by decide +kernel
theorem dL_faulty_204 : decode cL_faulty 204 = .ok (.goto 4, 3) := by decide +kernel
theorem dL_faulty_207 : decode cL_faulty 207 = .ok (.iconst 0, 1) := by decide +kernel
theorem dL_faulty_208 : decode cL_faulty 208 = .ok (.ireturn, 1) := by decide +kernel
set_option maxRecDepth 20000 in
theorem ggL_law_X4_init : GoodIn wsL_law wsX4_init := goodIn_r _ [6, 7, 8, 9, 10, 11, 12, 13, 14, 15, 16, 17, 18, 19, 20, 21, 22, 23, 24, 25, 26, 27, 28, 29, 30, 31, 32, 33, 34, 35, 36, 37, 38, 39, 40, 41, 42, 43, 44, 45, 46, 47, 48, 49, 50, 51, 52, 53, 54, 55, 56, 319, 320, 321, 322, 323, 324, 325, 326, 327, 328, 329, 330, 331, 332, 333, 334, 335, 336, 337, 338, 339, 340, 341, 342, 343, 344] (by decide +kernel) (by decide +kernel)
set_option maxRecDepth 20000 in
theorem gL_law_X4_init : GoodIn wsL_law (wsX4_init) := ggL_law_X4_init
set_option maxRecDepth 20000 in
theorem ggL_law_L_holds : GoodIn wsL_law wsL_holds := goodIn_ca (goodIn_r _ [60, 61, 62, 63, 2, 64, 20, 65, 66, 67, 68, 19, 69, 70, 71, 72, 73, 74, 17, 75, 76, 77, 78, 79, 80, 81, 82, 11, 83, 84, 85, 86, 87, 88, 89, 90, 91, 92, 93, 94, 95, 96, 97, 22, 98, 30, 99, 100, 101, 102, 103, 104, 105, 106, 107, 108, 109, 110, 319, 320, 321, 322, 323, 324, 325, 326, 327, 328, 329, 330, 331, 332, 333, 334, 335, 336, 337, 338, 341, 342, 343, 344] (by decide +kernel) (by decide +kernel)) (goodIn_sub (fun _ h => List.mem_append_left _ (List.mem_append_left _ (List.mem_append_right _ h))) (by decide +kernel))
set_option maxRecDepth 20000 in
theorem gL_law_L_holds : GoodIn wsL_law (va_wsS RL 90 yL_holds wsL_holds) := goodIn_app (goodIn_of _ (by decide +kernel)) ggL_law_L_holds
set_option maxRecDepth 20000 in
theorem ggL_law_X4_time : GoodIn wsL_law wsX4_time := goodIn_r _ [64, 20, 319, 320, 321, 322, 323, 324, 325] (by decide +kernel) (by decide +kernel)
set_option maxRecDepth 20000 in
theorem gL_law_X4_time : GoodIn wsL_law (wsV RL 32 RX4 yX4_time wsX4_time) := goodIn_app (goodIn_of _ (by decide +kernel)) ggL_law_X4_time
set_option maxRecDepth 20000 in
theorem ggL_law_L_cell : GoodIn wsL_law wsL_cell := goodIn_r _ [113, 114] (by decide +kernel) (by decide +kernel)
set_option maxRecDepth 20000 in
theorem gL_law_L_cell : GoodIn wsL_law (va_wsS RL 94 yL_cell wsL_cell) := goodIn_app (goodIn_of _ (by decide +kernel)) ggL_law_L_cell
set_option maxRecDepth 20000 in
theorem ggL_law_L_low : GoodIn wsL_law wsL_low := goodIn_r _ [117, 118] (by decide +kernel) (by decide +kernel)
set_option maxRecDepth 20000 in
theorem gL_law_L_low : GoodIn wsL_law (va_wsS RL 98 yL_low wsL_low) := goodIn_app (goodIn_of _ (by decide +kernel)) ggL_law_L_low
set_option maxRecDepth 20000 in
theorem ggL_law_L_melody : GoodIn wsL_law wsL_melody := goodIn_ca (goodIn_ca (goodIn_ca (goodIn_r _ [121, 122, 123, 124, 125, 2, 126, 127, 128, 129, 130, 18, 15, 14, 131, 132, 83, 84, 85, 86, 73, 74, 133, 134, 135, 136, 8, 9, 137, 138, 139, 140, 319, 320, 321, 322, 323, 324, 325, 345, 346, 347, 348] (by decide +kernel) (by decide +kernel)) (goodIn_sub (fun _ h => List.mem_append_left _ (List.mem_append_right _ h)) (by decide +kernel))) (goodIn_sub (fun _ h => List.mem_append_right _ h) (by decide +kernel))) (goodIn_sub (fun _ h => List.mem_append_left _ (List.mem_append_left _ (List.mem_append_right _ h))) (by decide +kernel))
set_option maxRecDepth 20000 in
theorem gL_law_L_melody : GoodIn wsL_law (va_wsS RL 102 yL_melody wsL_melody) := goodIn_app (goodIn_of _ (by decide +kernel)) ggL_law_L_melody
set_option maxRecDepth 20000 in
theorem ggL_law_L_melodies : GoodIn wsL_law wsL_melodies := goodIn_ca (goodIn_ca (goodIn_r _ [143, 144, 145, 146, 147, 2, 148, 149, 150, 151, 152, 73, 74, 15, 153, 154, 155, 132, 156, 139, 140, 157, 158, 159, 160, 161, 162, 163, 164, 165, 166, 167, 168, 127, 128, 169, 170, 171, 172, 173, 174, 175, 176, 177, 178, 179, 180, 181, 182, 319, 320, 321, 322, 323, 324, 325, 345, 346, 347, 348] (by decide +kernel) (by decide +kernel)) (goodIn_sub (fun _ h => List.mem_append_left _ (List.mem_append_left _ (List.mem_append_right _ h))) (by decide +kernel))) (goodIn_sub (fun _ h => List.mem_append_left _ (List.mem_append_right _ h)) (by decide +kernel))
set_option maxRecDepth 20000 in
theorem gL_law_L_melodies : GoodIn wsL_law (va_wsS RL 106 yL_melodies wsL_melodies) := goodIn_app (goodIn_of _ (by decide +kernel)) ggL_law_L_melodies
set_option maxRecDepth 20000 in
theorem ggL_law_X4_ringsLeft : GoodIn wsL_law wsX4_ringsLeft := goodIn_ca (goodIn_r _ [186, 79, 80, 81, 2, 82, 11, 83, 84, 85, 86, 73, 74, 149, 150, 151, 152, 15, 345, 346, 347, 348, 326, 327, 328, 329, 330, 331, 332, 333, 334, 335, 336, 337, 338, 319, 320, 321, 322, 323, 324, 325] (by decide +kernel) (by decide +kernel)) (goodIn_sub (fun _ h => List.mem_append_left _ (List.mem_append_left _ (List.mem_append_right _ h))) (by decide +kernel))
set_option maxRecDepth 20000 in
theorem gL_law_X4_ringsLeft : GoodIn wsL_law (wsV RL 110 RX4 yX4_ringsLeft wsX4_ringsLeft) := goodIn_app (goodIn_of _ (by decide +kernel)) ggL_law_X4_ringsLeft
set_option maxRecDepth 20000 in
theorem ggL_law_L_license : GoodIn wsL_law wsL_license := goodIn_ca (goodIn_ca (goodIn_ca (goodIn_r _ [189, 122, 190, 191, 192, 2, 193, 127, 128, 129, 130, 79, 80, 81, 82, 11, 83, 84, 85, 86, 73, 74, 149, 150, 151, 152, 15, 345, 346, 347, 348, 326, 327, 328, 329, 330, 331, 332, 333, 334, 335, 336, 337, 338, 319, 320, 321, 322, 323, 324, 325] (by decide +kernel) (by decide +kernel)) (goodIn_sub (fun _ h => List.mem_append_left _ (List.mem_append_right _ h)) (by decide +kernel))) (goodIn_sub (fun _ h => List.mem_append_right _ h) (by decide +kernel))) (goodIn_sub (fun _ h => List.mem_append_left _ (List.mem_append_left _ (List.mem_append_right _ h))) (by decide +kernel))
set_option maxRecDepth 20000 in
theorem gL_law_L_license : GoodIn wsL_law (va_wsS RL 113 yL_license wsL_license) := goodIn_app (goodIn_of _ (by decide +kernel)) ggL_law_L_license
set_option maxRecDepth 20000 in
theorem ggL_law_X4_lay : GoodIn wsL_law wsX4_lay := goodIn_ca (goodIn_ca (goodIn_r _ [197, 127, 128, 198, 199, 200, 2, 201, 73, 74, 79, 80, 81, 82, 11, 83, 84, 85, 86, 149, 150, 151, 152, 15, 341, 342, 343, 344, 345, 346, 347, 348, 326, 327, 328, 329, 330, 331, 332, 333, 334, 335, 336, 337, 338, 319, 320, 321, 322, 323, 324, 325] (by decide +kernel) (by decide +kernel)) (goodIn_sub (fun _ h => List.mem_append_left _ (List.mem_append_right _ h)) (by decide +kernel))) (goodIn_sub (fun _ h => List.mem_append_left _ (List.mem_append_left _ (List.mem_append_right _ h))) (by decide +kernel))
set_option maxRecDepth 20000 in
theorem gL_law_X4_lay : GoodIn wsL_law (wsV RL 116 RX4 yX4_lay wsX4_lay) := goodIn_app (goodIn_of _ (by decide +kernel)) ggL_law_X4_lay
set_option maxRecDepth 20000 in
theorem ggL_law_X4_ringing : GoodIn wsL_law wsX4_ringing := goodIn_ca (goodIn_r _ [94, 79, 80, 81, 2, 82, 11, 83, 84, 85, 86, 73, 74, 95, 96, 97, 22, 98, 30, 319, 320, 321, 322, 323, 324, 325, 326, 327, 328, 329, 330, 331, 332, 333, 334, 335, 336, 337, 338, 341, 342, 343, 344] (by decide +kernel) (by decide +kernel)) (goodIn_sub (fun _ h => List.mem_append_left _ (List.mem_append_left _ (List.mem_append_right _ h))) (by decide +kernel))
set_option maxRecDepth 20000 in
theorem gL_law_X4_ringing : GoodIn wsL_law (wsV RL 49 RX4 yX4_ringing wsX4_ringing) := goodIn_app (goodIn_of _ (by decide +kernel)) ggL_law_X4_ringing
set_option maxRecDepth 20000 in
theorem ggL_law_L_presses : GoodIn wsL_law wsL_presses := goodIn_ca (goodIn_ca (goodIn_r _ [204, 91, 92, 93, 2, 94, 79, 80, 81, 82, 11, 83, 84, 85, 86, 73, 74, 95, 96, 97, 22, 98, 30, 107, 108, 109, 110, 87, 88, 89, 90, 205, 206, 59, 207, 122, 208, 209, 210, 211, 129, 130, 20, 198, 199, 200, 201, 212, 213, 214, 215, 216, 217, 218, 219, 33, 34, 220, 221, 222, 223, 224, 225, 226, 227, 228, 229, 230, 231, 232, 233, 41, 31, 234, 235, 236, 237, 238, 239, 240, 241, 32, 242, 243, 244, 245, 246, 247, 248, 132, 249, 139, 250, 251, 252, 44, 253, 50, 51, 319, 320, 321, 322, 323, 324, 325, 326, 327, 328, 329, 330, 331, 332, 333, 334, 335, 336, 337, 338, 341, 342, 343, 344, 345, 346, 347, 348] (by decide +kernel) (by decide +kernel)) (goodIn_sub (fun _ h => List.mem_append_left _ (List.mem_append_left _ (List.mem_append_right _ h))) (by decide +kernel))) (goodIn_sub (fun _ h => List.mem_append_right _ h) (by decide +kernel))
set_option maxRecDepth 20000 in
theorem gL_law_L_presses : GoodIn wsL_law (va_wsS RL 120 yL_presses wsL_presses) := goodIn_app (goodIn_of _ (by decide +kernel)) ggL_law_L_presses
set_option maxRecDepth 20000 in
theorem ggL_law_L_faulty : GoodIn wsL_law wsL_faulty := goodIn_ca (goodIn_ca (goodIn_r _ [256, 65, 66, 67, 2, 68, 19, 87, 88, 89, 90, 79, 80, 81, 82, 11, 83, 84, 85, 86, 73, 74, 91, 92, 93, 94, 95, 96, 97, 22, 98, 30, 257, 258, 59, 259, 260, 261, 262, 122, 263, 264, 265, 266, 129, 130, 20, 17, 267, 268, 269, 270, 271, 247, 248, 132, 249, 139, 272, 251, 252, 44, 253, 50, 51, 238, 239, 240, 241, 32, 69, 70, 71, 72, 61, 62, 63, 64, 319, 320, 321, 322, 323, 324, 325, 326, 327, 328, 329, 330, 331, 332, 333, 334, 335, 336, 337, 338, 341, 342, 343, 344, 345, 346, 347, 348] (by decide +kernel) (by decide +kernel)) (goodIn_sub (fun _ h => List.mem_append_left _ (List.mem_append_left _ (List.mem_append_right _ h))) (by decide +kernel))) (goodIn_sub (fun _ h => List.mem_append_right _ h) (by decide +kernel))
set_option maxRecDepth 20000 in
theorem gL_law_L_faulty : GoodIn wsL_law (va_wsS RL 124 yL_faulty wsL_faulty) := goodIn_app (goodIn_of _ (by decide +kernel)) ggL_law_L_faulty
set_option maxRecDepth 20000 in
theorem ggL_law_X4_isSound : GoodIn wsL_law wsX4_isSound := goodIn_ca (goodIn_r _ [90, 79, 80, 81, 2, 82, 11, 83, 84, 85, 86, 73, 74, 326, 327, 328, 329, 330, 331, 332, 333, 334, 335, 336, 337, 338, 319, 320, 321, 322, 323, 324, 325] (by decide +kernel) (by decide +kernel)) (goodIn_sub (fun _ h => List.mem_append_left _ (List.mem_append_left _ (List.mem_append_right _ h))) (by decide +kernel))
set_option maxRecDepth 20000 in
theorem gL_law_X4_isSound : GoodIn wsL_law (wsV RL 45 RX4 yX4_isSound wsX4_isSound) := goodIn_app (goodIn_of _ (by decide +kernel)) ggL_law_X4_isSound
set_option maxRecDepth 20000 in
theorem ggL_law_L_repair : GoodIn wsL_law wsL_repair := goodIn_ca (goodIn_ca (goodIn_r _ [275, 122, 276, 277, 278, 2, 279, 129, 130, 13, 20, 79, 80, 81, 82, 11, 83, 84, 85, 86, 73, 74, 319, 320, 321, 322, 323, 324, 325, 326, 327, 328, 329, 330, 331, 332, 333, 334, 335, 336, 337, 338, 339, 340] (by decide +kernel) (by decide +kernel)) (goodIn_sub (fun _ h => List.mem_append_right _ h) (by decide +kernel))) (goodIn_sub (fun _ h => List.mem_append_left _ (List.mem_append_left _ (List.mem_append_right _ h))) (by decide +kernel))
set_option maxRecDepth 20000 in
theorem gL_law_L_repair : GoodIn wsL_law (va_wsS RL 128 yL_repair wsL_repair) := goodIn_app (goodIn_of _ (by decide +kernel)) ggL_law_L_repair
set_option maxRecDepth 20000 in
theorem ggL_law_X4_setQuiet : GoodIn wsL_law wsX4_setQuiet := goodIn_ca (goodIn_ca (goodIn_r _ [283, 127, 128, 20, 79, 80, 81, 2, 82, 11, 83, 84, 85, 86, 73, 74, 212, 213, 214, 22, 215, 216, 217, 218, 219, 33, 34, 220, 221, 222, 223, 224, 225, 226, 227, 228, 229, 326, 327, 328, 329, 330, 331, 332, 333, 334, 335, 336, 337, 338, 319, 320, 321, 322, 323, 324, 325] (by decide +kernel) (by decide +kernel)) (goodIn_sub (fun _ h => List.mem_append_left _ (List.mem_append_right _ h)) (by decide +kernel))) (goodIn_sub (fun _ h => List.mem_append_left _ (List.mem_append_left _ (List.mem_append_right _ h))) (by decide +kernel))
set_option maxRecDepth 20000 in
theorem gL_law_X4_setQuiet : GoodIn wsL_law (wsV RL 130 RX4 yX4_setQuiet wsX4_setQuiet) := goodIn_app (goodIn_of _ (by decide +kernel)) ggL_law_X4_setQuiet
set_option maxRecDepth 20000 in
theorem ggL_law_X4_pass : GoodIn wsL_law wsX4_pass := goodIn_ca (goodIn_ca (goodIn_r _ [287, 127, 128, 129, 130, 20, 288, 289, 290, 291, 2, 292, 293, 224, 225, 226, 11, 13, 294, 295, 296, 22, 297, 30, 298, 299, 300, 301, 302, 303, 304, 305, 36, 37, 40, 306, 96, 97, 98, 216, 217, 218, 219, 33, 34, 220, 221, 222, 223, 227, 228, 229, 307, 308, 309, 310, 311, 312, 313, 24, 314, 55, 56, 315, 316, 317, 318, 35, 39, 319, 320, 321, 322, 323, 324, 325, 339, 340, 326, 327, 328, 329, 330, 331, 332, 333, 334, 335, 336, 337, 338, 341, 342, 343, 344] (by decide +kernel) (by decide +kernel)) (goodIn_sub (fun _ h => List.mem_append_left _ (List.mem_append_right _ h)) (by decide +kernel))) (goodIn_sub (fun _ h => List.mem_append_right _ h) (by decide +kernel))
set_option maxRecDepth 20000 in
theorem gL_law_X4_pass : GoodIn wsL_law (wsV RL 134 RX4 yX4_pass wsX4_pass) := goodIn_app (goodIn_of _ (by decide +kernel)) ggL_law_X4_pass
theorem dL_law_0 : decode cL_law 0 = .ok (.new 10, 3) := by decide +kernel
theorem dL_law_3 : decode cL_law 3 = .ok (.dup, 1) := by decide +kernel
theorem dL_law_4 : decode cL_law 4 = .ok (.invokespecial 89, 3) := by decide +kernel
theorem dL_law_7 : decode cL_law 7 = .ok (.astore_n 1, 1) := by decide +kernel
theorem dL_law_8 : decode cL_law 8 = .ok (.iconst 0, 1) := by decide +kernel
theorem dL_law_9 : decode cL_law 9 = .ok (.istore_n 2, 1) := by decide +kernel
theorem dL_law_10 : decode cL_law 10 = .ok (.aload_n 1, 1) := by decide +kernel
theorem dL_law_11 : decode cL_law 11 = .ok (.invokestatic 90, 3) := by decide +kernel
theorem dL_law_14 : decode cL_law 14 = .ok (.ifCond .eq 14, 3) := by decide +kernel
theorem dL_law_17 : decode cL_law 17 = .ok (.aload_n 1, 1) := by decide +kernel
theorem dL_law_18 : decode cL_law 18 = .ok (.invokevirtual 32, 3) := by decide +kernel
theorem dL_law_21 : decode cL_law 21 = .ok (.ifCond .ne 7, 3) := by decide +kernel
theorem dL_law_24 : decode cL_law 24 = .ok (.iconst 1, 1) := by decide +kernel
theorem dL_law_25 : decode cL_law 25 = .ok (.goto 4, 3) := by decide +kernel
theorem dL_law_28 : decode cL_law 28 = .ok (.iconst 0, 1) := by decide +kernel
theorem dL_law_29 : decode cL_law 29 = .ok (.istore_n 3, 1) := by decide +kernel
theorem dL_law_30 : decode cL_law 30 = .ok (.bipush 6, 2) := by decide +kernel
theorem dL_law_32 : decode cL_law 32 = .ok (.aload_n 0, 1) := by decide +kernel
theorem dL_law_33 : decode cL_law 33 = .ok (.iconst 0, 1) := by decide +kernel
theorem dL_law_34 : decode cL_law 34 = .ok (.invokestatic 94, 3) := by decide +kernel
theorem dL_law_37 : decode cL_law 37 = .ok (.bipush 50, 2) := by decide +kernel
theorem dL_law_39 : decode cL_law 39 = .ok (.invokestatic 98, 3) := by decide +kernel
theorem dL_law_42 : decode cL_law 42 = .ok (.iadd, 1) := by decide +kernel
theorem dL_law_43 : decode cL_law 43 = .ok (.istore 4, 2) := by decide +kernel
theorem dL_law_45 : decode cL_law 45 = .ok (.iconst 0, 1) := by decide +kernel
theorem dL_law_46 : decode cL_law 46 = .ok (.istore 5, 2) := by decide +kernel
theorem dL_law_48 : decode cL_law 48 = .ok (.iload 5, 2) := by decide +kernel
theorem dL_law_50 : decode cL_law 50 = .ok (.iload 4, 2) := by decide +kernel
theorem dL_law_52 : decode cL_law 52 = .ok (.if_icmp .ge 692, 3) := by decide +kernel
theorem dL_law_55 : decode cL_law 55 = .ok (.iload_n 3, 1) := by decide +kernel
theorem dL_law_56 : decode cL_law 56 = .ok (.ifCond .eq 688, 3) := by decide +kernel
theorem dL_law_59 : decode cL_law 59 = .ok (.aload_n 0, 1) := by decide +kernel
theorem dL_law_60 : decode cL_law 60 = .ok (.iconst 1, 1) := by decide +kernel
theorem dL_law_61 : decode cL_law 61 = .ok (.iload 5, 2) := by decide +kernel
theorem dL_law_63 : decode cL_law 63 = .ok (.iadd, 1) := by decide +kernel
theorem dL_law_64 : decode cL_law 64 = .ok (.invokestatic 94, 3) := by decide +kernel
theorem dL_law_67 : decode cL_law 67 = .ok (.istore 6, 2) := by decide +kernel
theorem dL_law_69 : decode cL_law 69 = .ok (.iload 6, 2) := by decide +kernel
theorem dL_law_71 : decode cL_law 71 = .ok (.iconst 3, 1) := by decide +kernel
theorem dL_law_72 : decode cL_law 72 = .ok (.ishr, 1) := by decide +kernel
theorem dL_law_73 : decode cL_law 73 = .ok (.iload 6, 2) := by decide +kernel
theorem dL_law_75 : decode cL_law 75 = .ok (.bipush 17, 2) := by decide +kernel
theorem dL_law_77 : decode cL_law 77 = .ok (.ishr, 1) := by decide +kernel
theorem dL_law_78 : decode cL_law 78 = .ok (.iconst 2, 1) := by decide +kernel
theorem dL_law_79 : decode cL_law 79 = .ok (.invokestatic 98, 3) := by decide +kernel
theorem dL_law_82 : decode cL_law 82 = .ok (.ifCond .ne 8, 3) := by decide +kernel
theorem dL_law_85 : decode cL_law 85 = .ok (.bipush 8, 2) := by decide +kernel
theorem dL_law_87 : decode cL_law 87 = .ok (.goto 4, 3) := by decide +kernel
theorem dL_law_90 : decode cL_law 90 = .ok (.iconst 2, 1) := by decide +kernel
theorem dL_law_91 : decode cL_law 91 = .ok (.invokestatic 98, 3) := by decide +kernel
theorem dL_law_94 : decode cL_law 94 = .ok (.istore 7, 2) := by decide +kernel
theorem dL_law_96 : decode cL_law 96 = .ok (.iload 6, 2) := by decide +kernel
theorem dL_law_98 : decode cL_law 98 = .ok (.bipush 6, 2) := by decide +kernel
theorem dL_law_100 : decode cL_law 100 = .ok (.ishr, 1) := by decide +kernel
theorem dL_law_101 : decode cL_law 101 = .ok (.iconst 3, 1) := by decide +kernel
theorem dL_law_102 : decode cL_law 102 = .ok (.invokestatic 98, 3) := by decide +kernel
theorem dL_law_105 : decode cL_law 105 = .ok (.istore 8, 2) := by decide +kernel
theorem dL_law_107 : decode cL_law 107 = .ok (.iload_n 2, 1) := by decide +kernel
theorem dL_law_108 : decode cL_law 108 = .ok (.ifCond .ne 7, 3) := by decide +kernel
theorem dL_law_111 : decode cL_law 111 = .ok (.iconst 0, 1) := by decide +kernel
theorem dL_law_112 : decode cL_law 112 = .ok (.goto 12, 3) := by decide +kernel
theorem dL_law_115 : decode cL_law 115 = .ok (.iload 6, 2) := by decide +kernel
theorem dL_law_117 : decode cL_law 117 = .ok (.bipush 8, 2) := by decide +kernel
theorem dL_law_119 : decode cL_law 119 = .ok (.ishr, 1) := by decide +kernel
theorem dL_law_120 : decode cL_law 120 = .ok (.iload_n 2, 1) := by decide +kernel
theorem dL_law_121 : decode cL_law 121 = .ok (.invokestatic 98, 3) := by decide +kernel
theorem dL_law_124 : decode cL_law 124 = .ok (.istore 9, 2) := by decide +kernel
theorem dL_law_126 : decode cL_law 126 = .ok (.iload 6, 2) := by decide +kernel
theorem dL_law_128 : decode cL_law 128 = .ok (.bipush 20, 2) := by decide +kernel
theorem dL_law_130 : decode cL_law 130 = .ok (.ishr, 1) := by decide +kernel
theorem dL_law_131 : decode cL_law 131 = .ok (.bipush 18, 2) := by decide +kernel
theorem dL_law_133 : decode cL_law 133 = .ok (.invokestatic 98, 3) := by decide +kernel
theorem dL_law_136 : decode cL_law 136 = .ok (.istore 10, 2) := by decide +kernel
theorem dL_law_138 : decode cL_law 138 = .ok (.iload_n 2, 1) := by decide +kernel
theorem dL_law_139 : decode cL_law 139 = .ok (.ifCond .eq 9, 3) := by decide +kernel
theorem dL_law_142 : decode cL_law 142 = .ok (.iload 10, 2) := by decide +kernel
theorem dL_law_144 : decode cL_law 144 = .ok (.iconst 2, 1) := by decide +kernel
theorem dL_law_145 : decode cL_law 145 = .ok (.if_icmp .ge 132, 3) := by decide +kernel
theorem dL_law_148 : decode cL_law 148 = .ok (.iconst 1, 1) := by decide +kernel
theorem dL_law_149 : decode cL_law 149 = .ok (.iload 6, 2) := by decide +kernel
theorem dL_law_151 : decode cL_law 151 = .ok (.bipush 12, 2) := by decide +kernel
theorem dL_law_153 : decode cL_law 153 = .ok (.invokestatic 98, 3) := by decide +kernel
theorem dL_law_156 : decode cL_law 156 = .ok (.iadd, 1) := by decide +kernel
theorem dL_law_157 : decode cL_law 157 = .ok (.istore 11, 2) := by decide +kernel
theorem dL_law_159 : decode cL_law 159 = .ok (.iload 6, 2) := by decide +kernel
theorem dL_law_161 : decode cL_law 161 = .ok (.iconst 2, 1) := by decide +kernel
theorem dL_law_162 : decode cL_law 162 = .ok (.ishr, 1) := by decide +kernel
theorem dL_law_163 : decode cL_law 163 = .ok (.ldc 101, 2) := by decide +kernel
theorem dL_law_165 : decode cL_law 165 = .ok (.invokestatic 98, 3) := by decide +kernel
theorem dL_law_168 : decode cL_law 168 = .ok (.i2l, 1) := by decide +kernel
theorem dL_law_169 : decode cL_law 169 = .ok (.bipush 24, 2) := by decide +kernel
theorem dL_law_171 : decode cL_law 171 = .ok (.lshl, 1) := by decide +kernel
theorem dL_law_172 : decode cL_law 172 = .ok (.iload 6, 2) := by decide +kernel
theorem dL_law_174 : decode cL_law 174 = .ok (.iconst 5, 1) := by decide +kernel
theorem dL_law_175 : decode cL_law 175 = .ok (.ishr, 1) := by decide +kernel
theorem dL_law_176 : decode cL_law 176 = .ok (.ldc 101, 2) := by decide +kernel
theorem dL_law_178 : decode cL_law 178 = .ok (.invokestatic 98, 3) := by decide +kernel
theorem dL_law_181 : decode cL_law 181 = .ok (.i2l, 1) := by decide +kernel
theorem dL_law_182 : decode cL_law 182 = .ok (.lor, 1) := by decide +kernel
theorem dL_law_183 : decode cL_law 183 = .ok (.lconst 1, 1) := by decide +kernel
theorem dL_law_184 : decode cL_law 184 = .ok (.iconst 4, 1) := by decide +kernel
theorem dL_law_185 : decode cL_law 185 = .ok (.iload 11, 2) := by decide +kernel
theorem dL_law_187 : decode cL_law 187 = .ok (.imul, 1) := by decide +kernel
theorem dL_law_188 : decode cL_law 188 = .ok (.lshl, 1) := by decide +kernel
theorem dL_law_189 : decode cL_law 189 = .ok (.lconst 1, 1) := by decide +kernel
theorem dL_law_190 : decode cL_law 190 = .ok (.lsub, 1) := by decide +kernel
theorem dL_law_191 : decode cL_law 191 = .ok (.land, 1) := by decide +kernel
theorem dL_law_192 : decode cL_law 192 = .ok (.lstore 12, 2) := by decide +kernel
theorem dL_law_194 : decode cL_law 194 = .ok (.aload_n 1, 1) := by decide +kernel
theorem dL_law_195 : decode cL_law 195 = .ok (.iload 7, 2) := by decide +kernel
theorem dL_law_197 : decode cL_law 197 = .ok (.iload 11, 2) := by decide +kernel
theorem dL_law_199 : decode cL_law 199 = .ok (.lload 12, 2) := by decide +kernel
theorem dL_law_201 : decode cL_law 201 = .ok (.invokestatic 102, 3) := by decide +kernel
theorem dL_law_204 : decode cL_law 204 = .ok (.istore 14, 2) := by decide +kernel
theorem dL_law_206 : decode cL_law 206 = .ok (.iload 14, 2) := by decide +kernel
theorem dL_law_208 : decode cL_law 208 = .ok (.bipush (-3), 2) := by decide +kernel
theorem dL_law_210 : decode cL_law 210 = .ok (.if_icmp .ne 17, 3) := by decide +kernel
theorem dL_law_213 : decode cL_law 213 = .ok (.iload_n 2, 1) := by decide +kernel
theorem dL_law_214 : decode cL_law 214 = .ok (.bipush 12, 2) := by decide +kernel
theorem dL_law_216 : decode cL_law 216 = .ok (.if_icmp .ne 7, 3) := by decide +kernel
theorem dL_law_219 : decode cL_law 219 = .ok (.iconst 1, 1) := by decide +kernel
theorem dL_law_220 : decode cL_law 220 = .ok (.goto 38, 3) := by decide +kernel
theorem dL_law_223 : decode cL_law 223 = .ok (.iconst 0, 1) := by decide +kernel
theorem dL_law_224 : decode cL_law 224 = .ok (.goto 34, 3) := by decide +kernel
theorem dL_law_227 : decode cL_law 227 = .ok (.iload 14, 2) := by decide +kernel
theorem dL_law_229 : decode cL_law 229 = .ok (.iload_n 2, 1) := by decide +kernel
theorem dL_law_230 : decode cL_law 230 = .ok (.if_icmp .ne 27, 3) := by decide +kernel
theorem dL_law_233 : decode cL_law 233 = .ok (.aload_n 1, 1) := by decide +kernel
theorem dL_law_234 : decode cL_law 234 = .ok (.iload 14, 2) := by decide +kernel
theorem dL_law_236 : decode cL_law 236 = .ok (.iload 11, 2) := by decide +kernel
theorem dL_law_238 : decode cL_law 238 = .ok (.lload 12, 2) := by decide +kernel
theorem dL_law_240 : decode cL_law 240 = .ok (.iload 6, 2) := by decide +kernel
theorem dL_law_242 : decode cL_law 242 = .ok (.bipush 16, 2) := by decide +kernel
theorem dL_law_244 : decode cL_law 244 = .ok (.invokestatic 98, 3) := by decide +kernel
theorem dL_law_247 : decode cL_law 247 = .ok (.invokestatic 106, 3) := by decide +kernel
theorem dL_law_250 : decode cL_law 250 = .ok (.ifCond .eq 7, 3) := by decide +kernel
theorem dL_law_253 : decode cL_law 253 = .ok (.iconst 1, 1) := by decide +kernel
theorem dL_law_254 : decode cL_law 254 = .ok (.goto 4, 3) := by decide +kernel
theorem dL_law_257 : decode cL_law 257 = .ok (.iconst 0, 1) := by decide +kernel
theorem dL_law_258 : decode cL_law 258 = .ok (.istore_n 3, 1) := by decide +kernel
theorem dL_law_259 : decode cL_law 259 = .ok (.iload_n 2, 1) := by decide +kernel
theorem dL_law_260 : decode cL_law 260 = .ok (.iload 14, 2) := by decide +kernel
theorem dL_law_262 : decode cL_law 262 = .ok (.bipush (-3), 2) := by decide +kernel
theorem dL_law_264 : decode cL_law 264 = .ok (.if_icmp .ne 7, 3) := by decide +kernel
theorem dL_law_267 : decode cL_law 267 = .ok (.iconst 0, 1) := by decide +kernel
theorem dL_law_268 : decode cL_law 268 = .ok (.goto 4, 3) := by decide +kernel
theorem dL_law_271 : decode cL_law 271 = .ok (.iconst 1, 1) := by decide +kernel
theorem dL_law_272 : decode cL_law 272 = .ok (.iadd, 1) := by decide +kernel
theorem dL_law_273 : decode cL_law 273 = .ok (.istore_n 2, 1) := by decide +kernel
theorem dL_law_274 : decode cL_law 274 = .ok (.goto 447, 3) := by decide +kernel
theorem dL_law_277 : decode cL_law 277 = .ok (.iload 10, 2) := by decide +kernel
theorem dL_law_279 : decode cL_law 279 = .ok (.iconst 4, 1) := by decide +kernel
theorem dL_law_280 : decode cL_law 280 = .ok (.if_icmp .ge 117, 3) := by decide +kernel
theorem dL_law_283 : decode cL_law 283 = .ok (.aload_n 1, 1) := by decide +kernel
theorem dL_law_284 : decode cL_law 284 = .ok (.iload 7, 2) := by decide +kernel
theorem dL_law_286 : decode cL_law 286 = .ok (.iload 9, 2) := by decide +kernel
theorem dL_law_288 : decode cL_law 288 = .ok (.invokevirtual 110, 3) := by decide +kernel
theorem dL_law_291 : decode cL_law 291 = .ok (.istore 11, 2) := by decide +kernel
theorem dL_law_293 : decode cL_law 293 = .ok (.iconst 1, 1) := by decide +kernel
theorem dL_law_294 : decode cL_law 294 = .ok (.iload 6, 2) := by decide +kernel
theorem dL_law_296 : decode cL_law 296 = .ok (.iload 6, 2) := by decide +kernel
theorem dL_law_298 : decode cL_law 298 = .ok (.bipush 11, 2) := by decide +kernel
theorem dL_law_300 : decode cL_law 300 = .ok (.ishr, 1) := by decide +kernel
theorem dL_law_301 : decode cL_law 301 = .ok (.iconst 2, 1) := by decide +kernel
theorem dL_law_302 : decode cL_law 302 = .ok (.invokestatic 98, 3) := by decide +kernel
theorem dL_law_305 : decode cL_law 305 = .ok (.ifCond .ne 9, 3) := by decide +kernel
theorem dL_law_308 : decode cL_law 308 = .ok (.sipush 1000, 3) := by decide +kernel
theorem dL_law_311 : decode cL_law 311 = .ok (.goto 4, 3) := by decide +kernel
theorem dL_law_314 : decode cL_law 314 = .ok (.iconst 3, 1) := by decide +kernel
theorem dL_law_315 : decode cL_law 315 = .ok (.invokestatic 98, 3) := by decide +kernel
theorem dL_law_318 : decode cL_law 318 = .ok (.iadd, 1) := by decide +kernel
theorem dL_law_319 : decode cL_law 319 = .ok (.istore 12, 2) := by decide +kernel
theorem dL_law_321 : decode cL_law 321 = .ok (.aload_n 1, 1) := by decide +kernel
theorem dL_law_322 : decode cL_law 322 = .ok (.iload 7, 2) := by decide +kernel
theorem dL_law_324 : decode cL_law 324 = .ok (.iload 9, 2) := by decide +kernel
theorem dL_law_326 : decode cL_law 326 = .ok (.iload 12, 2) := by decide +kernel
theorem dL_law_328 : decode cL_law 328 = .ok (.invokestatic 113, 3) := by decide +kernel
theorem dL_law_331 : decode cL_law 331 = .ok (.istore 13, 2) := by decide +kernel
theorem dL_law_333 : decode cL_law 333 = .ok (.iload 13, 2) := by decide +kernel
theorem dL_law_335 : decode cL_law 335 = .ok (.bipush (-3), 2) := by decide +kernel
theorem dL_law_337 : decode cL_law 337 = .ok (.if_icmp .ne 28, 3) := by decide +kernel
theorem dL_law_340 : decode cL_law 340 = .ok (.iload 11, 2) := by decide +kernel
theorem dL_law_342 : decode cL_law 342 = .ok (.iconst (-1), 1) := by decide +kernel
theorem dL_law_343 : decode cL_law 343 = .ok (.if_icmp .eq 14, 3) := by decide +kernel
theorem dL_law_346 : decode cL_law 346 = .ok (.iload 11, 2) := by decide +kernel
theorem dL_law_348 : decode cL_law 348 = .ok (.iload 12, 2) := by decide +kernel
theorem dL_law_350 : decode cL_law 350 = .ok (.iadd, 1) := by decide +kernel
theorem dL_law_351 : decode cL_law 351 = .ok (.sipush 1000, 3) := by decide +kernel
theorem dL_law_354 : decode cL_law 354 = .ok (.if_icmp .le 7, 3) := by decide +kernel
theorem dL_law_357 : decode cL_law 357 = .ok (.iconst 1, 1) := by decide +kernel
theorem dL_law_358 : decode cL_law 358 = .ok (.goto 35, 3) := by decide +kernel
theorem dL_law_361 : decode cL_law 361 = .ok (.iconst 0, 1) := by decide +kernel
theorem dL_law_362 : decode cL_law 362 = .ok (.goto 31, 3) := by decide +kernel
theorem dL_law_365 : decode cL_law 365 = .ok (.iload 13, 2) := by decide +kernel
theorem dL_law_367 : decode cL_law 367 = .ok (.iload 11, 2) := by decide +kernel
theorem dL_law_369 : decode cL_law 369 = .ok (.iload 12, 2) := by decide +kernel
theorem dL_law_371 : decode cL_law 371 = .ok (.iadd, 1) := by decide +kernel
theorem dL_law_372 : decode cL_law 372 = .ok (.if_icmp .ne 20, 3) := by decide +kernel
theorem dL_law_375 : decode cL_law 375 = .ok (.aload_n 1, 1) := by decide +kernel
theorem dL_law_376 : decode cL_law 376 = .ok (.iload 7, 2) := by decide +kernel
theorem dL_law_378 : decode cL_law 378 = .ok (.iload 9, 2) := by decide +kernel
theorem dL_law_380 : decode cL_law 380 = .ok (.invokevirtual 110, 3) := by decide +kernel
theorem dL_law_383 : decode cL_law 383 = .ok (.iload 13, 2) := by decide +kernel
theorem dL_law_385 : decode cL_law 385 = .ok (.if_icmp .ne 7, 3) := by decide +kernel
theorem dL_law_388 : decode cL_law 388 = .ok (.iconst 1, 1) := by decide +kernel
theorem dL_law_389 : decode cL_law 389 = .ok (.goto 4, 3) := by decide +kernel
theorem dL_law_392 : decode cL_law 392 = .ok (.iconst 0, 1) := by decide +kernel
theorem dL_law_393 : decode cL_law 393 = .ok (.istore_n 3, 1) := by decide +kernel
theorem dL_law_394 : decode cL_law 394 = .ok (.goto 327, 3) := by decide +kernel
theorem dL_law_397 : decode cL_law 397 = .ok (.iload 10, 2) := by decide +kernel
theorem dL_law_399 : decode cL_law 399 = .ok (.bipush 7, 2) := by decide +kernel
theorem dL_law_401 : decode cL_law 401 = .ok (.if_icmp .ge 70, 3) := by decide +kernel
theorem dL_law_404 : decode cL_law 404 = .ok (.aload_n 1, 1) := by decide +kernel
theorem dL_law_405 : decode cL_law 405 = .ok (.iload 7, 2) := by decide +kernel
theorem dL_law_407 : decode cL_law 407 = .ok (.iload 8, 2) := by decide +kernel
theorem dL_law_409 : decode cL_law 409 = .ok (.iload 9, 2) := by decide +kernel
theorem dL_law_411 : decode cL_law 411 = .ok (.iconst 1, 1) := by decide +kernel
theorem dL_law_412 : decode cL_law 412 = .ok (.iload 6, 2) := by decide +kernel
theorem dL_law_414 : decode cL_law 414 = .ok (.bipush 9, 2) := by decide +kernel
theorem dL_law_416 : decode cL_law 416 = .ok (.invokestatic 98, 3) := by decide +kernel
theorem dL_law_419 : decode cL_law 419 = .ok (.iadd, 1) := by decide +kernel
theorem dL_law_420 : decode cL_law 420 = .ok (.invokevirtual 116, 3) := by decide +kernel
theorem dL_law_423 : decode cL_law 423 = .ok (.pop, 1) := by decide +kernel
theorem dL_law_424 : decode cL_law 424 = .ok (.aload_n 1, 1) := by decide +kernel
theorem dL_law_425 : decode cL_law 425 = .ok (.iload 7, 2) := by decide +kernel
theorem dL_law_427 : decode cL_law 427 = .ok (.invokevirtual 49, 3) := by decide +kernel
theorem dL_law_430 : decode cL_law 430 = .ok (.iload 8, 2) := by decide +kernel
theorem dL_law_432 : decode cL_law 432 = .ok (.ishr, 1) := by decide +kernel
theorem dL_law_433 : decode cL_law 433 = .ok (.iconst 1, 1) := by decide +kernel
theorem dL_law_434 : decode cL_law 434 = .ok (.iand, 1) := by decide +kernel
theorem dL_law_435 : decode cL_law 435 = .ok (.ifCond .ne 31, 3) := by decide +kernel
theorem dL_law_438 : decode cL_law 438 = .ok (.aload_n 1, 1) := by decide +kernel
theorem dL_law_439 : decode cL_law 439 = .ok (.iload 7, 2) := by decide +kernel
theorem dL_law_441 : decode cL_law 441 = .ok (.iload 8, 2) := by decide +kernel
theorem dL_law_443 : decode cL_law 443 = .ok (.iload 9, 2) := by decide +kernel
theorem dL_law_445 : decode cL_law 445 = .ok (.iconst 1, 1) := by decide +kernel
theorem dL_law_446 : decode cL_law 446 = .ok (.iload 6, 2) := by decide +kernel
theorem dL_law_448 : decode cL_law 448 = .ok (.bipush 9, 2) := by decide +kernel
theorem dL_law_450 : decode cL_law 450 = .ok (.invokestatic 98, 3) := by decide +kernel
theorem dL_law_453 : decode cL_law 453 = .ok (.iadd, 1) := by decide +kernel
theorem dL_law_454 : decode cL_law 454 = .ok (.invokevirtual 116, 3) := by decide +kernel
theorem dL_law_457 : decode cL_law 457 = .ok (.iload 9, 2) := by decide +kernel
theorem dL_law_459 : decode cL_law 459 = .ok (.if_icmp .ne 7, 3) := by decide +kernel
theorem dL_law_462 : decode cL_law 462 = .ok (.iconst 1, 1) := by decide +kernel
theorem dL_law_463 : decode cL_law 463 = .ok (.goto 4, 3) := by decide +kernel
theorem dL_law_466 : decode cL_law 466 = .ok (.iconst 0, 1) := by decide +kernel
theorem dL_law_467 : decode cL_law 467 = .ok (.istore_n 3, 1) := by decide +kernel
theorem dL_law_468 : decode cL_law 468 = .ok (.goto 253, 3) := by decide +kernel
theorem dL_law_471 : decode cL_law 471 = .ok (.iload 10, 2) := by decide +kernel
theorem dL_law_473 : decode cL_law 473 = .ok (.bipush 12, 2) := by decide +kernel
theorem dL_law_475 : decode cL_law 475 = .ok (.if_icmp .ge 15, 3) := by decide +kernel
theorem dL_law_478 : decode cL_law 478 = .ok (.aload_n 1, 1) := by decide +kernel
theorem dL_law_479 : decode cL_law 479 = .ok (.iload 7, 2) := by decide +kernel
theorem dL_law_481 : decode cL_law 481 = .ok (.iload 8, 2) := by decide +kernel
theorem dL_law_483 : decode cL_law 483 = .ok (.invokestatic 120, 3) := by decide +kernel
theorem dL_law_486 : decode cL_law 486 = .ok (.istore_n 3, 1) := by decide +kernel
theorem dL_law_487 : decode cL_law 487 = .ok (.goto 234, 3) := by decide +kernel
theorem dL_law_490 : decode cL_law 490 = .ok (.iload 10, 2) := by decide +kernel
theorem dL_law_492 : decode cL_law 492 = .ok (.bipush 13, 2) := by decide +kernel
theorem dL_law_494 : decode cL_law 494 = .ok (.if_icmp .ge 13, 3) := by decide +kernel
theorem dL_law_497 : decode cL_law 497 = .ok (.aload_n 1, 1) := by decide +kernel
theorem dL_law_498 : decode cL_law 498 = .ok (.iload 7, 2) := by decide +kernel
theorem dL_law_500 : decode cL_law 500 = .ok (.invokestatic 124, 3) := by decide +kernel
theorem dL_law_503 : decode cL_law 503 = .ok (.istore_n 3, 1) := by decide +kernel
theorem dL_law_504 : decode cL_law 504 = .ok (.goto 217, 3) := by decide +kernel
theorem dL_law_507 : decode cL_law 507 = .ok (.iload 10, 2) := by decide +kernel
theorem dL_law_509 : decode cL_law 509 = .ok (.bipush 14, 2) := by decide +kernel
theorem dL_law_511 : decode cL_law 511 = .ok (.if_icmp .ge 63, 3) := by decide +kernel
theorem dL_law_514 : decode cL_law 514 = .ok (.aload_n 1, 1) := by decide +kernel
theorem dL_law_515 : decode cL_law 515 = .ok (.iload 7, 2) := by decide +kernel
theorem dL_law_517 : decode cL_law 517 = .ok (.invokevirtual 45, 3) := by decide +kernel
theorem dL_law_520 : decode cL_law 520 = .ok (.istore 11, 2) := by decide +kernel
theorem dL_law_522 : decode cL_law 522 = .ok (.aload_n 1, 1) := by decide +kernel
theorem dL_law_523 : decode cL_law 523 = .ok (.iload 7, 2) := by decide +kernel
theorem dL_law_525 : decode cL_law 525 = .ok (.invokestatic 128, 3) := by decide +kernel
theorem dL_law_528 : decode cL_law 528 = .ok (.istore 12, 2) := by decide +kernel
theorem dL_law_530 : decode cL_law 530 = .ok (.iload 12, 2) := by decide +kernel
theorem dL_law_532 : decode cL_law 532 = .ok (.bipush (-3), 2) := by decide +kernel
theorem dL_law_534 : decode cL_law 534 = .ok (.if_icmp .eq 31, 3) := by decide +kernel
theorem dL_law_537 : decode cL_law 537 = .ok (.iload 11, 2) := by decide +kernel
theorem dL_law_539 : decode cL_law 539 = .ok (.ifCond .ne 30, 3) := by decide +kernel
theorem dL_law_542 : decode cL_law 542 = .ok (.iload 12, 2) := by decide +kernel
theorem dL_law_544 : decode cL_law 544 = .ok (.aload_n 1, 1) := by decide +kernel
theorem dL_law_545 : decode cL_law 545 = .ok (.invokevirtual 32, 3) := by decide +kernel
theorem dL_law_548 : decode cL_law 548 = .ok (.bipush 50, 2) := by decide +kernel
theorem dL_law_550 : decode cL_law 550 = .ok (.iadd, 1) := by decide +kernel
theorem dL_law_551 : decode cL_law 551 = .ok (.if_icmp .ne 18, 3) := by decide +kernel
theorem dL_law_554 : decode cL_law 554 = .ok (.aload_n 1, 1) := by decide +kernel
theorem dL_law_555 : decode cL_law 555 = .ok (.iload 7, 2) := by decide +kernel
theorem dL_law_557 : decode cL_law 557 = .ok (.invokestatic 128, 3) := by decide +kernel
theorem dL_law_560 : decode cL_law 560 = .ok (.bipush (-3), 2) := by decide +kernel
theorem dL_law_562 : decode cL_law 562 = .ok (.if_icmp .ne 7, 3) := by decide +kernel
theorem dL_law_565 : decode cL_law 565 = .ok (.iconst 1, 1) := by decide +kernel
theorem dL_law_566 : decode cL_law 566 = .ok (.goto 4, 3) := by decide +kernel
theorem dL_law_569 : decode cL_law 569 = .ok (.iconst 0, 1) := by decide +kernel
theorem dL_law_570 : decode cL_law 570 = .ok (.istore_n 3, 1) := by decide +kernel
theorem dL_law_571 : decode cL_law 571 = .ok (.goto 150, 3) := by decide +kernel
theorem dL_law_574 : decode cL_law 574 = .ok (.iload 10, 2) := by decide +kernel
theorem dL_law_576 : decode cL_law 576 = .ok (.bipush 15, 2) := by decide +kernel
theorem dL_law_578 : decode cL_law 578 = .ok (.if_icmp .ge 76, 3) := by decide +kernel
theorem dL_law_581 : decode cL_law 581 = .ok (.iload 6, 2) := by decide +kernel
theorem dL_law_583 : decode cL_law 583 = .ok (.sipush 1000, 3) := by decide +kernel
theorem dL_law_586 : decode cL_law 586 = .ok (.invokestatic 98, 3) := by decide +kernel
theorem dL_law_589 : decode cL_law 589 = .ok (.istore 11, 2) := by decide +kernel
theorem dL_law_591 : decode cL_law 591 = .ok (.aload_n 1, 1) := by decide +kernel
theorem dL_law_592 : decode cL_law 592 = .ok (.iload 7, 2) := by decide +kernel
theorem dL_law_594 : decode cL_law 594 = .ok (.iload 11, 2) := by decide +kernel
theorem dL_law_596 : decode cL_law 596 = .ok (.iload 11, 2) := by decide +kernel
theorem dL_law_598 : decode cL_law 598 = .ok (.invokevirtual 130, 3) := by decide +kernel
theorem dL_law_601 : decode cL_law 601 = .ok (.ifCond .ne 48, 3) := by decide +kernel
theorem dL_law_604 : decode cL_law 604 = .ok (.aload_n 1, 1) := by decide +kernel
theorem dL_law_605 : decode cL_law 605 = .ok (.iload 7, 2) := by decide +kernel
theorem dL_law_607 : decode cL_law 607 = .ok (.iload 11, 2) := by decide +kernel
theorem dL_law_609 : decode cL_law 609 = .ok (.iload 6, 2) := by decide +kernel
theorem dL_law_611 : decode cL_law 611 = .ok (.bipush 7, 2) := by decide +kernel
theorem dL_law_613 : decode cL_law 613 = .ok (.ishr, 1) := by decide +kernel
theorem dL_law_614 : decode cL_law 614 = .ok (.sipush 1000, 3) := by decide +kernel
theorem dL_law_617 : decode cL_law 617 = .ok (.invokestatic 98, 3) := by decide +kernel
theorem dL_law_620 : decode cL_law 620 = .ok (.invokevirtual 130, 3) := by decide +kernel
theorem dL_law_623 : decode cL_law 623 = .ok (.aload_n 1, 1) := by decide +kernel
theorem dL_law_624 : decode cL_law 624 = .ok (.iload 7, 2) := by decide +kernel
theorem dL_law_626 : decode cL_law 626 = .ok (.iload 11, 2) := by decide +kernel
theorem dL_law_628 : decode cL_law 628 = .ok (.iload 6, 2) := by decide +kernel
theorem dL_law_630 : decode cL_law 630 = .ok (.bipush 7, 2) := by decide +kernel
theorem dL_law_632 : decode cL_law 632 = .ok (.ishr, 1) := by decide +kernel
theorem dL_law_633 : decode cL_law 633 = .ok (.sipush 1000, 3) := by decide +kernel
theorem dL_law_636 : decode cL_law 636 = .ok (.invokestatic 98, 3) := by decide +kernel
theorem dL_law_639 : decode cL_law 639 = .ok (.invokevirtual 130, 3) := by decide +kernel
theorem dL_law_642 : decode cL_law 642 = .ok (.if_icmp .ne 7, 3) := by decide +kernel
theorem dL_law_645 : decode cL_law 645 = .ok (.iconst 1, 1) := by decide +kernel
theorem dL_law_646 : decode cL_law 646 = .ok (.goto 4, 3) := by decide +kernel
theorem dL_law_649 : decode cL_law 649 = .ok (.iconst 0, 1) := by decide +kernel
theorem dL_law_650 : decode cL_law 650 = .ok (.istore_n 3, 1) := by decide +kernel
theorem dL_law_651 : decode cL_law 651 = .ok (.goto 70, 3) := by decide +kernel
theorem dL_law_654 : decode cL_law 654 = .ok (.aload_n 1, 1) := by decide +kernel
theorem dL_law_655 : decode cL_law 655 = .ok (.invokevirtual 32, 3) := by decide +kernel
theorem dL_law_658 : decode cL_law 658 = .ok (.istore 11, 2) := by decide +kernel
theorem dL_law_660 : decode cL_law 660 = .ok (.iconst 1, 1) := by decide +kernel
theorem dL_law_661 : decode cL_law 661 = .ok (.iload 6, 2) := by decide +kernel
theorem dL_law_663 : decode cL_law 663 = .ok (.iload 6, 2) := by decide +kernel
theorem dL_law_665 : decode cL_law 665 = .ok (.bipush 9, 2) := by decide +kernel
theorem dL_law_667 : decode cL_law 667 = .ok (.ishr, 1) := by decide +kernel
theorem dL_law_668 : decode cL_law 668 = .ok (.iconst 3, 1) := by decide +kernel
theorem dL_law_669 : decode cL_law 669 = .ok (.invokestatic 98, 3) := by decide +kernel
theorem dL_law_672 : decode cL_law 672 = .ok (.ifCond .ne 9, 3) := by decide +kernel
theorem dL_law_675 : decode cL_law 675 = .ok (.sipush 1100, 3) := by decide +kernel
theorem dL_law_678 : decode cL_law 678 = .ok (.goto 5, 3) := by decide +kernel
theorem dL_law_681 : decode cL_law 681 = .ok (.bipush 30, 2) := by decide +kernel
theorem dL_law_683 : decode cL_law 683 = .ok (.invokestatic 98, 3) := by decide +kernel
theorem dL_law_686 : decode cL_law 686 = .ok (.iadd, 1) := by decide +kernel
theorem dL_law_687 : decode cL_law 687 = .ok (.istore 12, 2) := by decide +kernel
theorem dL_law_689 : decode cL_law 689 = .ok (.aload_n 1, 1) := by decide +kernel
theorem dL_law_690 : decode cL_law 690 = .ok (.iload 12, 2) := by decide +kernel
theorem dL_law_692 : decode cL_law 692 = .ok (.invokevirtual 134, 3) := by decide +kernel
theorem dL_law_695 : decode cL_law 695 = .ok (.iload 11, 2) := by decide +kernel
theorem dL_law_697 : decode cL_law 697 = .ok (.iload 12, 2) := by decide +kernel
theorem dL_law_699 : decode cL_law 699 = .ok (.iadd, 1) := by decide +kernel
theorem dL_law_700 : decode cL_law 700 = .ok (.if_icmp .ne 19, 3) := by decide +kernel
theorem dL_law_703 : decode cL_law 703 = .ok (.aload_n 1, 1) := by decide +kernel
theorem dL_law_704 : decode cL_law 704 = .ok (.invokevirtual 32, 3) := by decide +kernel
theorem dL_law_707 : decode cL_law 707 = .ok (.iload 11, 2) := by decide +kernel
theorem dL_law_709 : decode cL_law 709 = .ok (.iload 12, 2) := by decide +kernel
theorem dL_law_711 : decode cL_law 711 = .ok (.iadd, 1) := by decide +kernel
theorem dL_law_712 : decode cL_law 712 = .ok (.if_icmp .ne 7, 3) := by decide +kernel
theorem dL_law_715 : decode cL_law 715 = .ok (.iconst 1, 1) := by decide +kernel
theorem dL_law_716 : decode cL_law 716 = .ok (.goto 4, 3) := by decide +kernel
theorem dL_law_719 : decode cL_law 719 = .ok (.iconst 0, 1) := by decide +kernel
theorem dL_law_720 : decode cL_law 720 = .ok (.istore_n 3, 1) := by decide +kernel
theorem dL_law_721 : decode cL_law 721 = .ok (.iload_n 3, 1) := by decide +kernel
theorem dL_law_722 : decode cL_law 722 = .ok (.ifCond .eq 14, 3) := by decide +kernel
theorem dL_law_725 : decode cL_law 725 = .ok (.aload_n 1, 1) := by decide +kernel
theorem dL_law_726 : decode cL_law 726 = .ok (.invokestatic 90, 3) := by decide +kernel
theorem dL_law_729 : decode cL_law 729 = .ok (.ifCond .eq 7, 3) := by decide +kernel
theorem dL_law_732 : decode cL_law 732 = .ok (.iconst 1, 1) := by decide +kernel
theorem dL_law_733 : decode cL_law 733 = .ok (.goto 4, 3) := by decide +kernel
theorem dL_law_736 : decode cL_law 736 = .ok (.iconst 0, 1) := by decide +kernel
theorem dL_law_737 : decode cL_law 737 = .ok (.istore_n 3, 1) := by decide +kernel
theorem dL_law_738 : decode cL_law 738 = .ok (.iinc 5 1, 3) := by decide +kernel
theorem dL_law_741 : decode cL_law 741 = .ok (.goto (-693), 3) := by decide +kernel
theorem dL_law_744 : decode cL_law 744 = .ok (.iload_n 3, 1) := by decide +kernel
theorem dL_law_745 : decode cL_law 745 = .ok (.ireturn, 1) := by decide +kernel
abbrev vwCl : List vw_C := [(RX0, TX0, 4), (RX1, TX1, 2), (RX2, TX2, 13), (RX3, TX3, 4), (RX4, TX4, 7)]
end
section
/-! MY BASE. An Int32 by its integer; words carried as facts of the state; one form of contract; rows over it. -/
def z2 (z : Int) : Int32 := Int32.ofInt z
def l2 (z : Int) : Int64 := Int64.ofInt z
abbrev B31 (z : Int) : Prop := -2147483648 ≤ z ∧ z < 2147483648
theorem z2_toInt {z : Int} (h : B31 z) : (z2 z).toInt = z := Int32.toInt_ofInt_of_le (by have := h.1; omega) (by have := h.2; omega)
theorem z2_of (x : Int32) : z2 x.toInt = x := Int32.ofInt_toInt x
theorem z2_rng (x : Int32) : B31 x.toInt := ⟨by have := Int32.le_toInt x; omega, by have := Int32.toInt_lt x; omega⟩
theorem z2_ex (x : Int32) : ∃ a : Int, B31 a ∧ x = z2 a := ⟨x.toInt, z2_rng x, (z2_of x).symm⟩
theorem z2_add (a b : Int) : z2 a + z2 b = z2 (a + b) := (Int32.ofInt_add a b).symm
theorem z2_sub (a b : Int) : z2 a - z2 b = z2 (a - b) := (Int32.ofInt_sub a b).symm
theorem z2_mul (a b : Int) : z2 a * z2 b = z2 (a * b) := (Int32.ofInt_mul a b).symm
theorem z2_le {a b : Int} (ha : B31 a) (hb : B31 b) : z2 a ≤ z2 b ↔ a ≤ b := by rw [Int32.le_iff_toInt_le, z2_toInt ha, z2_toInt hb]
theorem z2_lt {a b : Int} (ha : B31 a) (hb : B31 b) : z2 a < z2 b ↔ a < b := by rw [Int32.lt_iff_toInt_lt, z2_toInt ha, z2_toInt hb]
theorem z2_eq {a b : Int} (ha : B31 a) (hb : B31 b) : z2 a = z2 b ↔ a = b := by rw [← Int32.toInt_inj, z2_toInt ha, z2_toInt hb]
theorem z2_0 : (0 : Int32) = z2 0 := by decide +kernel
theorem B31_0 : B31 0 := ⟨by decide, by decide⟩
theorem z2_div {a b : Int} (ha : 0 ≤ a) (ha2 : a < 2147483648) (hb : 0 < b) (hb2 : b < 2147483648) : z2 a / z2 b = z2 (a / b) := by
  have h := Int32.ofInt_tdiv (a := a) (b := b) (by show (-2147483648 : Int) ≤ a; omega) (by show a ≤ (2147483647 : Int); omega) (by show (-2147483648 : Int) ≤ b; omega) (by show b ≤ (2147483647 : Int); omega)
  rw [Int.tdiv_eq_ediv_of_nonneg ha] at h
  exact h.symm
theorem z2_rem {a b : Int} (ha : 0 ≤ a) (ha2 : a < 2147483648) (hb : 0 < b) (hb2 : b < 2147483648) : z2 a - z2 a / z2 b * z2 b = z2 (a % b) := by
  rw [z2_div ha ha2 hb hb2, z2_mul, z2_sub, Int.emod_def, Int.mul_comm]
theorem z2_cl {a : Int} (h0 : 0 ≤ a) (h1 : a < 2147483648) : (z2 a).toNatClampNeg = a.toNat := Int32.toNatClampNeg_ofInt_of_le (by omega) (by omega)
theorem z2_in {a : Int} {n : Nat} (h0 : 0 ≤ a) (h1 : a < n) (h2 : a < 2147483648) : vp_in (z2 a) n := by
  intro h
  rw [z2_cl h0 h2, z2_0, z2_lt ⟨by omega, by omega⟩ B31_0] at h
  omega
theorem zj_in {i : Int} {j n : Nat} (h : i = (j : Int) ∧ j < n ∧ n < 2147483648) : vp_in (z2 i) n := z2_in (by omega) (by omega) (by omega)
theorem zj_cl {i : Int} {j n : Nat} (h : i = (j : Int) ∧ j < n ∧ n < 2147483648) : (z2 i).toNatClampNeg = j := by rw [z2_cl (by omega) (by omega)]; omega
theorem z2_len (n : Nat) : Int32.ofNat n = z2 n := Int32.ofInt_eq_ofNat.symm
def up (X : Nat → Nat → Int) (f i : Nat) (v : Int) : Nat → Nat → Int := fun g j => if g = f ∧ j = i then v else X g j
theorem up_s (X : Nat → Nat → Int) (f i : Nat) (v : Int) : up X f i v f i = v := if_pos ⟨rfl, rfl⟩
theorem up_f (X : Nat → Nat → Int) {f g : Nat} (i j : Nat) (v : Int) (h : g ≠ f) : up X f i v g j = X g j := if_neg (fun q => h q.1)
theorem up_i (X : Nat → Nat → Int) (f g : Nat) {i j : Nat} (v : Int) (h : j ≠ i) : up X f i v g j = X g j := if_neg (fun q => h q.2)
/-! ===== words carried as facts of the state ===== -/
def gwl : List Cond := [.fieldLinkNest RX4 101 RX3 "owner" "I" RX4, .fieldLinkNest RX4 106 RX2 "rights" "[I" RX4, .fieldLinkNest RX4 113 RX2 "quietFrom" "I" RX4, .fieldLinkNest RX4 116 RX2 "quietTo" "I" RX4, .fieldLinkNest RX4 129 RX0 "melody" "LBellStreet$Melody;" RX4, .fieldLinkNest RX4 135 RX0 "load" "I" RX4, .fieldLinkNest RX4 138 RX0 "isRinging" "Z" RX4, .fieldLinkNest RX4 142 RX3 "number" "I" RX4, .fieldLinkNest RX4 147 RX2 "sound" "Z" RX4, .fieldLinkNest RX4 150 RX2 "hushedPresses" "I" RX4, .fieldLinkNest RX4 177 RX2 "street" "I" RX4, .fieldLinkNest RX4 183 RX2 "faultsOfTheDay" "I" RX4, .fieldLinkNest RX4 188 RX1 "goal" "LBellStreet$House;" RX4, .fieldLinkNest RX4 194 RX1 "doneAt" "I" RX4, .fieldLinkNest RX4 211 RX2 "score" "I" RX4, .fieldLinkNest RX4 214 RX2 "rungSeconds" "I" RX4, .fieldLinkNest RX4 217 RX2 "rungQuietSeconds" "I" RX4, .fieldLinkNest RX4 226 RX2 "bells" "[LBellStreet$Bell;" RX4, .fieldLinkNest RX4 69 RX3 "count" "I" RX4, .fieldLinkNest RX1 17 RX2 "sound" "Z" RX4, .fieldLinkNest RX2 73 RX3 "owner" "I" RX4, .fieldLinkNest RX2 78 RX3 "number" "I" RX4, .fieldLinkNest RX2 79 RX0 "isRinging" "Z" RX4, .fieldLinkNest RX2 82 RX0 "load" "I" RX4, .fieldLinkNest RX2 85 RX0 "melody" "LBellStreet$Melody;" RX4, .fieldLinkNest RX2 97 RX0 "stopsAt" "I" RX4, .methodLinkNest RX2 56 yX0_init RX4, .methodLinkNest RX4 44 yX1_init RX4, .castable "java/lang/IndexOutOfBoundsException" "java/lang/IndexOutOfBoundsException", .castable "java/lang/IllegalArgumentException" "java/lang/IllegalArgumentException", .castable "java/lang/IllegalStateException" "java/lang/IllegalStateException", .declares ⟨"java/lang/RuntimeException", "<init>", "(Ljava/lang/String;)V"⟩, .declares ⟨"java/lang/Exception", "<init>", "(Ljava/lang/String;)V"⟩, .declares ⟨"java/lang/Throwable", "<init>", "(Ljava/lang/String;)V"⟩]
def gao : List String := [RX0, RX1, RX2, RX3]
def gnc : List (String × String) := [("java/lang/IllegalArgumentException", "java/lang/IndexOutOfBoundsException"), ("java/lang/IllegalStateException", "java/lang/IndexOutOfBoundsException"), ("java/lang/IllegalStateException", "java/lang/IllegalArgumentException")]
def gst : List (Nat × String) := [(222, "no such house"), (50, "a melody has 1 to 12 tones"), (55, "there are bits that are of no tone"), (59, "there are 12 melodies"), (230, "no such melody"), (74, "no such tone"), (81, "a shift is 0 to 15"), (99, "1 to 1000 rings are given"), (104, "the house is the owner"), (109, "a house has at most 1000 rings left"), (111, "a second of the day is 0 to 999"), (224, "no such bell"), (127, "a load is 1 to 9"), (145, "the bell has no melody"), (173, "the house is broken"), (175, "there were 100 faults"), (186, "the house is sound"), (192, "the crew is under way"), (197, "1 to 2000 seconds pass"), (200, "the time would be above 1000000"), (220, "no such fault")]
def gwk (w : Cond) : Prop := (∃ a i b n d h, w = .fieldLinkNest a i b n d h) ∨ (∃ a i x h, w = .methodLinkNest a i x h) ∨ (∃ a b, w = .castable a b) ∨ ∃ x, w = .declares x
theorem gwl_k : ∀ w ∈ gwl, gwk w := by
  intro w hw
  simp only [gwl, List.mem_cons, List.not_mem_nil, or_false] at hw
  rcases hw with rfl | rfl | rfl | rfl | rfl | rfl | rfl | rfl | rfl | rfl | rfl | rfl | rfl | rfl | rfl | rfl | rfl | rfl | rfl | rfl | rfl | rfl | rfl | rfl | rfl | rfl | rfl | rfl | rfl | rfl | rfl | rfl | rfl | rfl
  all_goals first | exact Or.inl ⟨_, _, _, _, _, _, rfl⟩ | exact Or.inr (Or.inl ⟨_, _, _, _, rfl⟩) | exact Or.inr (Or.inr (Or.inl ⟨_, _, rfl⟩)) | exact Or.inr (Or.inr (Or.inr ⟨_, rfl⟩))
theorem gwk.warm {w : Cond} (h : gwk w) {s U : State} (hW : s.WarmedH U.vm) (hz : va_Nw w s) : va_Nw w U := by
  rcases h with ⟨a, i, b, n, d, h, rfl⟩ | ⟨a, i, x, h, rfl⟩ | ⟨a, b, rfl⟩ | ⟨x, rfl⟩
  · exact va_Nw.warmF hW hz
  · exact va_Nw.warmM hW hz
  · exact va_Nw.warmC hW hz
  · exact va_Nw.warmD hW hz
theorem gwk.same {w : Cond} (h : gwk w) {s U : State} (hv : s.vm = U.vm) (hz : va_Nw w s) : va_Nw w U := by
  rcases h with ⟨a, i, b, n, d, h, rfl⟩ | ⟨a, i, x, h, rfl⟩ | ⟨a, b, rfl⟩ | ⟨x, rfl⟩ <;> exact va_Nw.same rfl hv hz
def tysG (ks : Nat → ClassId) : List (ClassId × FieldType) := [(ks 0, .int), (ks 0, .int), (ks 2, .object RX0), (ks 3, .object RX1), (ks 4, .object RX2), (ks 5, .object RX3)]
/-- what is known of the machine's tables and of the cells that nobody here writes -/
def GE (D : va_G) (ks : Nat → ClassId) (bx : Nat) (U : State) : Prop :=
  va_K D vwCl (tysG ks) U ∧ (∀ w ∈ gwl, va_Nw w U) ∧ (∀ C ∈ gao, va_AO C U) ∧ (∀ q ∈ gnc, va_Nc q.1 q.2 U) ∧ (∀ q ∈ gst, ∃ sa, vk_R RX4 q.1 q.2 sa U) ∧ vx_Zq Bundle.tN "UNASSIGNED_STACK" Bundle.steD (fun q => bx ≤ q) U U.heap ∧ vx_Zq Bundle.tN "SUPPRESSED_SENTINEL" Bundle.listD (fun q => bx ≤ q) U U.heap
theorem GE.calling {D : va_G} {ks : Nat → ClassId} {bx : Nat} {U : State} (h : GE D ks bx U) (g : JFrame) (mk : MethodId) (a : Array Value) : GE D ks bx (U.calling g mk a) := by
  obtain ⟨h1, h2, h3, h4, h5, h6, h7⟩ := h
  have e : U.vm = (U.calling g mk a).vm := rfl
  have hal : U.vm.Alike (U.calling g mk a).vm := Vm.Alike.refl U.vm
  exact ⟨va_K.moved (u := U) hal h1, fun w hw => (gwl_k w hw).same e (h2 w hw), fun C hC => va_AO.moved (u := U) hal (h3 C hC), fun q hq => va_Nc.moved (u := U) hal (h4 q hq), fun q hq => (h5 q hq).imp fun sa hs => vk_R.same (u := U) e.symm hs, vx_Zq.moved (u := U) hal h6, vx_Zq.moved (u := U) hal h7⟩
/-- a method may write: a region of its own, and what is new -/
def AR (Rg : Nat → Prop) (sz : Nat) : Nat → Prop := fun q => Rg q ∨ sz ≤ q
theorem GE.go {D : va_G} {ks : Nat → ClassId} {bx : Nat} {s U : State} {H : Heap} {locs : List Loc} {Rg : Nat → Prop} (h : GE D ks bx s) (hS : va_S (AR Rg s.heap.size) s.heap H locs) (hR : ∀ q, Rg q → bx ≤ q) (hU : U.heap = H) (hW : s.WarmedH U.vm) : GE D ks bx U := by
  obtain ⟨h1, h2, h3, h4, h5, h6, h7⟩ := h
  have hk : ∀ a : Nat, a < s.heap.size → ¬ bx ≤ a → U.heap[a]? = s.heap[a]? := fun a ha hn => by
    rw [hU]
    exact hS.2.1 a ha (fun q => q.elim (fun r => hn (hR a r)) (fun r => by omega))
  exact ⟨va_K.moved hW.alike h1, fun w hw => (gwl_k w hw).warm hW (h2 w hw), fun C hC => va_AO.moved hW.alike (h3 C hC), fun q hq => va_Nc.moved hW.alike (h4 q hq), fun q hq => (h5 q hq).imp fun sa hs => vk_R.warm hW hs, vx_Zq.moved hW.alike (h6.kept hk), vx_Zq.moved hW.alike (h7.kept hk)⟩
/-! ===== one form of contract ===== -/
def Pre (D : va_G) (ks : Nat → ClassId) (bx : Nat) (H0 : Heap) (U : State) : Prop := U.heap = H0 ∧ GE D ks bx U
theorem Pre.blind {D : va_G} {ks : Nat → ClassId} {bx : Nat} {H0 : Heap} {as : List Value} : FrameBlind (va_Pc as (Pre D ks bx H0)) := fun a _ g mk h => ⟨h.1, h.2.1, h.2.2.calling g mk a⟩
def gQ (post : Option Value → Heap → Prop) (A : Nat → Prop) : Array Value → State → Outcome → State → Prop := fun _ st oc t => (∃ v, oc = .returned v ∧ post v t.heap) ∧ va_F A st t
def gX (xp : String → Heap → Prop) (A : Nat → Prop) : String → State → State → Prop := fun E st t => xp E t.heap ∧ va_F A st t
/-- from the heap H0, with the arguments as: it returns v with 'post v H1', or throws an E with 'xp E H1'; only Rg and new cells are written -/
def KM (l : Launch) (y : MethodName) (ws : List Cond) (rm : Room) (D : va_G) (ks : Nat → ClassId) (bx : Nat) (as : List Value) (H0 : Heap) (Rg : Nat → Prop) (post : Option Value → Heap → Prop) (xp : String → Heap → Prop) : Prop :=
  vx_Met l y ws rm (va_Pc as (Pre D ks bx H0)) (gQ post (AR Rg H0.size)) (gX xp (AR Rg H0.size)) rm.cells rm.slots (AR Rg H0.size)
theorem KM.of {l : Launch} {y : MethodName} {ws ws' : List Cond} {rm : Room} {D : va_G} {ks : Nat → ClassId} {bx : Nat} {as : List Value} {H0 : Heap} {Rg : Nat → Prop} {post : Option Value → Heap → Prop} {xp : String → Heap → Prop} {cc : ByteArray} {maxL : Nat} {ret : Option FieldType}
    (hy : plainName y.cls = true) (hw : ws = Cond.code y cc maxL ret :: ws') (hal : (lg_sl as).length ≤ maxL)
    (body : ∀ (p : Program) (e : Env) (s : State) (m : MethodId) (below : List Frame) (meth : Method) (c : Code), p.tables.exec = Jvm.exec → c.code = cc → c.maxLocals = maxL → meth.sig.returnType = ret → meth.locks = false → s.vm.findClass y.cls = some m.cls → meth.name = y.name → (∀ w ∈ ws, w.before as.toArray s = true) → (∀ x ∈ c.exceptionTable.toList, False) → s.heap = H0 → GE D ks bx s → ∀ ls : Array Slot, lv_has ls maxL (lv_args 0 as) →
      W p l e rm s m as.toArray below meth c H0 [] 0 0 (vx_MQ below (gQ post (AR Rg H0.size)) (gX xp (AR Rg H0.size)) as.toArray s rm.cells rm.slots (AR Rg H0.size)) (F0 m 0 ls [])) :
    KM l y ws rm D ks bx as H0 Rg post xp := by
  refine vx_ofW (cc := cc) (maxL := maxL) (ret := ret) hy hw ?_
  intro p e s m args below meth c s₁ B hml ht hP
  obtain ⟨rfl, hH, hG⟩ := hP
  have hl := lv_entry as (n := maxL) hal
  rw [lg_entry_eq, hH]
  exact body p e s m below meth c B.exec B.bytes hml B.returns B.notSynchronized (findClass_of_methodNamed B.named) (name_of_methodNamed B.named B.method).1 (atoms_spec (ws := ws) B.pre) ht hH hG _ hl
/-- .. of a method with an exception table -/
theorem KM.ofH {l : Launch} {y : MethodName} {ws ws' : List Cond} {rm : Room} {D : va_G} {ks : Nat → ClassId} {bx : Nat} {as : List Value} {H0 : Heap} {Rg : Nat → Prop} {post : Option Value → Heap → Prop} {xp : String → Heap → Prop} {cc : ByteArray} {maxL : Nat} {ret : Option FieldType} {hh : List (Nat × Nat × Nat × Nat)}
    (hy : plainName y.cls = true) (hw : ws = Cond.codeWith y cc maxL ret hh :: ws') (hal : (lg_sl as).length ≤ maxL)
    (body : ∀ (p : Program) (e : Env) (s : State) (m : MethodId) (below : List Frame) (meth : Method) (c : Code), p.tables.exec = Jvm.exec → c.code = cc → c.maxLocals = maxL → meth.sig.returnType = ret → meth.locks = false → s.vm.findClass y.cls = some m.cls → (∀ w ∈ ws, w.before as.toArray s = true) → c.exceptionTable.toList = tableOf hh → s.heap = H0 → GE D ks bx s → ∀ ls : Array Slot, lv_has ls maxL (lv_args 0 as) →
      W p l e rm s m as.toArray below meth c H0 [] 0 0 (vx_MQ below (gQ post (AR Rg H0.size)) (gX xp (AR Rg H0.size)) as.toArray s rm.cells rm.slots (AR Rg H0.size)) (F0 m 0 ls [])) :
    KM l y ws rm D ks bx as H0 Rg post xp := by
  refine vx_ofWH (cc := cc) (maxL := maxL) (ret := ret) (hh := hh) hy hw ?_
  intro p e s m args below meth c s₁ B hml hP
  obtain ⟨rfl, hH, hG⟩ := hP
  have hl := lv_entry as (n := maxL) hal
  rw [lg_entry_eq, hH]
  have hpre := atoms_spec (ws := ws) B.pre
  exact body p e s m below meth c B.exec B.bytes hml B.returns B.notSynchronized (findClass_of_methodNamed B.named) hpre (vx_table (x := y) B (hpre _ (by rw [hw]; exact List.mem_cons_self))) hH hG _ hl
section GR
variable {p : Program} {l : Launch} {e : Env} {R : Room} {s : State} {m : MethodId} {args : Array Value} {below : List Frame} {meth : Method} {c : Code} {H : Heap} {locs : List Loc} {cells slots : Nat} {Q : State → Prop}
variable {cc : ByteArray} {pc : Nat} {ls : Array Slot} {rest : List Value} {D : va_G} {ks : Nat → ClassId} {bx : Nat} {Rg : Nat → Prop}
/-! ===== branches, over integers ===== -/
theorem b_icmp_eq (hx : p.tables.exec = Jvm.exec) (hb : c.code = cc) {a b : Int} {off : Int} {tgt : Nat} (hdg : decode cc pc = .ok (.if_icmp .eq off, 3)) (ht : (pc : Int) + off = (tgt : Int)) (hr : B31 a ∧ B31 b)
    (kt : a = b → W p l e R s m args below meth c H locs cells slots Q (F0 m tgt ls rest)) (kf : a ≠ b → W p l e R s m args below meth c H locs cells slots Q (F0 m (pc + 3) ls rest)) : W p l e R s m args below meth c H locs cells slots Q (F0 m pc ls (.int (z2 b) :: .int (z2 a) :: rest)) :=
  lv_icmp_eq hx hb hdg ht (fun h => kt ((z2_eq hr.1 hr.2).mp h)) (fun h => kf (fun q => h ((z2_eq hr.1 hr.2).mpr q)))
theorem b_icmp_ne (hx : p.tables.exec = Jvm.exec) (hb : c.code = cc) {a b : Int} {off : Int} {tgt : Nat} (hdg : decode cc pc = .ok (.if_icmp .ne off, 3)) (ht : (pc : Int) + off = (tgt : Int)) (hr : B31 a ∧ B31 b)
    (kt : a ≠ b → W p l e R s m args below meth c H locs cells slots Q (F0 m tgt ls rest)) (kf : a = b → W p l e R s m args below meth c H locs cells slots Q (F0 m (pc + 3) ls rest)) : W p l e R s m args below meth c H locs cells slots Q (F0 m pc ls (.int (z2 b) :: .int (z2 a) :: rest)) :=
  lv_icmp_ne hx hb hdg ht (fun h => kt (fun q => h ((z2_eq hr.1 hr.2).mpr q))) (fun h => kf ((z2_eq hr.1 hr.2).mp h))
theorem b_icmp_lt (hx : p.tables.exec = Jvm.exec) (hb : c.code = cc) {a b : Int} {off : Int} {tgt : Nat} (hdg : decode cc pc = .ok (.if_icmp .lt off, 3)) (ht : (pc : Int) + off = (tgt : Int)) (hr : B31 a ∧ B31 b)
    (kt : a < b → W p l e R s m args below meth c H locs cells slots Q (F0 m tgt ls rest)) (kf : b ≤ a → W p l e R s m args below meth c H locs cells slots Q (F0 m (pc + 3) ls rest)) : W p l e R s m args below meth c H locs cells slots Q (F0 m pc ls (.int (z2 b) :: .int (z2 a) :: rest)) :=
  lv_icmp_lt hx hb hdg ht (fun h => kt ((z2_lt hr.1 hr.2).mp h)) (fun h => kf (Int.not_lt.mp (fun q => h ((z2_lt hr.1 hr.2).mpr q))))
theorem b_icmp_ge (hx : p.tables.exec = Jvm.exec) (hb : c.code = cc) {a b : Int} {off : Int} {tgt : Nat} (hdg : decode cc pc = .ok (.if_icmp .ge off, 3)) (ht : (pc : Int) + off = (tgt : Int)) (hr : B31 a ∧ B31 b)
    (kt : b ≤ a → W p l e R s m args below meth c H locs cells slots Q (F0 m tgt ls rest)) (kf : a < b → W p l e R s m args below meth c H locs cells slots Q (F0 m (pc + 3) ls rest)) : W p l e R s m args below meth c H locs cells slots Q (F0 m pc ls (.int (z2 b) :: .int (z2 a) :: rest)) :=
  lv_icmp_ge hx hb hdg ht (fun h => kt ((z2_le hr.2 hr.1).mp h)) (fun h => kf (Int.not_le.mp (fun q => h ((z2_le hr.2 hr.1).mpr q))))
theorem b_icmp_gt (hx : p.tables.exec = Jvm.exec) (hb : c.code = cc) {a b : Int} {off : Int} {tgt : Nat} (hdg : decode cc pc = .ok (.if_icmp .gt off, 3)) (ht : (pc : Int) + off = (tgt : Int)) (hr : B31 a ∧ B31 b)
    (kt : b < a → W p l e R s m args below meth c H locs cells slots Q (F0 m tgt ls rest)) (kf : a ≤ b → W p l e R s m args below meth c H locs cells slots Q (F0 m (pc + 3) ls rest)) : W p l e R s m args below meth c H locs cells slots Q (F0 m pc ls (.int (z2 b) :: .int (z2 a) :: rest)) :=
  lv_icmp_gt hx hb hdg ht (fun h => kt ((z2_lt hr.2 hr.1).mp h)) (fun h => kf (Int.not_lt.mp (fun q => h ((z2_lt hr.2 hr.1).mpr q))))
theorem b_icmp_le (hx : p.tables.exec = Jvm.exec) (hb : c.code = cc) {a b : Int} {off : Int} {tgt : Nat} (hdg : decode cc pc = .ok (.if_icmp .le off, 3)) (ht : (pc : Int) + off = (tgt : Int)) (hr : B31 a ∧ B31 b)
    (kt : a ≤ b → W p l e R s m args below meth c H locs cells slots Q (F0 m tgt ls rest)) (kf : b < a → W p l e R s m args below meth c H locs cells slots Q (F0 m (pc + 3) ls rest)) : W p l e R s m args below meth c H locs cells slots Q (F0 m pc ls (.int (z2 b) :: .int (z2 a) :: rest)) :=
  lv_icmp_le hx hb hdg ht (fun h => kt ((z2_le hr.1 hr.2).mp h)) (fun h => kf (Int.not_le.mp (fun q => h ((z2_le hr.1 hr.2).mpr q))))
theorem b_if_eq (hx : p.tables.exec = Jvm.exec) (hb : c.code = cc) {a : Int} {off : Int} {tgt : Nat} (hdg : decode cc pc = .ok (.ifCond .eq off, 3)) (ht : (pc : Int) + off = (tgt : Int)) (hr : B31 a)
    (kt : a = 0 → W p l e R s m args below meth c H locs cells slots Q (F0 m tgt ls rest)) (kf : a ≠ 0 → W p l e R s m args below meth c H locs cells slots Q (F0 m (pc + 3) ls rest)) : W p l e R s m args below meth c H locs cells slots Q (F0 m pc ls (.int (z2 a) :: rest)) :=
  lv_if_eq hx hb hdg ht (fun h => kt ((z2_eq hr B31_0).mp (h.trans z2_0))) (fun h => kf (fun q => h (((z2_eq hr B31_0).mpr q).trans z2_0.symm)))
theorem b_if_ne (hx : p.tables.exec = Jvm.exec) (hb : c.code = cc) {a : Int} {off : Int} {tgt : Nat} (hdg : decode cc pc = .ok (.ifCond .ne off, 3)) (ht : (pc : Int) + off = (tgt : Int)) (hr : B31 a)
    (kt : a ≠ 0 → W p l e R s m args below meth c H locs cells slots Q (F0 m tgt ls rest)) (kf : a = 0 → W p l e R s m args below meth c H locs cells slots Q (F0 m (pc + 3) ls rest)) : W p l e R s m args below meth c H locs cells slots Q (F0 m pc ls (.int (z2 a) :: rest)) :=
  lv_if_ne hx hb hdg ht (fun h => kt (fun q => h (((z2_eq hr B31_0).mpr q).trans z2_0.symm))) (fun h => kf ((z2_eq hr B31_0).mp (h.trans z2_0)))
theorem b_if_lt (hx : p.tables.exec = Jvm.exec) (hb : c.code = cc) {a : Int} {off : Int} {tgt : Nat} (hdg : decode cc pc = .ok (.ifCond .lt off, 3)) (ht : (pc : Int) + off = (tgt : Int)) (hr : B31 a)
    (kt : a < 0 → W p l e R s m args below meth c H locs cells slots Q (F0 m tgt ls rest)) (kf : 0 ≤ a → W p l e R s m args below meth c H locs cells slots Q (F0 m (pc + 3) ls rest)) : W p l e R s m args below meth c H locs cells slots Q (F0 m pc ls (.int (z2 a) :: rest)) :=
  lv_if_lt hx hb hdg ht (fun h => kt ((z2_lt hr B31_0).mp (by rw [← z2_0]; exact h))) (fun h => kf (Int.not_lt.mp (fun q => h (by rw [z2_0]; exact (z2_lt hr B31_0).mpr q))))
theorem b_if_ge (hx : p.tables.exec = Jvm.exec) (hb : c.code = cc) {a : Int} {off : Int} {tgt : Nat} (hdg : decode cc pc = .ok (.ifCond .ge off, 3)) (ht : (pc : Int) + off = (tgt : Int)) (hr : B31 a)
    (kt : 0 ≤ a → W p l e R s m args below meth c H locs cells slots Q (F0 m tgt ls rest)) (kf : a < 0 → W p l e R s m args below meth c H locs cells slots Q (F0 m (pc + 3) ls rest)) : W p l e R s m args below meth c H locs cells slots Q (F0 m pc ls (.int (z2 a) :: rest)) :=
  lv_if_ge hx hb hdg ht (fun h => kt ((z2_le B31_0 hr).mp (by rw [← z2_0]; exact h))) (fun h => kf (Int.not_le.mp (fun q => h (by rw [z2_0]; exact (z2_le B31_0 hr).mpr q))))
theorem b_if_gt (hx : p.tables.exec = Jvm.exec) (hb : c.code = cc) {a : Int} {off : Int} {tgt : Nat} (hdg : decode cc pc = .ok (.ifCond .gt off, 3)) (ht : (pc : Int) + off = (tgt : Int)) (hr : B31 a)
    (kt : 0 < a → W p l e R s m args below meth c H locs cells slots Q (F0 m tgt ls rest)) (kf : a ≤ 0 → W p l e R s m args below meth c H locs cells slots Q (F0 m (pc + 3) ls rest)) : W p l e R s m args below meth c H locs cells slots Q (F0 m pc ls (.int (z2 a) :: rest)) :=
  lv_if_gt hx hb hdg ht (fun h => kt ((z2_lt B31_0 hr).mp (by rw [← z2_0]; exact h))) (fun h => kf (Int.not_lt.mp (fun q => h (by rw [z2_0]; exact (z2_lt B31_0 hr).mpr q))))
theorem b_if_le (hx : p.tables.exec = Jvm.exec) (hb : c.code = cc) {a : Int} {off : Int} {tgt : Nat} (hdg : decode cc pc = .ok (.ifCond .le off, 3)) (ht : (pc : Int) + off = (tgt : Int)) (hr : B31 a)
    (kt : a ≤ 0 → W p l e R s m args below meth c H locs cells slots Q (F0 m tgt ls rest)) (kf : 0 < a → W p l e R s m args below meth c H locs cells slots Q (F0 m (pc + 3) ls rest)) : W p l e R s m args below meth c H locs cells slots Q (F0 m pc ls (.int (z2 a) :: rest)) :=
  lv_if_le hx hb hdg ht (fun h => kt ((z2_le hr B31_0).mp (by rw [← z2_0]; exact h))) (fun h => kf (Int.not_le.mp (fun q => h (by rw [z2_0]; exact (z2_le hr B31_0).mpr q))))
/-! ===== arithmetic ===== -/
theorem b_iconst (hx : p.tables.exec = Jvm.exec) (hb : c.code = cc) {n : Int} (hdg : decode cc pc = .ok (.iconst n, 1)) (k : W p l e R s m args below meth c H locs cells slots Q (F0 m (pc + 1) ls (.int (z2 n) :: rest))) : W p l e R s m args below meth c H locs cells slots Q (F0 m pc ls rest) := lv_iconst (v := z2 n) hx hb hdg rfl k
theorem b_bipush (hx : p.tables.exec = Jvm.exec) (hb : c.code = cc) {n : Int} (hdg : decode cc pc = .ok (.bipush n, 2)) (hv : (Int8.ofInt n).toInt32 = z2 n) (k : W p l e R s m args below meth c H locs cells slots Q (F0 m (pc + 2) ls (.int (z2 n) :: rest))) : W p l e R s m args below meth c H locs cells slots Q (F0 m pc ls rest) := lv_bipush (v := z2 n) hx hb hdg hv k
theorem b_sipush (hx : p.tables.exec = Jvm.exec) (hb : c.code = cc) {n : Int} (hdg : decode cc pc = .ok (.sipush n, 3)) (hv : (Int16.ofInt n).toInt32 = z2 n) (k : W p l e R s m args below meth c H locs cells slots Q (F0 m (pc + 3) ls (.int (z2 n) :: rest))) : W p l e R s m args below meth c H locs cells slots Q (F0 m pc ls rest) := lv_sipush (v := z2 n) hx hb hdg hv k
theorem b_iadd (hx : p.tables.exec = Jvm.exec) (hb : c.code = cc) {a b : Int} (hdg : decode cc pc = .ok (.iadd, 1)) (k : W p l e R s m args below meth c H locs cells slots Q (F0 m (pc + 1) ls (.int (z2 (a + b)) :: rest))) : W p l e R s m args below meth c H locs cells slots Q (F0 m pc ls (.int (z2 b) :: .int (z2 a) :: rest)) := lv_iadd hx hb hdg (by rw [z2_add]; exact k)
theorem b_isub (hx : p.tables.exec = Jvm.exec) (hb : c.code = cc) {a b : Int} (hdg : decode cc pc = .ok (.isub, 1)) (k : W p l e R s m args below meth c H locs cells slots Q (F0 m (pc + 1) ls (.int (z2 (a - b)) :: rest))) : W p l e R s m args below meth c H locs cells slots Q (F0 m pc ls (.int (z2 b) :: .int (z2 a) :: rest)) := lv_isub hx hb hdg (by rw [z2_sub]; exact k)
theorem b_imul (hx : p.tables.exec = Jvm.exec) (hb : c.code = cc) {a b : Int} (hdg : decode cc pc = .ok (.imul, 1)) (k : W p l e R s m args below meth c H locs cells slots Q (F0 m (pc + 1) ls (.int (z2 (a * b)) :: rest))) : W p l e R s m args below meth c H locs cells slots Q (F0 m pc ls (.int (z2 b) :: .int (z2 a) :: rest)) := lv_imul hx hb hdg (by rw [z2_mul]; exact k)
theorem b_idiv (hx : p.tables.exec = Jvm.exec) (hb : c.code = cc) {a b : Int} (hr : (0 ≤ a ∧ a < 2147483648) ∧ 0 < b ∧ b < 2147483648) (hdg : decode cc pc = .ok (.idiv, 1)) (k : W p l e R s m args below meth c H locs cells slots Q (F0 m (pc + 1) ls (.int (z2 (a / b)) :: rest))) : W p l e R s m args below meth c H locs cells slots Q (F0 m pc ls (.int (z2 b) :: .int (z2 a) :: rest)) := lv_idiv hx hb hdg (by rw [z2_0, z2_eq ⟨by omega, by omega⟩ B31_0]; omega) (by rw [z2_div hr.1.1 hr.1.2 hr.2.1 hr.2.2]; exact k)
theorem b_irem (hx : p.tables.exec = Jvm.exec) (hb : c.code = cc) {a b : Int} (hr : (0 ≤ a ∧ a < 2147483648) ∧ 0 < b ∧ b < 2147483648) (hdg : decode cc pc = .ok (.irem, 1)) (k : W p l e R s m args below meth c H locs cells slots Q (F0 m (pc + 1) ls (.int (z2 (a % b)) :: rest))) : W p l e R s m args below meth c H locs cells slots Q (F0 m pc ls (.int (z2 b) :: .int (z2 a) :: rest)) := lv_irem hx hb hdg (by rw [z2_0, z2_eq ⟨by omega, by omega⟩ B31_0]; omega) (by rw [z2_rem hr.1.1 hr.1.2 hr.2.1 hr.2.2]; exact k)
theorem b_iinc (hx : p.tables.exec = Jvm.exec) (hb : c.code = cc) {i nL k : Nat} {n a : Int} {lv lv' : List (Nat × Value)} (hdg : decode cc pc = .ok (.iinc i n, 3)) (h : lv_has ls nL lv) (hk : lv[k]? = some (i, .int (z2 a))) (hn : i < nL) (hl : (i, Value.int (z2 (a + n))) :: lv.filter (fun q => !(q.1 == i) && !(q.1 + 1 == i && q.2.category == 2)) = lv')
    (kk : ∀ ls' : Array Slot, lv_has ls' nL lv' → W p l e R s m args below meth c H locs cells slots Q (F0 m (pc + 3) ls' rest)) : W p l e R s m args below meth c H locs cells slots Q (F0 m pc ls rest) := lv_iinc hx hb hdg h hk (z2_add a n) hn hl kk
theorem b_min (hx : p.tables.exec = Jvm.exec) (hb : c.code = cc) (hml : c.maxLocals = ls.size) {own : String} {index : Nat} (hown : s.vm.findClass own = some m.cls) (hlink : (Cond.methodLink own index Lib.Math.min.name).before args s = true) (hstat : (Cond.static Lib.Math.min.name).before args s = true) (hini : (Cond.initialized "java/lang/Math").before args s = true) (hcode : (Cond.code Lib.Math.min.name Lib.Math.min.code 2 (some .int)).before args s = true)
    (hfr : 1 ≤ R.frames ∧ (rest.map fun v => v.category).sum + 13 ≤ R.locals ∧ cells ≤ R.cells ∧ slots ≤ R.slots) {a b : Int} (hr : B31 a ∧ B31 b) (hdg : decode cc pc = .ok (.invokestatic index, 3))
    (kk : W p l e R s m args below meth c H locs cells slots Q (F0 m (pc + 3) ls (.int (z2 (min a b)) :: rest))) : W p l e R s m args below meth c H locs cells slots Q (F0 m pc ls (.int (z2 b) :: .int (z2 a) :: rest)) := by
  refine va_mmin hx hb hml hown hlink hstat hini hcode hfr.1 hfr.2.1 hfr.2.2.1 hfr.2.2.2 hdg ?_
  have e : (if z2 b < z2 a then z2 b else z2 a) = z2 (min a b) := by
    by_cases h : b < a
    · rw [if_pos ((z2_lt hr.2 hr.1).mpr h), Int.min_eq_right (by omega)]
    · rw [if_neg (fun q => h ((z2_lt hr.2 hr.1).mp q)), Int.min_eq_left (by omega)]
  rw [e]
  exact kk
theorem b_max (hx : p.tables.exec = Jvm.exec) (hb : c.code = cc) (hml : c.maxLocals = ls.size) {own : String} {index : Nat} (hown : s.vm.findClass own = some m.cls) (hlink : (Cond.methodLink own index Lib.Math.max.name).before args s = true) (hstat : (Cond.static Lib.Math.max.name).before args s = true) (hini : (Cond.initialized "java/lang/Math").before args s = true) (hcode : (Cond.code Lib.Math.max.name Lib.Math.max.code 2 (some .int)).before args s = true)
    (hfr : 1 ≤ R.frames ∧ (rest.map fun v => v.category).sum + 13 ≤ R.locals ∧ cells ≤ R.cells ∧ slots ≤ R.slots) {a b : Int} (hr : B31 a ∧ B31 b) (hdg : decode cc pc = .ok (.invokestatic index, 3))
    (kk : W p l e R s m args below meth c H locs cells slots Q (F0 m (pc + 3) ls (.int (z2 (max a b)) :: rest))) : W p l e R s m args below meth c H locs cells slots Q (F0 m pc ls (.int (z2 b) :: .int (z2 a) :: rest)) := by
  refine va_mmax hx hb hml hown hlink hstat hini hcode hfr.1 hfr.2.1 hfr.2.2.1 hfr.2.2.2 hdg ?_
  have e : (if z2 a < z2 b then z2 b else z2 a) = z2 (max a b) := by
    by_cases h : a < b
    · rw [if_pos ((z2_lt hr.1 hr.2).mpr h), Int.max_eq_right (by omega)]
    · rw [if_neg (fun q => h ((z2_lt hr.1 hr.2).mp q)), Int.max_eq_left (by omega)]
  rw [e]
  exact kk
theorem b_top {x : Int32} {v : Int} (h : x = z2 v) (k : W p l e R s m args below meth c H locs cells slots Q (F0 m pc ls (.int (z2 v) :: rest))) : W p l e R s m args below meth c H locs cells slots Q (F0 m pc ls (.int x :: rest)) := by
  rw [h]
  exact k
/-! ===== the heap: one cell at a time ===== -/
abbrev ca (D : va_G) (a : Nat) (x : va_E) (H : Heap) : Prop := va_at D vwCl (a, x) H
theorem ca.P {a : Nat} {x : va_E} (h : ca D a x H) : va_P D vwCl [(a, x)] H := fun k q hk => by
  cases k with
  | zero => cases hk; exact h
  | succ k => cases hk
theorem ca.lt {a : Nat} {x : va_E} (h : ca D a x H) : a < H.size := va_at.lt h
theorem ca.kept {a : Nat} {x : va_E} {H1 : Heap} (h : ca D a x H) (hq : H1[a]? = H[a]?) : ca D a x H1 := va_at.kept h hq
/-- getfield -/
theorem g_get (hx : p.tables.exec = Jvm.exec) (hb : c.code = cc) {own C : String} {T : u_T} {N ci index : Nat} {Ts : List Cond} (hts : ∀ w ∈ Ts, w.before args s = true) (hin : ∀ w ∈ u_ws C T N, w ∈ Ts) (hown : s.vm.findClass own = some m.cls) (hG : GE D ks bx s) {a : Nat} {fs : List Value} (he : ca D a (.inr (ci, fs)) H) (hc : vwCl[ci]? = some (C, T, N)) (k : Nat) (hk : k < N) (hlink : Cond.fieldLink own index C (T k).2.1 (T k).2.2.1 ∈ Ts) (h1 : (T k).1 = C) {v : Value} (hv : fs[k]? = some v) (hdg : decode cc pc = .ok (.getfield index, 3))
    (kk : W p l e R s m args below meth c H locs cells slots Q (F0 m (pc + 3) ls (v :: rest))) : W p l e R s m args below meth c H locs cells slots Q (F0 m pc ls (.ref a :: rest)) :=
  va_get hx hb hts hin hown hG.1 (ca.P he) 0 rfl hc k hk (hts _ hlink) (fun _ h => by rw [h1] at h; exact h) hv hdg kk
theorem g_getN (hx : p.tables.exec = Jvm.exec) (hb : c.code = cc) {own C : String} {T : u_T} {N ci index : Nat} {Ts : List Cond} (hts : ∀ w ∈ Ts, w.before args s = true) (hin : ∀ w ∈ u_ws C T N, w ∈ Ts) (hown : s.vm.findClass own = some m.cls) (hG : GE D ks bx s) {a : Nat} {fs : List Value} (he : ca D a (.inr (ci, fs)) H) (hc : vwCl[ci]? = some (C, T, N)) (k : Nat) (hk : k < N) (hlink : Cond.fieldLinkNest own index C (T k).2.1 (T k).2.2.1 RX4 ∈ gwl) (h1 : (T k).1 = C) {v : Value} (hv : fs[k]? = some v) (hdg : decode cc pc = .ok (.getfield index, 3))
    (kk : W p l e R s m args below meth c H locs cells slots Q (F0 m (pc + 3) ls (v :: rest))) : W p l e R s m args below meth c H locs cells slots Q (F0 m pc ls (.ref a :: rest)) :=
  va_getN hx hb hts hin hown hG.1 (ca.P he) 0 rfl hc k hk (va_Nw.use rfl (hG.2.1 _ hlink)) (fun _ h => by rw [h1] at h; exact h) hv hdg kk
theorem va_S.ar {A : Nat → Prop} {H0 H1 : Heap} {a k : Nat} (h : va_S A H0 H locs) (z : H1.size = H.size) (oq : ∀ q : Nat, q ≠ a → H1[q]? = H[q]?) (ha : A a) : va_S A H0 H1 (locs ++ [⟨a, k⟩]) := h.put z oq ha
/-- putfield, a field that isn't final -/
theorem g_put (hx : p.tables.exec = Jvm.exec) (hb : c.code = cc) {own C : String} {T : u_T} {N ci index : Nat} {Ts : List Cond} (hts : ∀ w ∈ Ts, w.before args s = true) (hin : ∀ w ∈ u_ws C T N, w ∈ Ts) (ty0 : Nat → FieldType) (hty : ∀ k, k < N → parseFieldDescriptor (T k).2.2.1 = some (ty0 k)) (hnm : ∀ a, a < N → ∀ b, b < N → a ≠ b → (T a).2.1 ≠ (T b).2.1) (hown : s.vm.findClass own = some m.cls) (hG : GE D ks bx s) {A : Nat → Prop} (hS : va_S A s.heap H locs) {a : Nat} {fs : List Value} (he : ca D a (.inr (ci, fs)) H) (ha : A a) (hc : vwCl[ci]? = some (C, T, N)) (k : Nat) (hk : k < N) (hlink : Cond.fieldLink own index C (T k).2.1 (T k).2.2.1 ∈ Ts) (h1 : (T k).1 = C) (hfin : (T k).2.2.2 = false) {v : Value} (hn : narrow (ty0 k) v = v) (hfit : fits (ty0 k) v = true) (hl : k < fs.length) (hdg : decode cc pc = .ok (.putfield index, 3))
    (kk : ∀ (H1 : Heap) (locs1 : List Loc), ca D a (.inr (ci, fs.set k v)) H1 → H1.size = H.size → (∀ q : Nat, q ≠ a → H1[q]? = H[q]?) → va_S A s.heap H1 locs1 → W p l e R s m args below meth c H1 locs1 cells slots Q (F0 m (pc + 3) ls rest)) : W p l e R s m args below meth c H locs cells slots Q (F0 m pc ls (v :: .ref a :: rest)) := by
  have hK := hG.1
  have hap := va_apart (own := own) hts hin ty0 hty hnm hK hc
  obtain ⟨r, h1', cell, q1, q2, q3, q4⟩ := he
  have hr : r = (C, T, N) := Option.some.inj (h1'.symm.trans hc)
  subst hr
  obtain ⟨hSl, hfc, kC, hkC, hkind⟩ := hK.1 ci _ hc
  obtain ⟨cf, kf, fi, f, hi, hsl⟩ := hSl k hk
  have hlay := hts _ (hin _ (u_in_lay hk))
  unfold u_lay at hlay
  rw [if_neg (by rw [hfin]; decide)] at hlay
  have hst := (u_facts hfc hkC (u_lays hts hin hk) hi).1
  have h6 := u_store hfc hkC hkind hlay hi (hty k hk) hn hfit
  have hi' : s.fieldFound? C (T k).2.1 (T k).2.2.1 = some (cf, kf, fi, f) := by rw [h1] at hi; exact hi
  refine W.putK hx hb (f := f) ⟨hown, hts _ hlink, ⟨_, _, _, hi'⟩, hst⟩ (by rw [q2]; exact h6) q1 q3 (by rw [hsl]; exact k2_hasslot (q4 k hk)) rfl rfl hdg fun H' e1 e2 e3 => ?_
  rw [hsl] at e1 ⊢
  exact kk H' _ ⟨_, hc, t_OB.to (V := updV (vp_V fs) k v) ⟨_, e1, q2, q3, t_set q4 hap hk v⟩ (fun j _ => vp_updV_set hl v j)⟩ e2 e3 (hS.put e2 e3 ha)
theorem g_putN (hx : p.tables.exec = Jvm.exec) (hb : c.code = cc) {own C : String} {T : u_T} {N ci index : Nat} {Ts : List Cond} (hts : ∀ w ∈ Ts, w.before args s = true) (hin : ∀ w ∈ u_ws C T N, w ∈ Ts) (ty0 : Nat → FieldType) (hty : ∀ k, k < N → parseFieldDescriptor (T k).2.2.1 = some (ty0 k)) (hnm : ∀ a, a < N → ∀ b, b < N → a ≠ b → (T a).2.1 ≠ (T b).2.1) (hown : s.vm.findClass own = some m.cls) (hG : GE D ks bx s) {A : Nat → Prop} (hS : va_S A s.heap H locs) {a : Nat} {fs : List Value} (he : ca D a (.inr (ci, fs)) H) (ha : A a) (hc : vwCl[ci]? = some (C, T, N)) (k : Nat) (hk : k < N) (hlink : Cond.fieldLinkNest own index C (T k).2.1 (T k).2.2.1 RX4 ∈ gwl) (h1 : (T k).1 = C) (hfin : (T k).2.2.2 = false) {v : Value} (hn : narrow (ty0 k) v = v) (hfit : fits (ty0 k) v = true) (hl : k < fs.length) (hdg : decode cc pc = .ok (.putfield index, 3))
    (kk : ∀ (H1 : Heap) (locs1 : List Loc), ca D a (.inr (ci, fs.set k v)) H1 → H1.size = H.size → (∀ q : Nat, q ≠ a → H1[q]? = H[q]?) → va_S A s.heap H1 locs1 → W p l e R s m args below meth c H1 locs1 cells slots Q (F0 m (pc + 3) ls rest)) : W p l e R s m args below meth c H locs cells slots Q (F0 m pc ls (v :: .ref a :: rest)) := by
  have hK := hG.1
  have hap := va_apart (own := own) hts hin ty0 hty hnm hK hc
  obtain ⟨r, h1', cell, q1, q2, q3, q4⟩ := he
  have hr : r = (C, T, N) := Option.some.inj (h1'.symm.trans hc)
  subst hr
  obtain ⟨hSl, hfc, kC, hkC, hkind⟩ := hK.1 ci _ hc
  obtain ⟨cf, kf, fi, f, hi, hsl⟩ := hSl k hk
  have hlay := hts _ (hin _ (u_in_lay hk))
  unfold u_lay at hlay
  rw [if_neg (by rw [hfin]; decide)] at hlay
  have hst := (u_facts hfc hkC (u_lays hts hin hk) hi).1
  have h6 := u_store hfc hkC hkind hlay hi (hty k hk) hn hfit
  have hi' : s.fieldFound? C (T k).2.1 (T k).2.2.1 = some (cf, kf, fi, f) := by rw [h1] at hi; exact hi
  refine va_WputK hx hb (f := f) hown (va_Nw.use rfl (hG.2.1 _ hlink)) hi' hst (by rw [q2]; exact h6) q1 q3 (by rw [hsl]; exact k2_hasslot (q4 k hk)) rfl rfl hdg fun H' e1 e2 e3 => ?_
  rw [hsl] at e1 ⊢
  exact kk H' _ ⟨_, hc, t_OB.to (V := updV (vp_V fs) k v) ⟨_, e1, q2, q3, t_set q4 hap hk v⟩ (fun j _ => vp_updV_set hl v j)⟩ e2 e3 (hS.put e2 e3 ha)
/-- .. a final field in its constructor -/
theorem g_putF (hx : p.tables.exec = Jvm.exec) (hb : c.code = cc) {C : String} {T : u_T} {N ci index : Nat} {Ts : List Cond} (hts : ∀ w ∈ Ts, w.before args s = true) (hin : ∀ w ∈ u_ws C T N, w ∈ Ts) (ty0 : Nat → FieldType) (hty : ∀ k, k < N → parseFieldDescriptor (T k).2.2.1 = some (ty0 k)) (hnm : ∀ a, a < N → ∀ b, b < N → a ≠ b → (T a).2.1 ≠ (T b).2.1) (hown : s.vm.findClass C = some m.cls) (hinit : meth.name = "<init>") (hG : GE D ks bx s) {A : Nat → Prop} (hS : va_S A s.heap H locs) {a : Nat} {fs : List Value} (he : ca D a (.inr (ci, fs)) H) (ha : A a) (hc : vwCl[ci]? = some (C, T, N)) (k : Nat) (hk : k < N) (hlink : Cond.fieldLink C index C (T k).2.1 (T k).2.2.1 ∈ Ts) (h1 : (T k).1 = C) (hfin : (T k).2.2.2 = true) {v : Value} (hn : narrow (ty0 k) v = v) (hfit : fits (ty0 k) v = true) (hl : k < fs.length) (hdg : decode cc pc = .ok (.putfield index, 3))
    (kk : ∀ (H1 : Heap) (locs1 : List Loc), ca D a (.inr (ci, fs.set k v)) H1 → H1.size = H.size → (∀ q : Nat, q ≠ a → H1[q]? = H[q]?) → va_S A s.heap H1 locs1 → W p l e R s m args below meth c H1 locs1 cells slots Q (F0 m (pc + 3) ls rest)) : W p l e R s m args below meth c H locs cells slots Q (F0 m pc ls (v :: .ref a :: rest)) := by
  have hK := hG.1
  have hap := va_apart (own := C) hts hin ty0 hty hnm hK hc
  obtain ⟨r, h1', cell, q1, q2, q3, q4⟩ := he
  have hr : r = (C, T, N) := Option.some.inj (h1'.symm.trans hc)
  subst hr
  obtain ⟨hSl, hfc, kC, hkC, hkind⟩ := hK.1 ci _ hc
  obtain ⟨cf, kf, fi, f, hi, hsl⟩ := hSl k hk
  have hlay := hts _ (hin _ (u_in_lay hk))
  unfold u_lay at hlay
  rw [if_pos hfin] at hlay
  have hst := (u_facts hfc hkC (u_lays hts hin hk) hi).1
  have hcf : m.cls = cf := by
    obtain ⟨_, _, c', _, _, _, -, -, hf', -, -, -, hown2, -⟩ := Cond.laysFinal_spec hlay
    have e1 : c' = cf := by have := hi.symm.trans hf'; simp at this; exact this.1.symm
    rw [h1] at hown2
    rw [← e1]; exact Option.some.inj (hown.symm.trans hown2)
  have h6 := u_fits hfc hkC hkind (Or.inr hlay) hi (hty k hk) hn hfit
  have hi' : s.fieldFound? C (T k).2.1 (T k).2.2.1 = some (cf, kf, fi, f) := by rw [h1] at hi; exact hi
  refine W.putFinK hx hb hown (hts _ hlink) hi' hst hcf hinit (by rw [q2]; exact h6) q1 q3 (by rw [hsl]; exact k2_hasslot (q4 k hk)) rfl rfl hdg fun H' e1 e2 e3 => ?_
  rw [hsl] at e1 ⊢
  exact kk H' _ ⟨_, hc, t_OB.to (V := updV (vp_V fs) k v) ⟨_, e1, q2, q3, t_set q4 hap hk v⟩ (fun j _ => vp_updV_set hl v j)⟩ e2 e3 (hS.put e2 e3 ha)
/-! arrays: their classes are ks 0 (int), 1 (long), 2 .. 5 (Bell, Crew, House, Melody) -/
theorem g_iald (hx : p.tables.exec = Jvm.exec) (hb : c.code = cc) (hG : GE D ks bx s) {a n : Nat} {f : Nat → Int32} (he : ca D a (.inl (ks 0, n, .inl f)) H) {i : Int} (j : Nat) (hi : i = (j : Int) ∧ j < n ∧ n < 2147483648) (hdg : decode cc pc = .ok (.iaload, 1))
    (kk : W p l e R s m args below meth c H locs cells slots Q (F0 m (pc + 1) ls (.int (f j) :: rest))) : W p l e R s m args below meth c H locs cells slots Q (F0 m pc ls (.int (z2 i) :: .ref a :: rest)) :=
  va_iald hx hb hG.1 (ca.P he) 0 0 rfl rfl (zj_in hi) hdg (by rw [zj_cl hi]; exact kk)
theorem g_aald (hx : p.tables.exec = Jvm.exec) (hb : c.code = cc) (hG : GE D ks bx s) {a n : Nat} {f : Nat → Option Nat} (t0 : Nat) {kA : ClassId} {C : String} (ht : (tysG ks)[t0]? = some (kA, .object C)) (he : ca D a (.inl (kA, n, .inr (.inr (.inr (.inr f))))) H) {i : Int} (j : Nat) (hi : i = (j : Int) ∧ j < n ∧ n < 2147483648) (hdg : decode cc pc = .ok (.aaload, 1)) {v : Value} (hv : va_rf (f j) = v)
    (kk : W p l e R s m args below meth c H locs cells slots Q (F0 m (pc + 1) ls (v :: rest))) : W p l e R s m args below meth c H locs cells slots Q (F0 m pc ls (.int (z2 i) :: .ref a :: rest)) :=
  va_aldq hx hb hG.1 (ca.P he) 0 t0 rfl ht (zj_in hi) hdg (by rw [zj_cl hi, hv]; exact kk)
theorem g_alen (hx : p.tables.exec = Jvm.exec) (hb : c.code = cc) (hG : GE D ks bx s) {a : Nat} {x : vp_A} {kA : ClassId} {ty : FieldType} (t0 : Nat) (ht : (tysG ks)[t0]? = some (kA, ty)) (he : ca D a (.inl (kA, x)) H) {n : Int} (hn : z2 (x.1 : Nat) = z2 n) (hdg : decode cc pc = .ok (.arraylength, 1))
    (kk : W p l e R s m args below meth c H locs cells slots Q (F0 m (pc + 1) ls (.int (z2 n) :: rest))) : W p l e R s m args below meth c H locs cells slots Q (F0 m pc ls (.ref a :: rest)) :=
  va_alen hx hb hG.1 (ca.P he) 0 t0 rfl ht ((z2_len x.1).trans hn) hdg kk
theorem g_iast (hx : p.tables.exec = Jvm.exec) (hb : c.code = cc) (hG : GE D ks bx s) {A : Nat → Prop} (hS : va_S A s.heap H locs) {a n : Nat} {f : Nat → Int32} (he : ca D a (.inl (ks 0, n, .inl f)) H) (ha : A a) {i : Int} {v : Int32} (j : Nat) (hi : i = (j : Int) ∧ j < n ∧ n < 2147483648) (hdg : decode cc pc = .ok (.iastore, 1))
    (kk : ∀ (H1 : Heap) (locs1 : List Loc), ca D a (.inl (ks 0, n, .inl (upd f j v))) H1 → H1.size = H.size → (∀ q : Nat, q ≠ a → H1[q]? = H[q]?) → va_S A s.heap H1 locs1 → W p l e R s m args below meth c H1 locs1 cells slots Q (F0 m (pc + 1) ls rest)) : W p l e R s m args below meth c H locs cells slots Q (F0 m pc ls (.int v :: .int (z2 i) :: .ref a :: rest)) := by
  refine W.iast hx hb he ((hG.1.2 0 _ rfl).1 n (fun j => .int (f j))) (fun q => by cases q) (by show ¬ (z2 i < 0 ∨ (arrV _ _ _).slots.size ≤ _); rw [arrV_size]; exact zj_in hi) rfl rfl hdg fun H1 e z oq => ?_
  refine kk H1 _ ?_ z oq (hS.put z oq ha)
  show H1[a]? = some (vp_cell _ _)
  rw [e, vp_cell_i, vp_cell_i, arrV_store, zj_cl hi]
  congr 2
  funext q
  by_cases hq : q = j
  · subst hq
    simp [updV, upd]
  · simp [updV, upd, hq]
theorem g_aast (hx : p.tables.exec = Jvm.exec) (hb : c.code = cc) (hG : GE D ks bx s) {A : Nat → Prop} (hS : va_S A s.heap H locs) {a n v ci : Nat} {f : Nat → Option Nat} {vs : List Value} {r : vw_C} (t0 : Nat) {kA : ClassId} (ht : (tysG ks)[t0]? = some (kA, .object r.1)) (he : ca D a (.inl (kA, n, .inr (.inr (.inr (.inr f))))) H) (ha : A a) (hv : ca D v (.inr (ci, vs)) H) (hc : vwCl[ci]? = some r) {i : Int} (j : Nat) (hi : i = (j : Int) ∧ j < n ∧ n < 2147483648) (hdg : decode cc pc = .ok (.aastore, 1))
    (kk : ∀ (H1 : Heap) (locs1 : List Loc), ca D a (.inl (kA, n, .inr (.inr (.inr (.inr (va_up f j (some v))))))) H1 → H1.size = H.size → (∀ q : Nat, q ≠ a → H1[q]? = H[q]?) → va_S A s.heap H1 locs1 → W p l e R s m args below meth c H1 locs1 cells slots Q (F0 m (pc + 1) ls rest)) : W p l e R s m args below meth c H locs cells slots Q (F0 m pc ls (.ref v :: .int (z2 i) :: .ref a :: rest)) := by
  obtain ⟨r', hr', cellV, g1, g2, g3, -⟩ := hv
  have hcls := (hG.1.1 ci r hc).2
  obtain ⟨kA', comp, k1, k2, k3, -⟩ := (hG.1.2 t0 _ ht).2
  have hcomp : comp = D.1 ci := Option.some.inj (k3.symm.trans hcls.1)
  subst hcomp
  obtain ⟨kC, hkC, -⟩ := hcls.2
  have hin := zj_in hi
  refine W.aast hx hb he (fun q h => by cases h) (fun h => by cases h) k1 k2 rfl hkC ⟨fun q => hin (Or.inl q), by show _ < (arrV _ _ _).slots.size; rw [arrV_size]; exact Nat.not_le.mp fun q => hin (Or.inr q)⟩ g1 (fun q h => by rw [g3] at h; cases h) (by rw [g2]; exact hkC) (by rw [g2]; exact va_assign hcls) rfl rfl hdg fun H1 e z oq => ?_
  refine kk H1 _ ?_ z oq (hS.put z oq ha)
  show H1[a]? = some (vp_cell _ _)
  rw [e, vp_cell_q, vp_cell_q, arrV_store, zj_cl hi]
  congr 2
  funext q
  by_cases hq : q = j
  · subst hq
    simp [updV, va_up, va_rf]
  · simp [updV, va_up, hq]
/-! new cells: the next address -/
theorem g_new (hx : p.tables.exec = Jvm.exec) (hb : c.code = cc) {own C : String} {T : u_T} {N ci index : Nat} {Ts : List Cond} (hts : ∀ w ∈ Ts, w.before args s = true) (hin : ∀ w ∈ u_ws C T N, w ∈ Ts) (ty : Nat → FieldType) (hty : ∀ k, k < N → parseFieldDescriptor (T k).2.2.1 = some (ty k)) (hown : s.vm.findClass own = some m.cls) (hcl : Cond.classLink own index C ∈ Ts) (hinst : Cond.instantiable C N ∈ Ts) (hini : Cond.initialized C ∈ Ts)
    (hG : GE D ks bx s) {A : Nat → Prop} (hS : va_S A s.heap H locs) (hc : vwCl[ci]? = some (C, T, N)) {fs : List Value} (hfs : ∀ j, j < N → defaultValue (ty j) = vp_V fs j) (hcells : cells + 1 ≤ R.cells ∧ slots + N ≤ R.slots) (hdg : decode cc pc = .ok (.new index, 3))
    (kk : ∀ H1 : Heap, ca D H.size (.inr (ci, fs)) H1 → H1.size = H.size + 1 → (∀ q : Nat, q < H.size → H1[q]? = H[q]?) → va_S A s.heap H1 locs →
      W p l e R s m args below meth c H1 locs (cells + 1) (slots + N) Q (F0 m (pc + 3) ls (.ref H.size :: rest))) : W p l e R s m args below meth c H locs cells slots Q (F0 m pc ls rest) := by
  have hKn := hG.1.1 ci _ hc
  refine W.newcK hx hb hown (hts _ hcl) (hts _ hinst) (hts _ hini) rfl hdg hcells.1 hcells.2 hKn.2.1 rfl fun H1 kC hkC e1 z1 o1 => ?_
  exact kk H1 ⟨_, hc, (u_born ty hts hin hKn hkC e1 hty).to hfs⟩ z1 o1 ⟨Nat.le_trans hS.1 (by omega), fun x h1 h2 => (o1 x (Nat.lt_of_lt_of_le h1 hS.1)).trans (hS.2.1 x h1 h2), hS.2.2⟩
theorem g_newa (hx : p.tables.exec = Jvm.exec) (hb : c.code = cc) {atype : ArrayType} {Ts : List Cond} (hts : ∀ w ∈ Ts, w.before args s = true) (harr : Cond.arrayClass (newarray.typeOf atype) ∈ Ts) (hG : GE D ks bx s) {A : Nat → Prop} (hS : va_S A s.heap H locs)
    (t0 : Nat) {kA : ClassId} {ty : FieldType} (hty : newarray.typeOf atype = ty) (ht : (tysG ks)[t0]? = some (kA, ty)) (hnm : va_RA s kA ty → s.vm.findClass ("[" ++ ty.toString) = some kA) {n : Int} {N : Nat} (a0 : vp_A) (ha : ∀ cA : ClassId, vp_cell cA a0 = arrV cA N (fun _ => defaultValue ty)) (hn : n = (N : Int)) (hN : n < 2147483648) (hbytes : N * componentBytes ty ≤ 536870912) (hcells : cells + 1 ≤ R.cells ∧ slots + N ≤ R.slots) (hdg : decode cc pc = .ok (.newarray atype, 2))
    (kk : ∀ H1 : Heap, ca D H.size (.inl (kA, a0)) H1 → H1.size = H.size + 1 → (∀ q : Nat, q < H.size → H1[q]? = H[q]?) → va_S A s.heap H1 locs →
      W p l e R s m args below meth c H1 locs (cells + 1) (slots + N) Q (F0 m (pc + 2) ls (.ref H.size :: rest))) : W p l e R s m args below meth c H locs cells slots Q (F0 m pc ls (.int (z2 n) :: rest)) := by
  subst hty
  have hcl : (z2 n).toNatClampNeg = N := by rw [z2_cl (by omega) hN]; omega
  refine va_newaK hx hb (hts _ harr) rfl hdg rfl (by rw [z2_0, z2_lt ⟨by omega, by omega⟩ B31_0]; omega) hcl hbytes hcells.1 hcells.2 rfl fun H1 cA e1 z1 o1 hAr hNm => ?_
  have hk := hnm (hG.1.2 t0 _ ht).2
  have hcA : cA = kA := Option.some.inj (hNm.symm.trans hk)
  subst hcA
  refine kk H1 ?_ z1 o1 ⟨Nat.le_trans hS.1 (by omega), fun x h1 h2 => (o1 x (Nat.lt_of_lt_of_le h1 hS.1)).trans (hS.2.1 x h1 h2), hS.2.2⟩
  show H1[H.size]? = some (vp_cell _ _)
  rw [ha]
  exact e1
theorem g_anew (hx : p.tables.exec = Jvm.exec) (hb : c.code = cc) {own C : String} {index : Nat} {Ts : List Cond} (hts : ∀ w ∈ Ts, w.before args s = true) (hown : s.vm.findClass own = some m.cls) (hcl : Cond.classLink own index C ∈ Ts) (hao : C ∈ gao) (hG : GE D ks bx s) {A : Nat → Prop} (hS : va_S A s.heap H locs)
    (t0 : Nat) {kA : ClassId} (ht : (tysG ks)[t0]? = some (kA, .object C)) {n : Int} {N : Nat} (hn : n = (N : Int)) (hN : N * 4 ≤ 536870912) (hcells : cells + 1 ≤ R.cells ∧ slots + N ≤ R.slots) (hdg : decode cc pc = .ok (.anewarray index, 3))
    (kk : ∀ H1 : Heap, ca D H.size (.inl (kA, N, .inr (.inr (.inr (.inr (fun _ => none)))))) H1 → H1.size = H.size + 1 → (∀ q : Nat, q < H.size → H1[q]? = H[q]?) → va_S A s.heap H1 locs →
      W p l e R s m args below meth c H1 locs (cells + 1) (slots + N) Q (F0 m (pc + 3) ls (.ref H.size :: rest))) : W p l e R s m args below meth c H locs cells slots Q (F0 m pc ls (.int (z2 n) :: rest)) := by
  have hcl' : (z2 n).toNatClampNeg = N := by rw [z2_cl (by omega) (by omega)]; omega
  have hb4 : (z2 n).toNatClampNeg * 4 ≤ 536870912 := by rw [hcl']; exact hN
  refine W.anew hx hb hown (hts _ hcl) (va_AO.use (hG.2.2.1 _ hao)) rfl hdg rfl (by rw [z2_0, z2_lt ⟨by omega, by omega⟩ B31_0]; omega) hb4 hcells.1 (by rw [hcl']; exact hcells.2) fun cA kA' comp f1 f2 f3 f4 => ?_
  rw [hcl']
  obtain ⟨kA2, comp2, k1, k2, k3, k4⟩ := (hG.1.2 t0 _ ht).2
  have hcA : cA = kA := Option.some.inj (f1.symm.trans k4)
  subst hcA
  generalize hH1 : H.push ({ cls := cA, slots := Array.replicate N .null, vm := .none } : Cell) = H1
  have z1 : H1.size = H.size + 1 := by rw [← hH1, Array.size_push]
  have e1 : H1[H.size]? = some (arrV cA N (fun _ => .null)) := by rw [← hH1, Array.getElem?_push_size, ← arrV_new]
  have o1 : ∀ q : Nat, q < H.size → H1[q]? = H[q]? := fun q hq => by rw [← hH1, Array.getElem?_push, if_neg (Nat.ne_of_lt hq)]
  refine kk H1 ?_ z1 o1 ⟨Nat.le_trans hS.1 (by omega), fun x h1 h2 => (o1 x (Nat.lt_of_lt_of_le h1 hS.1)).trans (hS.2.1 x h1 h2), hS.2.2⟩
  show H1[H.size]? = some (vp_cell _ _)
  rw [vp_cell_q]
  exact e1
/-- any loop: what holds at its head, and a measure -/
theorem lp_ms {σ : Type} {pc : Nat} (I : σ → Heap → List Loc → Array Slot → Prop) (μ : σ → Nat) (step : ∀ (x : σ) (H : Heap) (locs : List Loc) (ls : Array Slot), I x H locs ls → (∀ (x' : σ) (H' : Heap) (locs' : List Loc) (ls' : Array Slot), μ x' < μ x → I x' H' locs' ls' → W p l e R s m args below meth c H' locs' cells slots Q (F0 m pc ls' [])) → W p l e R s m args below meth c H locs cells slots Q (F0 m pc ls [])) (x : σ) (h : I x H locs ls) :
    W p l e R s m args below meth c H locs cells slots Q (F0 m pc ls []) := by
  have key : ∀ (n : Nat) (x : σ) (H : Heap) (locs : List Loc) (ls : Array Slot), μ x < n → I x H locs ls → W p l e R s m args below meth c H locs cells slots Q (F0 m pc ls []) := by
    intro n
    induction n with
    | zero => intro x H locs ls h; omega
    | succ n ih => intro x H locs ls hn hI; exact step x H locs ls hI (fun x' H' locs' ls' hm h' => ih x' H' locs' ls' (by omega) h')
  exact key (μ x + 1) x H locs ls (Nat.lt_succ_self _) h
/-! ===== calls ===== -/
theorem g_preS {Hs : Heap} {as : List Value} (hG : GE D ks bx s) (hS : va_S (AR Rg s.heap.size) s.heap Hs locs) (hR : ∀ q, Rg q → bx ≤ q) : PreS s Hs (va_Pc as (Pre D ks bx Hs)) as := ⟨Pre.blind, fun _ hU hW => ⟨rfl, hU, hG.go hS hR hU hW⟩⟩
theorem g_preV {Hs : Heap} {b ci : Nat} {As fs : List Value} {r : vw_C} (hG : GE D ks bx s) (hS : va_S (AR Rg s.heap.size) s.heap Hs locs) (hR : ∀ q, Rg q → bx ≤ q) (he : ca D b (.inr (ci, fs)) Hs) (hc : vwCl[ci]? = some r) : PreV s Hs r.1 b (va_Pc (.ref b :: As) (Pre D ks bx Hs)) As :=
  ⟨Pre.blind, va_recv hG.1 (ca.P he) (q0 := 0) hc rfl, fun _ hU hW => ⟨rfl, hU, hG.go hS hR hU hW⟩⟩
theorem g_run {st0 : List Value} {Rg1 : Nat → Prop} {mc ms : Nat} {a : Array Value} {post : Option Value → Heap → Prop} {xp : String → Heap → Prop} (hr : vx_Run p l e R s m args below meth c H locs cells slots mc ms (F0 m pc ls st0) rest (gQ post (AR Rg1 H.size) a) (gX xp (AR Rg1 H.size)) (AR Rg1 H.size)) (hS : va_S (AR Rg s.heap.size) s.heap H locs) (hR1 : ∀ q, Rg1 q → Rg q)
    (kx : ∀ (E : String) (ce : Cell) (q9 : Addr) (H1 : Heap) (locs1 : List Loc), xp E H1 → H.size ≤ H1.size → (∀ q : Nat, q < H.size → ¬ Rg1 q → H1[q]? = H[q]?) → va_S (AR Rg s.heap.size) s.heap H1 locs1 → H1[q9]? = some ce → ce.vm = .none → s.vm.findClass E = some ce.cls → vx_W p l e R s m args below meth c H1 locs1 (cells + mc) (slots + ms) Q (F0 m pc ls rest) q9)
    (kk : ∀ (v : Option Value) (H1 : Heap) (locs1 : List Loc), post v H1 → H.size ≤ H1.size → (∀ q : Nat, q < H.size → ¬ Rg1 q → H1[q]? = H[q]?) → va_S (AR Rg s.heap.size) s.heap H1 locs1 → W p l e R s m args below meth c H1 locs1 (cells + mc) (slots + ms) Q (F0 m (pc + 3) ls (v.toList ++ rest))) :
    W p l e R s m args below meth c H locs cells slots Q (F0 m pc ls st0) := by
  have hA : ∀ q, q < H.size → AR Rg1 H.size q → AR Rg s.heap.size q := fun q h1 h2 => h2.elim (fun r => Or.inl (hR1 q r)) (fun r => by omega)
  have hf : ∀ q, AR Rg1 H.size q → AR Rg s.heap.size q := fun q h2 => h2.elim (fun r => Or.inl (hR1 q r)) (fun r => Or.inr (Nat.le_trans hS.1 r))
  have hn : ∀ {H1 : Heap}, (∀ q : Nat, q < H.size → ¬ AR Rg1 H.size q → H1[q]? = H[q]?) → ∀ q : Nat, q < H.size → ¬ Rg1 q → H1[q]? = H[q]? := fun h q h1 h2 => h q h1 (fun r => r.elim h2 (fun r => by omega))
  intro T hT X
  rcases hr T hT X with ⟨v, st₀, t, T', L, h0, X', hL, e1, e2, ⟨⟨v', hv, hp⟩, hF⟩, st⟩ | ⟨q, st₀, t, T', L, E, ce, h0, X', hL, e1, e2, ⟨hp, hF⟩, hce, hcv, hcl, st⟩
  · cases hv
    obtain ⟨k1, k2, k3⟩ := vx_keep h0 e1 hS hA hf hL hF
    obtain ⟨t2, a1, b1⟩ := kk v T'.heap (locs ++ L) (by rw [e1]; exact hp) k1 (hn k2) k3 T' rfl X'
    exact ⟨t2, st t2 a1, b1⟩
  · obtain ⟨k1, k2, k3⟩ := vx_keep h0 e1 hS hA hf hL hF
    obtain ⟨t2, a1, b1⟩ := kx E ce q T'.heap (locs ++ L) (by rw [e1]; exact hp) k1 (hn k2) k3 (by rw [e1]; exact hce) hcv hcl T' rfl X'
    exact ⟨t2, st.trans a1, b1⟩
/-! ===== ends ===== -/
variable {post : Option Value → Heap → Prop} {XC : String → State → State → Prop} {mc ms : Nat}
theorem g_iret (hx : p.tables.exec = Jvm.exec) (hb : c.code = cc) (hr : meth.sig.returnType = some .int) (hlocks : meth.locks = false) (hS : va_S (AR Rg s.heap.size) s.heap H locs) {v : Int32} (hm : cells ≤ mc ∧ slots ≤ ms) (hp : post (some (.int v)) H) (hdg : decode cc pc = .ok (.ireturn, 1)) :
    W p l e R s m args below meth c H locs cells slots (vx_MQ below (gQ post (AR Rg s.heap.size)) XC args s mc ms (AR Rg s.heap.size)) (F0 m pc ls [.int v]) :=
  W.widen hm.1 hm.2 (vx_ret (W.iret hx hb hr (fun t ht _ => ⟨⟨_, rfl, by rw [ht]; exact hp⟩, hS.F ht⟩) hS.2.2 hdg hlocks))
theorem g_zret (hx : p.tables.exec = Jvm.exec) (hb : c.code = cc) (hr : meth.sig.returnType = some .boolean) (hlocks : meth.locks = false) (hS : va_S (AR Rg s.heap.size) s.heap H locs) {v : Int32} (hv : narrow .boolean (.int v) = .int v) (hm : cells ≤ mc ∧ slots ≤ ms) (hp : post (some (.int v)) H) (hdg : decode cc pc = .ok (.ireturn, 1)) :
    W p l e R s m args below meth c H locs cells slots (vx_MQ below (gQ post (AR Rg s.heap.size)) XC args s mc ms (AR Rg s.heap.size)) (F0 m pc ls [.int v]) :=
  W.widen hm.1 hm.2 (vx_ret (W.zret hx hb hr hv (fun t ht _ => ⟨⟨_, rfl, by rw [ht]; exact hp⟩, hS.F ht⟩) hS.2.2 hdg hlocks))
theorem g_lret (hx : p.tables.exec = Jvm.exec) (hb : c.code = cc) (hr : meth.sig.returnType = some .long) (hlocks : meth.locks = false) (hS : va_S (AR Rg s.heap.size) s.heap H locs) {v : Int64} (hm : cells ≤ mc ∧ slots ≤ ms) (hp : post (some (.long v)) H) (hdg : decode cc pc = .ok (.lreturn, 1)) :
    W p l e R s m args below meth c H locs cells slots (vx_MQ below (gQ post (AR Rg s.heap.size)) XC args s mc ms (AR Rg s.heap.size)) (F0 m pc ls [.long v]) :=
  W.widen hm.1 hm.2 (vx_ret (W.lret hx hb hr (fun t ht _ => ⟨⟨_, rfl, by rw [ht]; exact hp⟩, hS.F ht⟩) hS.2.2 hdg hlocks))
theorem g_vret (hx : p.tables.exec = Jvm.exec) (hb : c.code = cc) (hr : meth.sig.returnType = none) (hlocks : meth.locks = false) (hS : va_S (AR Rg s.heap.size) s.heap H locs) (hm : cells ≤ mc ∧ slots ≤ ms) (hp : post none H) (hdg : decode cc pc = .ok (.return_, 1)) :
    W p l e R s m args below meth c H locs cells slots (vx_MQ below (gQ post (AR Rg s.heap.size)) XC args s mc ms (AR Rg s.heap.size)) (F0 m pc ls []) :=
  W.widen hm.1 hm.2 (vx_ret (W.vret hx hb hr (fun t ht _ => ⟨⟨_, rfl, by rw [ht]; exact hp⟩, hS.F ht⟩) hS.2.2 hdg hlocks))
theorem g_aret (hx : p.tables.exec = Jvm.exec) (hb : c.code = cc) {C : String} (hr : meth.sig.returnType = some (.object C)) (hlocks : meth.locks = false) (hS : va_S (AR Rg s.heap.size) s.heap H locs) {a : Nat} (hm : cells ≤ mc ∧ slots ≤ ms) (hp : post (some (.ref a)) H) (hdg : decode cc pc = .ok (.areturn, 1)) :
    W p l e R s m args below meth c H locs cells slots (vx_MQ below (gQ post (AR Rg s.heap.size)) XC args s mc ms (AR Rg s.heap.size)) (F0 m pc ls [.ref a]) :=
  W.widen hm.1 hm.2 (vx_ret (W.aret hx hb hr (Or.inl ⟨C, rfl⟩) (Or.inr ⟨a, rfl⟩) (fun t ht _ => ⟨⟨_, rfl, by rw [ht]; exact hp⟩, hS.F ht⟩) hS.2.2 hdg hlocks))
/-- an exception of a callee's goes on to the caller -/
theorem g_out {Qc : Array Value → State → Outcome → State → Prop} {xp : String → Heap → Prop} {E : String} {ce : Cell} {q9 : Addr} (ht : ∀ x ∈ c.exceptionTable.toList, False) (hlocks : meth.locks = false) (hS : va_S (AR Rg s.heap.size) s.heap H locs) (hce : H[q9]? = some ce) (hv : ce.vm = .none) (hcl : s.vm.findClass E = some ce.cls) (hm : cells ≤ mc ∧ slots ≤ ms) (hp : xp E H) :
    vx_W p l e R s m args below meth c H locs cells slots (vx_MQ below Qc (gX xp (AR Rg s.heap.size)) args s mc ms (AR Rg s.heap.size)) (F0 m pc ls rest) q9 :=
  vx_out (fun x hx => (ht x hx).elim) hlocks hce hv hcl (fun t ht' _ => ⟨by rw [ht']; exact hp, hS.F ht'⟩) hS.2.2 hm.1 hm.2
def gnl (cls : String) : List Cond := [.castable cls cls, .declares ⟨"java/lang/RuntimeException", "<init>", "(Ljava/lang/String;)V"⟩, .declares ⟨"java/lang/Exception", "<init>", "(Ljava/lang/String;)V"⟩, .declares ⟨"java/lang/Throwable", "<init>", "(Ljava/lang/String;)V"⟩]
def nm2 : List String := ["java/lang/RuntimeException", "java/lang/Exception"]
/-- 'throw new E("text")' in BellStreet -/
theorem g_throw {Qc : Array Value → State → Outcome → State → Prop} {xp : String → Heap → Prop} (hx : p.tables.exec = Jvm.exec) (hb : c.code = cc) (hl : l.stackTraces = false) {cls text : String} {ik is ic : Nat} {Ts : List Cond} (hts : ∀ w ∈ Ts, w.before args s = true) (hown : s.vm.findClass RX4 = some m.cls) (hG : GE D ks bx s) (hcls : Bundle.fit cls = true) (hst : (is, text) ∈ gst) (hk : Cond.classLink RX4 ik cls ∈ Ts) (hini : Cond.initialized cls ∈ Ts)
    (hgw : ∀ w ∈ (vx_atS RX4 ic cls nm2).filter goodWord, w ∈ Ts) (hng : ∀ w ∈ (vx_atS RX4 ic cls nm2).filter (fun w => !goodWord w), w ∈ gnl cls) (hca : Cond.castable cls cls ∈ gwl) (hgood : ∀ w ∈ Cond.classLink RX4 ik cls :: Cond.initialized cls :: vx_atS RX4 ic cls nm2, vx_ot w = true)
    (hS : va_S (AR Rg s.heap.size) s.heap H locs) (hRb : ∀ q, Rg q → bx ≤ q) (hbx : bx ≤ s.heap.size) (hsize : ls.size = c.maxLocals)
    (d0 : decode cc pc = .ok (.new ik, 3)) (d3 : decode cc (pc + 3) = .ok (.dup, 1)) (d4 : decode cc (pc + 4) = .ok (.ldc is, 2)) (d6 : decode cc (pc + 6) = .ok (.invokespecial ic, 3)) (d9 : decode cc (pc + 9) = .ok (.athrow, 1)) (ht : ∀ x ∈ c.exceptionTable.toList, False)
    (hR : 5 < R.frames ∧ (rest.map fun v => v.category).sum + 82 ≤ R.locals ∧ cells + 1 ≤ R.cells ∧ slots + 6 ≤ R.slots) (hlocks : meth.locks = false) (hm : cells + 1 ≤ mc ∧ slots + 6 ≤ ms)
    (hxp : ∀ H1 : Heap, H.size ≤ H1.size → (∀ q : Nat, q < H.size → H1[q]? = H[q]?) → xp cls H1) :
    W p l e R s m args below meth c H locs cells slots (vx_MQ below Qc (gX xp (AR Rg s.heap.size)) args s mc ms (AR Rg s.heap.size)) (F0 m pc ls rest) := by
  obtain ⟨g1, g2, g3, g4, g5, g6, g7⟩ := hG
  obtain ⟨sa, hsa⟩ := g5 _ hst
  have hAb : ∀ q, AR Rg s.heap.size q → bx ≤ q := fun q h => h.elim (hRb q) (fun r => Nat.le_trans hbx r)
  refine vx_throwS (A := AR Rg s.heap.size) (names := nm2) (sa := sa) (text := text) hx hb hl hown hcls (by decide +kernel) (hts _ hk) (hts _ hini) hsa (vx_hat (B := gnl cls) (fun w hw => hts w (hgw w hw)) hng (vx_c (va_Nw.use rfl (g2 _ hca)) (vx_c (va_Nw.use rfl (g2 _ (List.mem_of_getElem? (i := 31) rfl))) (vx_c (va_Nw.use rfl (g2 _ (List.mem_of_getElem? (i := 32) rfl))) (vx_c (va_Nw.use rfl (g2 _ (List.mem_of_getElem? (i := 33) rfl))) vx_n))))) hgood (g6.narrow hAb) (g7.narrow hAb) hS hsize d0 d3 d4 d6 d9 (fun x hx' => (ht x hx').elim) hR.1 (by simpa [nm2] using hR.2.1) hR.2.2.1 hR.2.2.2 hlocks (fun t _ hz hk' => ?_) hS.2.2 hm.1 hm.2
  exact ⟨hxp t.heap hz hk', Nat.le_trans hS.1 hz, fun q h1 h2 => (hk' q (Nat.lt_of_lt_of_le h1 hS.1)).trans (hS.2.1 q h1 h2)⟩
end GR
theorem thr_ng0 : ∀ w ∈ (vx_atS RX4 76 "java/lang/IndexOutOfBoundsException" nm2).filter (fun w => !goodWord w), w ∈ gnl "java/lang/IndexOutOfBoundsException" := by decide +kernel
theorem thr_ng1 : ∀ w ∈ (vx_atS RX4 52 "java/lang/IllegalArgumentException" nm2).filter (fun w => !goodWord w), w ∈ gnl "java/lang/IllegalArgumentException" := by decide +kernel
theorem thr_ng2 : ∀ w ∈ (vx_atS RX4 61 "java/lang/IllegalStateException" nm2).filter (fun w => !goodWord w), w ∈ gnl "java/lang/IllegalStateException" := by decide +kernel
theorem thr_go0 : ∀ w ∈ Cond.classLink RX4 72 "java/lang/IndexOutOfBoundsException" :: Cond.initialized "java/lang/IndexOutOfBoundsException" :: vx_atS RX4 76 "java/lang/IndexOutOfBoundsException" nm2, vx_ot w = true := by decide +kernel
theorem thr_go1 : ∀ w ∈ Cond.classLink RX4 48 "java/lang/IllegalArgumentException" :: Cond.initialized "java/lang/IllegalArgumentException" :: vx_atS RX4 52 "java/lang/IllegalArgumentException" nm2, vx_ot w = true := by decide +kernel
theorem thr_go2 : ∀ w ∈ Cond.classLink RX4 57 "java/lang/IllegalStateException" :: Cond.initialized "java/lang/IllegalStateException" :: vx_atS RX4 61 "java/lang/IllegalStateException" nm2, vx_ot w = true := by decide +kernel
end
