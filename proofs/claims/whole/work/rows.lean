section
-- ===== PART A: goes FIRST, ahead of the names: the tables' words, and 'selects' of the private methods out of them =====
/-- a private method of a class that the tables say can be made, by its rows of tables_1 -/
def lw_okq (q : MethodName × Nat) : Prop := (q.1.cls ≠ "java/lang/invoke/MethodHandle" ∧ q.1.cls ≠ "java/lang/invoke/VarHandle") ∧ Cond.instantiable q.1.cls q.2 ∈ tables_1 ∧ Cond.privateMethod q.1 ∈ tables_1 ∧ Cond.instanceMethod q.1 ∈ tables_1
theorem lw_p0 : lw_okq (⟨"BellStreet", "checkHouse", "(I)V"⟩, 7) := ⟨⟨by decide +kernel, by decide +kernel⟩, List.mem_of_getElem? (i := 15) (by decide +kernel), List.mem_of_getElem? (i := 168) (by decide +kernel), List.mem_of_getElem? (i := 169) (by decide +kernel)⟩
theorem lw_p1 : lw_okq (⟨"java/lang/Throwable", "fillInStackTrace", "(I)Ljava/lang/Throwable;"⟩, 6) := ⟨⟨by decide +kernel, by decide +kernel⟩, List.mem_of_getElem? (i := 210) (by decide +kernel), List.mem_of_getElem? (i := 208) (by decide +kernel), List.mem_of_getElem? (i := 209) (by decide +kernel)⟩
theorem lw_p2 : lw_okq (⟨"BellStreet", "melodyAt", "(I)LBellStreet$Melody;"⟩, 7) := ⟨⟨by decide +kernel, by decide +kernel⟩, List.mem_of_getElem? (i := 15) (by decide +kernel), List.mem_of_getElem? (i := 303) (by decide +kernel), List.mem_of_getElem? (i := 304) (by decide +kernel)⟩
theorem lw_p3 : lw_okq (⟨"BellStreet", "houseAt", "(I)LBellStreet$House;"⟩, 7) := ⟨⟨by decide +kernel, by decide +kernel⟩, List.mem_of_getElem? (i := 15) (by decide +kernel), List.mem_of_getElem? (i := 356) (by decide +kernel), List.mem_of_getElem? (i := 357) (by decide +kernel)⟩
theorem lw_p4 : lw_okq (⟨"BellStreet$House", "quietSeconds", "(II)I"⟩, 13) := ⟨⟨by decide +kernel, by decide +kernel⟩, List.mem_of_getElem? (i := 28) (by decide +kernel), List.mem_of_getElem? (i := 375) (by decide +kernel), List.mem_of_getElem? (i := 376) (by decide +kernel)⟩
theorem lw_p5 : lw_okq (⟨"BellStreet", "bellAt", "(II)LBellStreet$Bell;"⟩, 7) := ⟨⟨by decide +kernel, by decide +kernel⟩, List.mem_of_getElem? (i := 15) (by decide +kernel), List.mem_of_getElem? (i := 395) (by decide +kernel), List.mem_of_getElem? (i := 396) (by decide +kernel)⟩
theorem lw_p6 : lw_okq (⟨"BellStreet", "nextChange", "(I)I"⟩, 7) := ⟨⟨by decide +kernel, by decide +kernel⟩, List.mem_of_getElem? (i := 15) (by decide +kernel), List.mem_of_getElem? (i := 467) (by decide +kernel), List.mem_of_getElem? (i := 468) (by decide +kernel)⟩
theorem lw_p7 : lw_okq (⟨"BellStreet", "passStretch", "(I)V"⟩, 7) := ⟨⟨by decide +kernel, by decide +kernel⟩, List.mem_of_getElem? (i := 15) (by decide +kernel), List.mem_of_getElem? (i := 476) (by decide +kernel), List.mem_of_getElem? (i := 477) (by decide +kernel)⟩
theorem lw_p8 : lw_okq (⟨"BellStreetModel", "fails", "(I)I"⟩, 23) := ⟨⟨by decide +kernel, by decide +kernel⟩, List.mem_of_getElem? (i := 558) (by decide +kernel), List.mem_of_getElem? (i := 649) (by decide +kernel), List.mem_of_getElem? (i := 650) (by decide +kernel)⟩
theorem lw_p9 : lw_okq (⟨"BellStreetModel", "isMelody", "(I)Z"⟩, 23) := ⟨⟨by decide +kernel, by decide +kernel⟩, List.mem_of_getElem? (i := 558) (by decide +kernel), List.mem_of_getElem? (i := 657) (by decide +kernel), List.mem_of_getElem? (i := 658) (by decide +kernel)⟩
theorem lw_p10 : lw_okq (⟨"BellStreetModel", "tone", "(II)I"⟩, 23) := ⟨⟨by decide +kernel, by decide +kernel⟩, List.mem_of_getElem? (i := 558) (by decide +kernel), List.mem_of_getElem? (i := 661) (by decide +kernel), List.mem_of_getElem? (i := 662) (by decide +kernel)⟩
theorem lw_p11 : lw_okq (⟨"BellStreetModel", "isQuiet", "(I)Z"⟩, 23) := ⟨⟨by decide +kernel, by decide +kernel⟩, List.mem_of_getElem? (i := 558) (by decide +kernel), List.mem_of_getElem? (i := 686) (by decide +kernel), List.mem_of_getElem? (i := 687) (by decide +kernel)⟩
theorem lw_p12 : lw_okq (⟨"BellStreetModel", "breaks", "(I)V"⟩, 23) := ⟨⟨by decide +kernel, by decide +kernel⟩, List.mem_of_getElem? (i := 558) (by decide +kernel), List.mem_of_getElem? (i := 698) (by decide +kernel), List.mem_of_getElem? (i := 699) (by decide +kernel)⟩
theorem lw_p13 : lw_okq (⟨"BellStreetModel", "begins", "(I)V"⟩, 23) := ⟨⟨by decide +kernel, by decide +kernel⟩, List.mem_of_getElem? (i := 558) (by decide +kernel), List.mem_of_getElem? (i := 702) (by decide +kernel), List.mem_of_getElem? (i := 703) (by decide +kernel)⟩
theorem lw_p14 : lw_okq (⟨"BellStreetModel", "second", "()V"⟩, 23) := ⟨⟨by decide +kernel, by decide +kernel⟩, List.mem_of_getElem? (i := 558) (by decide +kernel), List.mem_of_getElem? (i := 719) (by decide +kernel), List.mem_of_getElem? (i := 720) (by decide +kernel)⟩
theorem lw_p15 : lw_okq (⟨"BellStreetModel", "rings", "(I)V"⟩, 23) := ⟨⟨by decide +kernel, by decide +kernel⟩, List.mem_of_getElem? (i := 558) (by decide +kernel), List.mem_of_getElem? (i := 723) (by decide +kernel), List.mem_of_getElem? (i := 724) (by decide +kernel)⟩
def lw_privs_1 : List (MethodName × Nat) := [(⟨"BellStreet", "checkHouse", "(I)V"⟩, 7), (⟨"java/lang/Throwable", "fillInStackTrace", "(I)Ljava/lang/Throwable;"⟩, 6), (⟨"BellStreet", "melodyAt", "(I)LBellStreet$Melody;"⟩, 7), (⟨"BellStreet", "houseAt", "(I)LBellStreet$House;"⟩, 7), (⟨"BellStreet$House", "quietSeconds", "(II)I"⟩, 13), (⟨"BellStreet", "bellAt", "(II)LBellStreet$Bell;"⟩, 7), (⟨"BellStreet", "nextChange", "(I)I"⟩, 7), (⟨"BellStreet", "passStretch", "(I)V"⟩, 7), (⟨"BellStreetModel", "fails", "(I)I"⟩, 23), (⟨"BellStreetModel", "isMelody", "(I)Z"⟩, 23), (⟨"BellStreetModel", "tone", "(II)I"⟩, 23), (⟨"BellStreetModel", "isQuiet", "(I)Z"⟩, 23), (⟨"BellStreetModel", "breaks", "(I)V"⟩, 23), (⟨"BellStreetModel", "begins", "(I)V"⟩, 23), (⟨"BellStreetModel", "second", "()V"⟩, 23), (⟨"BellStreetModel", "rings", "(I)V"⟩, 23)]
theorem lw_r1 : ∀ q ∈ lw_privs_1, lw_okq q := List.forall_mem_cons.mpr ⟨lw_p0, List.forall_mem_cons.mpr ⟨lw_p1, List.forall_mem_cons.mpr ⟨lw_p2, List.forall_mem_cons.mpr ⟨lw_p3, List.forall_mem_cons.mpr ⟨lw_p4, List.forall_mem_cons.mpr ⟨lw_p5, List.forall_mem_cons.mpr ⟨lw_p6, List.forall_mem_cons.mpr ⟨lw_p7, List.forall_mem_cons.mpr ⟨lw_p8, List.forall_mem_cons.mpr ⟨lw_p9, List.forall_mem_cons.mpr ⟨lw_p10, List.forall_mem_cons.mpr ⟨lw_p11, List.forall_mem_cons.mpr ⟨lw_p12, List.forall_mem_cons.mpr ⟨lw_p13, List.forall_mem_cons.mpr ⟨lw_p14, List.forall_mem_cons.mpr ⟨lw_p15, fun _ h => absurd h List.not_mem_nil⟩⟩⟩⟩⟩⟩⟩⟩⟩⟩⟩⟩⟩⟩⟩⟩
theorem lw_p16 : lw_okq (⟨"BellStreetModel", "isSeen", "(I)Z"⟩, 23) := ⟨⟨by decide +kernel, by decide +kernel⟩, List.mem_of_getElem? (i := 558) (by decide +kernel), List.mem_of_getElem? (i := 735) (by decide +kernel), List.mem_of_getElem? (i := 736) (by decide +kernel)⟩
def lw_privs_2 : List (MethodName × Nat) := [(⟨"BellStreetModel", "isSeen", "(I)Z"⟩, 23)]
theorem lw_r2 : ∀ q ∈ lw_privs_2, lw_okq q := List.forall_mem_cons.mpr ⟨lw_p16, fun _ h => absurd h List.not_mem_nil⟩
def lw_privs : List (MethodName × Nat) := lw_privs_1 ++ (lw_privs_2)
def lw_tbl : List Cond := k2_sels lw_privs ++ tables_1
theorem lw_privs_ok : ∀ q ∈ lw_privs, lw_okq q := by
  show ∀ q ∈ lw_privs_1 ++ (lw_privs_2), lw_okq q
  exact List.forall_mem_append.mpr ⟨lw_r1, lw_r2⟩
-- ===== end of PART A; then your names; then what follows =====
/-! ===== BEGIN words of one list among another's, by their places ===== -/
theorem goodIn_r {big : List Cond} (ws : List Cond) (ps : List Nat) (hp : ws = ps.filterMap (fun i => big[i]?)) (h : ws.all goodWord = true) : GoodIn big ws := by
  intro w hw
  have h1 := List.all_eq_true.mp h w hw
  rw [hp] at hw
  obtain ⟨i, -, hi⟩ := List.mem_filterMap.mp hw
  have hm : w ∈ big := by first | exact List.mem_of_getElem? hi | exact List.getElem?_mem hi
  exact ⟨hm, good_of_word h1⟩
theorem goodIn_app {big a b : List Cond} (ha : GoodIn big a) (hb : GoodIn big b) : GoodIn big (a ++ b) := fun w h => (List.mem_append.mp h).elim (ha w) (hb w)
theorem goodIn_ca {big a b : List Cond} {c : Cond} (ha : GoodIn big (c :: a)) (hb : GoodIn big b) : GoodIn big (c :: (a ++ b)) := fun w h => (List.mem_cons.mp h).elim (fun e => ha w (List.mem_cons.mpr (Or.inl e))) (fun h => (List.mem_append.mp h).elim (fun h => ha w (List.mem_cons.mpr (Or.inr h))) (hb w))
theorem goodIn_sub {big ws : List Cond} (hm : ∀ w ∈ ws, w ∈ big) (h : ws.all goodWord = true) : GoodIn big ws := fun w hw => ⟨hm w hw, good_of_word (List.all_eq_true.mp h w hw)⟩
/-! ===== END ===== -/

/-! ===== BEGIN exceptions that leave a method, and their catching by the caller (launches without stack traces) ===== -/
section VXA
/-! The laws vx_back, vx_callV, vx_callS, vx_callSW, vx_throw0, vx_throwS follow proofs of the library, with one case more: JvmDerived/Free/Laws.lean (Back.of_free), Shelf42/LK1.lean (callV, callS), Shelf/KitTraced.lean (throwNew0V, throwNewS). -/
/-- where a method has thrown q: the class by its name, the cell, what was written, the world -/
def vx_T (XC : String → State → State → Prop) (st : State) (q : Addr) (t : State) (mc ms : Nat) (free : Addr → Prop) : Prop :=
  ∃ (E : String) (ce : Cell) (L : List Loc), XC E st t ∧ t.heap[q]? = some ce ∧ ce.vm = .none ∧ st.vm.findClass E = some ce.cls ∧ st.WarmedH t.vm ∧ st.sameButNew ({ t with vm := st.vm } : State) L mc ms ∧ ∀ z ∈ L, free z.base
def vx_Q (Qc : Array Value → State → Outcome → State → Prop) (XC : String → State → State → Prop) (mc ms : Nat) (free : Addr → Prop) : Array Value → State → Outcome → State → Prop := fun a st o t =>
  (Qc a st o t ∧ ∃ L, FrameEnd st o t L mc ms ∧ ∀ q ∈ L, free q.base) ∨ ∃ q, o = .threw q ∧ vx_T XC st q t mc ms free
/-- a callee that returns or throws -/
def vx_Met (l : Launch) (y : MethodName) (ws : List Cond) (rm : Room) (Pc : Array Value → State → Prop) (Qc : Array Value → State → Outcome → State → Prop) (XC : String → State → State → Prop) (mc ms : Nat) (free : Addr → Prop) : Prop :=
  MetFree l y (headSpec ws rm) Pc (fun _ _ _ _ _ => True) (vx_Q Qc XC mc ms free)
def vx_Post (XC : String → State → State → Prop) (mc ms : Nat) (free : Addr → Prop) : Pt → Array Value → Addr → Pt → Prop := fun A a q B =>
  ∃ (g : JFrame) (mk : MethodId) (t : State) (L : List Loc) (E : String) (ce : Cell), B.U.heap = t.heap ∧ B.U.vm = t.vm ∧ XC E (A.U.calling g mk a) t ∧ t.heap[q]? = some ce ∧ ce.vm = .none ∧ A.U.vm.findClass E = some ce.cls ∧ B.locs = A.locs ++ L ∧ (∀ z ∈ L, free z.base) ∧ B.cells = A.cells + mc ∧ B.slots = A.slots + ms
def vx_Back (l : Launch) (R : Room) (p : Program) (e : Env) (below : List Frame) (s : State) (sargs : Array Value) (y : MethodName) (len W9 : Nat)
    (Pre : Pt → Array Value → Prop) (Post : Pt → Array Value → Option Value → Pt → Prop) (PostX : Pt → Array Value → Addr → Pt → Prop) : Prop :=
  ∀ (m : MethodId) (meth : Method) (c : Code) (A : Pt) (g : JFrame) (ig : Instr) (mk : MethodId) (a : Array Value),
    Stand p l e R s m sargs below meth c A.U A.locs A.cells A.slots → g.method = m → g.locals.size = c.maxLocals → decode c.code g.pc = .ok (ig, len) →
    2 * g.monitorRoom + (g.stack.map fun v => v.category).sum ≤ W9 → A.U.methodNamed? y = some mk → Pre A a →
    (∃ (v : Option Value) (B : Pt), Stand p l e R s m sargs below meth c B.U B.locs B.cells B.slots ∧ Post A a v B ∧
      Steps p.tables e below (doInvoke e (A.U.setTop g) [] mk a).1 (B.U.setTop { g with pc := g.pc + len, stack := v.toList ++ g.stack })) ∨
    (∃ (q : Addr) (B : Pt), Stand p l e R s m sargs below meth c B.U B.locs B.cells B.slots ∧ PostX A a q B ∧
      Steps p.tables e below (doInvoke e (A.U.setTop g) [] mk a).1 ((B.U.setTop g).pushFrame (.throwing q)))
section Payer
variable {l : Launch} {R : Room} {p : Program} {e : Env} {below : List Frame} {s : State} {sargs : Array Value} {y : MethodName} {len W9 : Nat}
theorem vx_back {ws : List Cond} {rm : Room} {Pc : Array Value → State → Prop} {Qc : Array Value → State → Outcome → State → Prop} {XC : String → State → State → Prop} {mc ms : Nat} {free : Addr → Prop} {bytes : ByteArray} {maxL : Nat} {ret : Option FieldType}
    (hM : vx_Met l y ws rm Pc Qc XC mc ms free) (hblind : FrameBlind Pc) (hrc : rm.cells = mc) (hrs : rm.slots = ms)
    (hframes : rm.frames + 1 ≤ R.frames) (hlocals : W9 + (maxL + 11) + rm.locals ≤ R.locals)
    (hws : ∀ w ∈ ws, ∀ a' U, s.WarmedH U.vm → w.before a' U = true) (hcode : Cond.code y bytes maxL ret ∈ ws) (hinit : ∀ a' U, s.WarmedH U.vm → (Cond.initialized y.cls).before a' U = true) :
    vx_Back l R p e below s sargs y len W9 (PreOf R mc ms Pc) (PostOf Qc mc ms free) (vx_Post XC mc ms free) := by
  intro m meth c A g ig mk a X hg hsize hdg hW hn hp
  have h1 : (headSpec ws rm).pre.before a A.U = true := atoms_intro fun w hw => hws w hw _ _ X.warmed
  have h2 : (Cond.code y bytes maxL ret).before a A.U = true := hws _ hcode _ _ X.warmed
  have h3 : (Cond.initialized y.cls).before a A.U = true := hinit _ _ X.warmed
  have h4 : A.cells + (headSpec ws rm).room.cells ≤ R.cells := by rw [show (headSpec ws rm).room.cells = mc from hrc]; exact hp.1
  have h5 : A.slots + (headSpec ws rm).room.slots ≤ R.slots := by rw [show (headSpec ws rm).room.slots = ms from hrs]; exact hp.2.1
  have hPc : Pc a (A.U.calling g mk a) := hblind _ _ _ _ hp.2.2
  obtain ⟨U, Ls, c0, s0⟩ := A
  dsimp only [Pt.U, Pt.locs, Pt.cells, Pt.slots] at h1 h2 h3 h4 h5 X hn hPc ⊢
  obtain ⟨methY, cY, hmY, hcY, -, hlY, -, -, -, -⟩ := Cond.code_spec hn h2
  obtain ⟨kY, hkY, -⟩ := className_of_methodNamed hn
  have hinitY : kY.init = .initialized := Cond.initialized_spec (findClass_of_methodNamed hn) hkY h3
  have h : At U g.method c below := by rw [hg]; exact X.here
  have hlocals9 : W9 + (maxL + 11) + (headSpec ws rm).room.locals ≤ R.locals := hlocals
  have happ : (headSpec ws rm).appliesLoose y e.platform (U.calling g mk a) = true :=
    Spec.appliesLoose_calling (g := g) h hdg hn hkY hinitY
      (X.room_calling (g := g) (R' := (headSpec ws rm).room) hsize hmY hcY hframes (by rw [hlY]; omega) h4 h5) h1
  obtain ⟨mid, hmid⟩ := h.above
  have hfr : (U.setTop g).frames = (.java g :: mid) ++ below := by rw [State.frames_setTop' g h.top, hmid]; rfl
  obtain ⟨o, s₂, hsteps, -, hend, hq⟩ := Steps.callFree hM p X.admits X.cas X.clock (acts := []) hfr happ hPc trivial
  have hq' : vx_Q Qc XC mc ms free a (U.calling g mk a) o s₂ := hq
  rw [State.frames_setTop' g h.top] at hend
  obtain ⟨g₀, hg0⟩ := Option.isSome_iff_exists.mp h.top
  obtain ⟨r, hr⟩ := State.topJava?_eq_some.mp hg0
  have hr' : (({ U with heap := s₂.heap, slotsUsed := s₂.slotsUsed } : State).setVm s₂.vm).frames = .java g₀ :: r := hr
  rcases hq' with ⟨hqc, L, hfe, hL⟩ | ⟨q, rfl, E, ce, L, hx, hce, hcv, hcl, hW₂, hsm, hL⟩
  · obtain ⟨⟨v, rfl⟩, hW₂, e2, q2, q3, q4, q5, q6⟩ := id hfe
    have e3 : s₂ = ({ (U.calling g mk a).setFrames s₂.frames with heap := s₂.heap, slotsUsed := s₂.slotsUsed } : State).setVm s₂.vm := by
      have : s₂ = ({ s₂ with vm := (U.calling g mk a).vm } : State).setVm s₂.vm := rfl
      rw [e2] at this
      exact this
    obtain ⟨c₂, i₂, len₂, hc₂, hd₂, hf₂⟩ := hend
    have hW' : U.WarmedH s₂.vm := hW₂
    have hcc : c₂ = c := by
      have h1 : s₂.code? g.method = U.code? g.method := by
        rw [State.code?_eq, State.code?_eq, hW'.alike.method?]
      exact Option.some.inj (hc₂.symm.trans (h1.trans h.code))
    subst hcc
    have hlen : len₂ = len := by rw [hdg] at hd₂; cases hd₂; rfl
    subst hlen
    have hs₂ : s₂ = (({ U with heap := s₂.heap, slotsUsed := s₂.slotsUsed } : State).setVm s₂.vm).setTop { g with pc := g.pc + len₂, stack := v.toList ++ g.stack } := by
      refine e3.trans ?_
      rw [hf₂, State.calling_eq h.top, State.setFrames_setFrames, State.setTop_of_frames _ hr', hr]
      rfl
    have hsame : U.sameButNew ({ U with heap := s₂.heap, slotsUsed := s₂.slotsUsed } : State) L mc ms := by
      refine ⟨?_, q2, q3, q4, q5, q6⟩
      obtain ⟨t, ht, -⟩ := State.frames_cons hr
      show ({ U with heap := s₂.heap, slotsUsed := s₂.slotsUsed } : State) = { U.setFrames U.frames with heap := s₂.heap, slotsUsed := s₂.slotsUsed }
      rw [State.setFrames_self ht]
    subst hg
    refine Or.inl ⟨v, ⟨(({ U with heap := s₂.heap, slotsUsed := s₂.slotsUsed } : State).setVm s₂.vm), Ls ++ L, c0 + mc, s0 + ms⟩,
      ⟨X.admits, X.cas, X.clock, X.frames, X.room, X.hears, X.method, X.code, (X.here.setHeapUsed s₂.heap s₂.slotsUsed).setVm hW'.alike, X.tail, State.WarmedH.trans X.warmed hW', X.limits, X.bytes, X.same.trans (hsame.setVm s.vm)⟩,
      ⟨g, mk, s₂, L, rfl, rfl, hqc, rfl, hL, rfl, rfl⟩, ?_⟩
    show Steps p.tables e below _ ((({ U with heap := s₂.heap, slotsUsed := s₂.slotsUsed } : State).setVm s₂.vm).setTop { g with pc := g.pc + len₂, stack := v.toList ++ g.stack })
    rw [← hs₂]
    exact hsteps
  · obtain ⟨e2, q2, q3, q4, q5, q6⟩ := id hsm
    have e3 : s₂ = ({ (U.calling g mk a).setFrames s₂.frames with heap := s₂.heap, slotsUsed := s₂.slotsUsed } : State).setVm s₂.vm := by
      have : s₂ = ({ s₂ with vm := (U.calling g mk a).vm } : State).setVm s₂.vm := rfl
      rw [e2] at this
      exact this
    have hf₂ : s₂.frames = .throwing q :: .java g :: U.frames.tail := hend
    have hW' : U.WarmedH s₂.vm := hW₂
    have hs₂ : s₂ = ((({ U with heap := s₂.heap, slotsUsed := s₂.slotsUsed } : State).setVm s₂.vm).setTop g).pushFrame (.throwing q) := by
      refine e3.trans ?_
      rw [hf₂, State.calling_eq h.top, State.setFrames_setFrames, State.pushFrame, State.frames_setTop _ hr', State.setTop_of_frames _ hr', State.setFrames_setFrames, hr]
      rfl
    have hsame : U.sameButNew ({ U with heap := s₂.heap, slotsUsed := s₂.slotsUsed } : State) L mc ms := by
      refine ⟨?_, q2, q3, q4, q5, q6⟩
      obtain ⟨t, ht, -⟩ := State.frames_cons hr
      show ({ U with heap := s₂.heap, slotsUsed := s₂.slotsUsed } : State) = { U.setFrames U.frames with heap := s₂.heap, slotsUsed := s₂.slotsUsed }
      rw [State.setFrames_self ht]
    subst hg
    refine Or.inr ⟨q, ⟨(({ U with heap := s₂.heap, slotsUsed := s₂.slotsUsed } : State).setVm s₂.vm), Ls ++ L, c0 + mc, s0 + ms⟩,
      ⟨X.admits, X.cas, X.clock, X.frames, X.room, X.hears, X.method, X.code, (X.here.setHeapUsed s₂.heap s₂.slotsUsed).setVm hW'.alike, X.tail, State.WarmedH.trans X.warmed hW', X.limits, X.bytes, X.same.trans (hsame.setVm s.vm)⟩,
      ⟨g, mk, s₂, L, E, ce, rfl, rfl, hx, hce, hcv, hcl, rfl, hL, rfl, rfl⟩, ?_⟩
    show Steps p.tables e below _ (((({ U with heap := s₂.heap, slotsUsed := s₂.slotsUsed } : State).setVm s₂.vm).setTop g).pushFrame (.throwing q))
    rw [← hs₂]
    exact hsteps
end Payer
section Calls
variable {p : Program} {l : Launch} {e : Env} {R : Room} {s : State} {m : MethodId} {args : Array Value} {below : List Frame} {meth : Method} {c : Code} {T : State} {locs : List Loc} {cells slots : Nat}
theorem vx_callV (X : Stand p l e R s m args below meth c T locs cells slots) (hexec : p.tables.exec = Jvm.exec) {own C : String} {index : Nat} {y : MethodName} {bytes : ByteArray} {maxL : Nat} {ret : Option FieldType}
    (hown : s.vm.findClass own = some m.cls) (hlink : (Cond.methodLink own index y).before args s = true) (hinst : (Cond.instanceMethod y).before args s = true) (hsel : (Cond.selects C y y).before args s = true)
    (hcode : (Cond.code y bytes maxL ret).before args s = true) (hy : y.cls ≠ "java/lang/invoke/MethodHandle" ∧ y.cls ≠ "java/lang/invoke/VarHandle")
    {W9 : Nat} {Pre : Pt → Array Value → Prop} {Post : Pt → Array Value → Option Value → Pt → Prop} {PostX : Pt → Array Value → Addr → Pt → Prop} (hK : vx_Back l R p e below s args y 3 W9 Pre Post PostX)
    {b : Addr} {cellB : Cell} (hcell : T.heap[b]? = some cellB) (hobj : cellB.vm.isStatics = false) (hcls : s.vm.findClass C = some cellB.cls)
    {g : JFrame} (hg : g.method = m) (hsize : g.locals.size = c.maxLocals) {argsL rest : List Value} (hlen : ∀ sig, parseMethodDescriptor y.desc = some sig → argsL.length = sig.parameters.length)
    (hstack : g.stack = argsL.reverse ++ .ref b :: rest) (hW : 2 * g.monitorRoom + (rest.map fun v => v.category).sum ≤ W9) (hdg : decode c.code g.pc = .ok (.invokevirtual index, 3))
    (hpre : ∀ vm₁, s.WarmedH vm₁ → Pre ⟨T.setVm vm₁, locs, cells, slots⟩ (Value.ref b :: argsL).toArray) :
    (∃ (v : Option Value) (vm₁ : Vm) (B : Pt), s.WarmedH vm₁ ∧ Stand p l e R s m args below meth c B.U B.locs B.cells B.slots ∧ Post ⟨T.setVm vm₁, locs, cells, slots⟩ (Value.ref b :: argsL).toArray v B ∧
      ∀ target, Steps p.tables e below (B.U.setTop { g with pc := g.pc + 3, stack := v.toList ++ rest }) target → Steps p.tables e below (T.setTop g) target) ∨
    (∃ (q : Addr) (vm₁ : Vm) (B : Pt), s.WarmedH vm₁ ∧ Stand p l e R s m args below meth c B.U B.locs B.cells B.slots ∧ PostX ⟨T.setVm vm₁, locs, cells, slots⟩ (Value.ref b :: argsL).toArray q B ∧
      Steps p.tables e below (T.setTop g) ((B.U.setTop { g with stack := rest }).pushFrame (.throwing q))) := by
  obtain ⟨mk, methM, hnamed, hmethM, hstM, habM⟩ := Cond.instanceMethod_spec hinst
  obtain ⟨methM', cM, hmethM', -, -, -, -, -, -, hsigM⟩ := Cond.code_spec hnamed hcode
  cases hmethM.symm.trans hmethM'
  obtain ⟨c2, r2, m2, q1, q2, q3, q4, kP, hkP, hkPi⟩ := Cond.selects_spec hsel
  cases hcls.symm.trans q1
  cases (State.methodFound?_of_named hnamed hy).symm.trans q2
  cases hnamed.symm.trans q3
  have hselP : selectMethod e.platform s.vm cellB.cls mk = .method mk := by rw [Launch.admits_selectMethod X.admits]; exact q4
  obtain ⟨vm₁, X₁, hstep₁⟩ := X.invokevirtual hexec hown hlink hnamed hmethM hstM hkP hkPi hy (a := b) (cell := cellB) hcell
    (fun z h => by rw [h] at hobj; cases hobj) hselP hmethM habM hkP hkPi (g := g) hg (argsL := argsL) (rest := rest) (hlen _ hsigM) hstack hdg
  rcases hK m meth c ⟨T.setVm vm₁, locs, cells, slots⟩ { g with stack := rest } (.invokevirtual index) mk (Value.ref b :: argsL).toArray X₁ hg hsize hdg hW (X₁.named hnamed) (hpre vm₁ X₁.warmed) with ⟨v, B, X', hpost, hsteps⟩ | ⟨q, B, X', hpost, hsteps⟩
  · exact Or.inl ⟨v, vm₁, B, X₁.warmed, X', hpost, fun target h => hstep₁ _ fun acts => by rw [doInvoke_state]; exact hsteps.trans h⟩
  · exact Or.inr ⟨q, vm₁, B, X₁.warmed, X', hpost, hstep₁ _ fun acts => by rw [doInvoke_state]; exact hsteps⟩
theorem vx_callS (X : Stand p l e R s m args below meth c T locs cells slots) (hexec : p.tables.exec = Jvm.exec) {own : String} {index : Nat} {y : MethodName} {bytes : ByteArray} {maxL : Nat} {ret : Option FieldType}
    (hown : s.vm.findClass own = some m.cls) (hlink : (Cond.methodLink own index y).before args s = true) (hstat : (Cond.static y).before args s = true) (hinit : (Cond.initialized y.cls).before args s = true)
    (hcode : (Cond.code y bytes maxL ret).before args s = true) (hy : y.cls ≠ "java/lang/invoke/MethodHandle" ∧ y.cls ≠ "java/lang/invoke/VarHandle")
    {W9 : Nat} {Pre : Pt → Array Value → Prop} {Post : Pt → Array Value → Option Value → Pt → Prop} {PostX : Pt → Array Value → Addr → Pt → Prop} (hK : vx_Back l R p e below s args y 3 W9 Pre Post PostX)
    {g : JFrame} (hg : g.method = m) (hsize : g.locals.size = c.maxLocals) {argsL rest : List Value} (hlen : ∀ sig, parseMethodDescriptor y.desc = some sig → argsL.length = sig.parameters.length)
    (hstack : g.stack = argsL.reverse ++ rest) (hW : 2 * g.monitorRoom + (rest.map fun v => v.category).sum ≤ W9) (hdg : decode c.code g.pc = .ok (.invokestatic index, 3))
    (hpre : ∀ vm₁, s.WarmedH vm₁ → Pre ⟨T.setVm vm₁, locs, cells, slots⟩ argsL.toArray) :
    (∃ (v : Option Value) (vm₁ : Vm) (B : Pt), s.WarmedH vm₁ ∧ Stand p l e R s m args below meth c B.U B.locs B.cells B.slots ∧ Post ⟨T.setVm vm₁, locs, cells, slots⟩ argsL.toArray v B ∧
      ∀ target, Steps p.tables e below (B.U.setTop { g with pc := g.pc + 3, stack := v.toList ++ rest }) target → Steps p.tables e below (T.setTop g) target) ∨
    (∃ (q : Addr) (vm₁ : Vm) (B : Pt), s.WarmedH vm₁ ∧ Stand p l e R s m args below meth c B.U B.locs B.cells B.slots ∧ PostX ⟨T.setVm vm₁, locs, cells, slots⟩ argsL.toArray q B ∧
      Steps p.tables e below (T.setTop g) ((B.U.setTop { g with stack := rest }).pushFrame (.throwing q))) := by
  obtain ⟨mk, hnamed⟩ := Cond.code_named hcode
  obtain ⟨methM, cM, hmethM, -, -, -, -, -, -, hsigM⟩ := Cond.code_spec hnamed hcode
  have hstatic : methM.isStatic = true := Cond.static_spec hnamed hmethM hstat
  obtain ⟨kP, hkP, -⟩ := className_of_methodNamed hnamed
  have hinitP : kP.init = .initialized := Cond.initialized_spec (findClass_of_methodNamed hnamed) hkP hinit
  obtain ⟨vm₁, X₁, hstep₁⟩ := X.invokestatic hexec hown hlink hnamed hmethM hstatic hkP hinitP hy (g := g) hg (argsL := argsL) (rest := rest) (hlen _ hsigM) hstack hdg
  rcases hK m meth c ⟨T.setVm vm₁, locs, cells, slots⟩ { g with stack := rest } (.invokestatic index) mk argsL.toArray X₁ hg hsize hdg hW (X₁.named hnamed) (hpre vm₁ X₁.warmed) with ⟨v, B, X', hpost, hsteps⟩ | ⟨q, B, X', hpost, hsteps⟩
  · exact Or.inl ⟨v, vm₁, B, X₁.warmed, X', hpost, fun target h => hstep₁ _ fun acts => by rw [doInvoke_state]; exact hsteps.trans h⟩
  · exact Or.inr ⟨q, vm₁, B, X₁.warmed, X', hpost, hstep₁ _ fun acts => by rw [doInvoke_state]; exact hsteps⟩
end Calls
theorem vx_cls {s : State} {T : State} {vm₁ : Vm} {E : String} {k : ClassId} (hW : s.WarmedH vm₁) (h : (T.setVm vm₁).vm.findClass E = some k) : s.vm.findClass E = some k := by
  have h1 : vm₁.findClass E = some k := h
  rw [hW.alike.findClass] at h1
  exact h1
/-- the method's frame g, with q thrown over it -/
def vx_W (p : Program) (l : Launch) (e : Env) (R : Room) (s : State) (m : MethodId) (args : Array Value) (below : List Frame) (meth : Method) (c : Code) (H : Heap) (locs : List Loc) (cells slots : Nat) (Q : State → Prop) (g : JFrame) (q : Addr) : Prop :=
  ∀ T : State, T.heap = H → Stand p l e R s m args below meth c T locs cells slots → ∃ t, Steps p.tables e below ((T.setTop g).pushFrame (.throwing q)) t ∧ Q t
def vx_Run (p : Program) (l : Launch) (e : Env) (R : Room) (s : State) (m : MethodId) (args : Array Value) (below : List Frame) (meth : Method) (c : Code) (H : Heap) (locs : List Loc) (cells slots mc ms : Nat) (g : JFrame) (rest : List Value) (Qa : State → Outcome → State → Prop) (XC : String → State → State → Prop) (free : Addr → Prop) : Prop :=
  ∀ T : State, T.heap = H → Stand p l e R s m args below meth c T locs cells slots →
    (∃ (v : Option Value) (st₀ t T' : State) (L : List Loc), st₀.heap = H ∧ Stand p l e R s m args below meth c T' (locs ++ L) (cells + mc) (slots + ms) ∧ (∀ q ∈ L, free q.base) ∧ T'.heap = t.heap ∧ T'.vm = t.vm ∧ Qa st₀ (.returned v) t ∧
      Goes p e below T g T' { g with pc := g.pc + 3, stack := v.toList ++ rest }) ∨
    (∃ (q : Addr) (st₀ t T' : State) (L : List Loc) (E : String) (ce : Cell), st₀.heap = H ∧ Stand p l e R s m args below meth c T' (locs ++ L) (cells + mc) (slots + ms) ∧ (∀ z ∈ L, free z.base) ∧ T'.heap = t.heap ∧ T'.vm = t.vm ∧ XC E st₀ t ∧ t.heap[q]? = some ce ∧ ce.vm = .none ∧ s.vm.findClass E = some ce.cls ∧
      Steps p.tables e below (T.setTop g) ((T'.setTop { g with stack := rest }).pushFrame (.throwing q)))
def vx_X {S : Type} (px : S → Prop) (B : String → S → State → Prop) (A : Nat → Prop) : String → State → State → Prop := fun E st t => ∃ u : S, px u ∧ B E u t ∧ va_F A st t
section Runs
variable {p : Program} {l : Launch} {e : Env} {R : Room} {s : State} {m : MethodId} {args : Array Value} {below : List Frame} {meth : Method} {c : Code} {H : Heap} {locs : List Loc} {cells slots : Nat}
variable {y : MethodName} {bytes cc : ByteArray} {maxL nL mc ms n index : Nat} {ret : Option FieldType} {ws : List Cond} {rm : Room} {Pc : Array Value → State → Prop} {Qc : Array Value → State → Outcome → State → Prop} {XC : String → State → State → Prop} {free : Addr → Prop} {Ts : List Cond} {own C : String} {b : Addr} {As rest : List Value} {g : JFrame}
theorem vx_callBack (cb : CallB R s args own index y bytes maxL ret ws rm mc ms n) (hM : vx_Met l y ws rm Pc Qc XC mc ms free) (hbl : FrameBlind Pc) : vx_Back l R p e below s args y 3 8 (PreOf R mc ms Pc) (PostOf Qc mc ms free) (vx_Post XC mc ms free) := by
  obtain ⟨hrc, hrs, hfr, hlo, hws, hcw, -, hini, -⟩ := cb
  exact vx_back (bytes := bytes) (maxL := maxL) (ret := ret) hM hbl hrc hrs hfr hlo hws hcw (fun a' U hW => word_at hW (Or.inl (by first | rfl | simp [Cond.onTables, Cond.keeps, Cond.steady])) hini)
theorem vx_runV (S : CallFix p m c cc nL s args Ts own) (hM : vx_Met l y ws rm Pc Qc XC mc ms free) (cw : CallW R s args own C index y bytes maxL ret ws rm mc ms n) (hp : PreV s H C b Pc As)
    (hg : g.method = m) (hn : As.length = n) (hsize : g.locals.size = nL) (hstack : g.stack = As.reverse ++ .ref b :: rest) (hW : 2 * g.monitorRoom + (rest.map fun v => v.category).sum ≤ 8) (hdg : decode cc g.pc = .ok (.invokevirtual index, 3)) (hf : cells + mc ≤ R.cells ∧ slots + ms ≤ R.slots) :
    vx_Run p l e R s m args below meth c H locs cells slots mc ms g rest (Qc (Value.ref b :: As).toArray) XC free := by
  have hK : vx_Back l R p e below s args y 3 8 (PreOf R mc ms Pc) (PostOf Qc mc ms free) (vx_Post XC mc ms free) := vx_callBack cw.1 hM hp.1
  obtain ⟨⟨-, -, -, -, -, -, hcode, -, hy, hlen, hl⟩, hin, hse⟩ := cw
  obtain ⟨hx, hb, hml, ho, -⟩ := S
  obtain ⟨-, ⟨cellB, hcB, hoB, hclB⟩, hPc⟩ := hp
  intro T hT X
  rcases vx_callV X hx (C := C) (bytes := bytes) (maxL := maxL) (ret := ret) ho hl hin hse hcode hy hK (by rw [hT]; exact hcB) hoB hclB hg (hsize.trans hml.symm) (argsL := As) (rest := rest) (fun sig h => hn.trans (hlen sig h)) hstack hW (by rw [hb]; exact hdg)
    (fun vm₁ hW₁ => ⟨hf.1, hf.2, hPc (T.setVm vm₁) hT hW₁⟩) with ⟨v, vm₁, ⟨U', l2, c2, s2⟩, hW₁, X', ⟨g', mk, t, L, e1, e2, hq, h1, hL, h2, h3⟩, st⟩ | ⟨q, vm₁, ⟨U', l2, c2, s2⟩, hW₁, X', ⟨g', mk, t, L, E, ce, e1, e2, hq, hce, hcv, hcl, h1, hL, h2, h3⟩, st⟩
  · dsimp only [Pt.U, Pt.locs, Pt.cells, Pt.slots] at X' e1 e2 h1 h2 h3 st
    subst h1; subst h2; subst h3
    exact Or.inl ⟨v, (T.setVm vm₁).calling g' mk (Value.ref b :: As).toArray, t, U', L, hT, X', hL, e1, e2, hq, st⟩
  · dsimp only [Pt.U, Pt.locs, Pt.cells, Pt.slots] at X' e1 e2 h1 h2 h3 st hcl
    subst h1; subst h2; subst h3
    exact Or.inr ⟨q, (T.setVm vm₁).calling g' mk (Value.ref b :: As).toArray, t, U', L, E, ce, hT, X', hL, e1, e2, hq, hce, hcv, vx_cls hW₁ hcl, st⟩
theorem vx_runS (S : CallFix p m c cc nL s args Ts own) (hM : vx_Met l y ws rm Pc Qc XC mc ms free) (cw : CallB R s args own index y bytes maxL ret ws rm mc ms n ∧ (Cond.static y).before args s = true) (hp : PreS s H Pc As)
    (hg : g.method = m) (hn : As.length = n) (hsize : g.locals.size = nL) (hstack : g.stack = As.reverse ++ rest) (hW : 2 * g.monitorRoom + (rest.map fun v => v.category).sum ≤ 8) (hdg : decode cc g.pc = .ok (.invokestatic index, 3)) (hf : cells + mc ≤ R.cells ∧ slots + ms ≤ R.slots) :
    vx_Run p l e R s m args below meth c H locs cells slots mc ms g rest (Qc As.toArray) XC free := by
  have hK : vx_Back l R p e below s args y 3 8 (PreOf R mc ms Pc) (PostOf Qc mc ms free) (vx_Post XC mc ms free) := vx_callBack cw.1 hM hp.1
  obtain ⟨⟨-, -, -, -, -, -, hcode, hini, hy, hlen, hl⟩, hstt⟩ := cw
  obtain ⟨hx, hb, hml, ho, -⟩ := S
  intro T hT X
  rcases vx_callS X hx (bytes := bytes) (maxL := maxL) (ret := ret) ho hl hstt hini hcode hy hK hg (hsize.trans hml.symm) (argsL := As) (rest := rest) (fun sig h => hn.trans (hlen sig h)) hstack hW (by rw [hb]; exact hdg)
    (fun vm₁ hW₁ => ⟨hf.1, hf.2, hp.2 (T.setVm vm₁) hT hW₁⟩) with ⟨v, vm₁, ⟨U', l2, c2, s2⟩, hW₁, X', ⟨g', mk, t, L, e1, e2, hq, h1, hL, h2, h3⟩, st⟩ | ⟨q, vm₁, ⟨U', l2, c2, s2⟩, hW₁, X', ⟨g', mk, t, L, E, ce, e1, e2, hq, hce, hcv, hcl, h1, hL, h2, h3⟩, st⟩
  · dsimp only [Pt.U, Pt.locs, Pt.cells, Pt.slots] at X' e1 e2 h1 h2 h3 st
    subst h1; subst h2; subst h3
    exact Or.inl ⟨v, (T.setVm vm₁).calling g' mk As.toArray, t, U', L, hT, X', hL, e1, e2, hq, st⟩
  · dsimp only [Pt.U, Pt.locs, Pt.cells, Pt.slots] at X' e1 e2 h1 h2 h3 st hcl
    subst h1; subst h2; subst h3
    exact Or.inr ⟨q, (T.setVm vm₁).calling g' mk As.toArray, t, U', L, E, ce, hT, X', hL, e1, e2, hq, hce, hcv, vx_cls hW₁ hcl, st⟩
end Runs
section Rows
variable {p : Program} {l : Launch} {e : Env} {R : Room} {s : State} {m : MethodId} {args : Array Value} {below : List Frame} {meth : Method} {c : Code} {H : Heap} {locs : List Loc} {cells slots : Nat} {Q : State → Prop}
variable {mc ms : Nat} {free : Addr → Prop} {A0 A1 : Nat → Prop} {H0 : Heap} {a : Array Value} {pc : Nat} {ls : Array Slot} {st0 rest : List Value}
theorem vx_keep {st₀ t T' : State} {L : List Loc} (h0 : st₀.heap = H) (e1 : T'.heap = t.heap) (hS : va_S A0 H0 H locs) (hA : ∀ q, q < H.size → A1 q → A0 q) (hf : ∀ q, free q → A0 q) (hL : ∀ q ∈ L, free q.base) (hF : va_F A1 st₀ t) :
    H.size ≤ T'.heap.size ∧ (∀ q : Nat, q < H.size → ¬ A1 q → T'.heap[q]? = H[q]?) ∧ va_S A0 H0 T'.heap (locs ++ L) := by
  obtain ⟨hz, hk⟩ := hF
  rw [h0] at hz hk
  exact ⟨by rw [e1]; exact hz, fun q h1 h2 => by rw [e1]; exact hk q h1 h2,
    ⟨Nat.le_trans hS.1 (by rw [e1]; exact hz), fun q h1 h2 => by rw [e1, hk q (Nat.lt_of_lt_of_le h1 hS.1) (fun z => h2 (hA q (Nat.lt_of_lt_of_le h1 hS.1) z))]; exact hS.2.1 q h1 h2, fun q hq => by
      rcases List.mem_append.mp hq with h | h
      · exact hS.2.2 q h
      · exact hf _ (hL q h)⟩⟩
theorem vx_calli {S SX : Type} {post : Int32 → S → Prop} {px : SX → Prop} {B : S → State → Prop} {BX : String → SX → State → Prop} {AX : Nat → Prop} (hr : vx_Run p l e R s m args below meth c H locs cells slots mc ms (F0 m pc ls st0) rest (va_Qi post B A1 a) (vx_X px BX AX) free) (hS : va_S A0 H0 H locs) (hA : ∀ q, q < H.size → A1 q → A0 q) (hf : ∀ q, free q → A0 q) (hAX : ∀ q, q < H.size → AX q → A0 q)
    (kx : ∀ (E : String) (ce : Cell) (q9 : Addr) (u : SX) (t : State) (H1 : Heap) (locs1 : List Loc), t.heap = H1 → s.vm.Alike t.vm → px u → BX E u t → H.size ≤ H1.size → (∀ q : Nat, q < H.size → ¬ AX q → H1[q]? = H[q]?) → va_S A0 H0 H1 locs1 → H1[q9]? = some ce → ce.vm = .none → s.vm.findClass E = some ce.cls → vx_W p l e R s m args below meth c H1 locs1 (cells + mc) (slots + ms) Q (F0 m pc ls rest) q9)
    (kk : ∀ (r : Int32) (u : S) (t : State) (H1 : Heap) (locs1 : List Loc), t.heap = H1 → s.vm.Alike t.vm → post r u → B u t → H.size ≤ H1.size → (∀ q : Nat, q < H.size → ¬ A1 q → H1[q]? = H[q]?) → va_S A0 H0 H1 locs1 → W p l e R s m args below meth c H1 locs1 (cells + mc) (slots + ms) Q (F0 m (pc + 3) ls (.int r :: rest))) : W p l e R s m args below meth c H locs cells slots Q (F0 m pc ls st0) := by
  intro T hT X
  rcases hr T hT X with ⟨v, st₀, t, T', L, h0, X', hL, e1, e2, ⟨⟨r, u, hv, hp, hb⟩, hF⟩, st⟩ | ⟨q, st₀, t, T', L, E, ce, h0, X', hL, e1, e2, ⟨u, hp, hb, hF⟩, hce, hcv, hcl, st⟩
  · cases hv
    obtain ⟨k1, k2, k3⟩ := vx_keep h0 e1 hS hA hf hL hF
    obtain ⟨t2, a1, b1⟩ := kk r u t T'.heap (locs ++ L) e1.symm (by rw [← e2]; exact X'.warmed.alike) hp hb k1 k2 k3 T' rfl X'
    exact ⟨t2, st t2 a1, b1⟩
  · obtain ⟨k1, k2, k3⟩ := vx_keep h0 e1 hS hAX hf hL hF
    obtain ⟨t2, a1, b1⟩ := kx E ce q u t T'.heap (locs ++ L) e1.symm (by rw [← e2]; exact X'.warmed.alike) hp hb k1 k2 k3 (by rw [e1]; exact hce) hcv hcl T' rfl X'
    exact ⟨t2, st.trans a1, b1⟩
theorem vx_calll {S SX : Type} {post : Int64 → S → Prop} {px : SX → Prop} {B : S → State → Prop} {BX : String → SX → State → Prop} {AX : Nat → Prop} (hr : vx_Run p l e R s m args below meth c H locs cells slots mc ms (F0 m pc ls st0) rest (va_Ql post B A1 a) (vx_X px BX AX) free) (hS : va_S A0 H0 H locs) (hA : ∀ q, q < H.size → A1 q → A0 q) (hf : ∀ q, free q → A0 q) (hAX : ∀ q, q < H.size → AX q → A0 q)
    (kx : ∀ (E : String) (ce : Cell) (q9 : Addr) (u : SX) (t : State) (H1 : Heap) (locs1 : List Loc), t.heap = H1 → s.vm.Alike t.vm → px u → BX E u t → H.size ≤ H1.size → (∀ q : Nat, q < H.size → ¬ AX q → H1[q]? = H[q]?) → va_S A0 H0 H1 locs1 → H1[q9]? = some ce → ce.vm = .none → s.vm.findClass E = some ce.cls → vx_W p l e R s m args below meth c H1 locs1 (cells + mc) (slots + ms) Q (F0 m pc ls rest) q9)
    (kk : ∀ (r : Int64) (u : S) (t : State) (H1 : Heap) (locs1 : List Loc), t.heap = H1 → s.vm.Alike t.vm → post r u → B u t → H.size ≤ H1.size → (∀ q : Nat, q < H.size → ¬ A1 q → H1[q]? = H[q]?) → va_S A0 H0 H1 locs1 → W p l e R s m args below meth c H1 locs1 (cells + mc) (slots + ms) Q (F0 m (pc + 3) ls (.long r :: rest))) : W p l e R s m args below meth c H locs cells slots Q (F0 m pc ls st0) := by
  intro T hT X
  rcases hr T hT X with ⟨v, st₀, t, T', L, h0, X', hL, e1, e2, ⟨⟨r, u, hv, hp, hb⟩, hF⟩, st⟩ | ⟨q, st₀, t, T', L, E, ce, h0, X', hL, e1, e2, ⟨u, hp, hb, hF⟩, hce, hcv, hcl, st⟩
  · cases hv
    obtain ⟨k1, k2, k3⟩ := vx_keep h0 e1 hS hA hf hL hF
    obtain ⟨t2, a1, b1⟩ := kk r u t T'.heap (locs ++ L) e1.symm (by rw [← e2]; exact X'.warmed.alike) hp hb k1 k2 k3 T' rfl X'
    exact ⟨t2, st t2 a1, b1⟩
  · obtain ⟨k1, k2, k3⟩ := vx_keep h0 e1 hS hAX hf hL hF
    obtain ⟨t2, a1, b1⟩ := kx E ce q u t T'.heap (locs ++ L) e1.symm (by rw [← e2]; exact X'.warmed.alike) hp hb k1 k2 k3 (by rw [e1]; exact hce) hcv hcl T' rfl X'
    exact ⟨t2, st.trans a1, b1⟩
theorem vx_callf {S SX : Type} {post : UInt32 → S → Prop} {px : SX → Prop} {B : S → State → Prop} {BX : String → SX → State → Prop} {AX : Nat → Prop} (hr : vx_Run p l e R s m args below meth c H locs cells slots mc ms (F0 m pc ls st0) rest (va_Qf post B A1 a) (vx_X px BX AX) free) (hS : va_S A0 H0 H locs) (hA : ∀ q, q < H.size → A1 q → A0 q) (hf : ∀ q, free q → A0 q) (hAX : ∀ q, q < H.size → AX q → A0 q)
    (kx : ∀ (E : String) (ce : Cell) (q9 : Addr) (u : SX) (t : State) (H1 : Heap) (locs1 : List Loc), t.heap = H1 → s.vm.Alike t.vm → px u → BX E u t → H.size ≤ H1.size → (∀ q : Nat, q < H.size → ¬ AX q → H1[q]? = H[q]?) → va_S A0 H0 H1 locs1 → H1[q9]? = some ce → ce.vm = .none → s.vm.findClass E = some ce.cls → vx_W p l e R s m args below meth c H1 locs1 (cells + mc) (slots + ms) Q (F0 m pc ls rest) q9)
    (kk : ∀ (r : UInt32) (u : S) (t : State) (H1 : Heap) (locs1 : List Loc), t.heap = H1 → s.vm.Alike t.vm → post r u → B u t → H.size ≤ H1.size → (∀ q : Nat, q < H.size → ¬ A1 q → H1[q]? = H[q]?) → va_S A0 H0 H1 locs1 → W p l e R s m args below meth c H1 locs1 (cells + mc) (slots + ms) Q (F0 m (pc + 3) ls (.float r :: rest))) : W p l e R s m args below meth c H locs cells slots Q (F0 m pc ls st0) := by
  intro T hT X
  rcases hr T hT X with ⟨v, st₀, t, T', L, h0, X', hL, e1, e2, ⟨⟨r, u, hv, hp, hb⟩, hF⟩, st⟩ | ⟨q, st₀, t, T', L, E, ce, h0, X', hL, e1, e2, ⟨u, hp, hb, hF⟩, hce, hcv, hcl, st⟩
  · cases hv
    obtain ⟨k1, k2, k3⟩ := vx_keep h0 e1 hS hA hf hL hF
    obtain ⟨t2, a1, b1⟩ := kk r u t T'.heap (locs ++ L) e1.symm (by rw [← e2]; exact X'.warmed.alike) hp hb k1 k2 k3 T' rfl X'
    exact ⟨t2, st t2 a1, b1⟩
  · obtain ⟨k1, k2, k3⟩ := vx_keep h0 e1 hS hAX hf hL hF
    obtain ⟨t2, a1, b1⟩ := kx E ce q u t T'.heap (locs ++ L) e1.symm (by rw [← e2]; exact X'.warmed.alike) hp hb k1 k2 k3 (by rw [e1]; exact hce) hcv hcl T' rfl X'
    exact ⟨t2, st.trans a1, b1⟩
theorem vx_calld {S SX : Type} {post : UInt64 → S → Prop} {px : SX → Prop} {B : S → State → Prop} {BX : String → SX → State → Prop} {AX : Nat → Prop} (hr : vx_Run p l e R s m args below meth c H locs cells slots mc ms (F0 m pc ls st0) rest (va_Qd post B A1 a) (vx_X px BX AX) free) (hS : va_S A0 H0 H locs) (hA : ∀ q, q < H.size → A1 q → A0 q) (hf : ∀ q, free q → A0 q) (hAX : ∀ q, q < H.size → AX q → A0 q)
    (kx : ∀ (E : String) (ce : Cell) (q9 : Addr) (u : SX) (t : State) (H1 : Heap) (locs1 : List Loc), t.heap = H1 → s.vm.Alike t.vm → px u → BX E u t → H.size ≤ H1.size → (∀ q : Nat, q < H.size → ¬ AX q → H1[q]? = H[q]?) → va_S A0 H0 H1 locs1 → H1[q9]? = some ce → ce.vm = .none → s.vm.findClass E = some ce.cls → vx_W p l e R s m args below meth c H1 locs1 (cells + mc) (slots + ms) Q (F0 m pc ls rest) q9)
    (kk : ∀ (r : UInt64) (u : S) (t : State) (H1 : Heap) (locs1 : List Loc), t.heap = H1 → s.vm.Alike t.vm → post r u → B u t → H.size ≤ H1.size → (∀ q : Nat, q < H.size → ¬ A1 q → H1[q]? = H[q]?) → va_S A0 H0 H1 locs1 → W p l e R s m args below meth c H1 locs1 (cells + mc) (slots + ms) Q (F0 m (pc + 3) ls (.double r :: rest))) : W p l e R s m args below meth c H locs cells slots Q (F0 m pc ls st0) := by
  intro T hT X
  rcases hr T hT X with ⟨v, st₀, t, T', L, h0, X', hL, e1, e2, ⟨⟨r, u, hv, hp, hb⟩, hF⟩, st⟩ | ⟨q, st₀, t, T', L, E, ce, h0, X', hL, e1, e2, ⟨u, hp, hb, hF⟩, hce, hcv, hcl, st⟩
  · cases hv
    obtain ⟨k1, k2, k3⟩ := vx_keep h0 e1 hS hA hf hL hF
    obtain ⟨t2, a1, b1⟩ := kk r u t T'.heap (locs ++ L) e1.symm (by rw [← e2]; exact X'.warmed.alike) hp hb k1 k2 k3 T' rfl X'
    exact ⟨t2, st t2 a1, b1⟩
  · obtain ⟨k1, k2, k3⟩ := vx_keep h0 e1 hS hAX hf hL hF
    obtain ⟨t2, a1, b1⟩ := kx E ce q u t T'.heap (locs ++ L) e1.symm (by rw [← e2]; exact X'.warmed.alike) hp hb k1 k2 k3 (by rw [e1]; exact hce) hcv hcl T' rfl X'
    exact ⟨t2, st.trans a1, b1⟩
theorem vx_callv {S SX : Type} {post : S → Prop} {px : SX → Prop} {B : S → State → Prop} {BX : String → SX → State → Prop} {AX : Nat → Prop} (hr : vx_Run p l e R s m args below meth c H locs cells slots mc ms (F0 m pc ls st0) rest (va_Qv post B A1 a) (vx_X px BX AX) free) (hS : va_S A0 H0 H locs) (hA : ∀ q, q < H.size → A1 q → A0 q) (hf : ∀ q, free q → A0 q) (hAX : ∀ q, q < H.size → AX q → A0 q)
    (kx : ∀ (E : String) (ce : Cell) (q9 : Addr) (u : SX) (t : State) (H1 : Heap) (locs1 : List Loc), t.heap = H1 → s.vm.Alike t.vm → px u → BX E u t → H.size ≤ H1.size → (∀ q : Nat, q < H.size → ¬ AX q → H1[q]? = H[q]?) → va_S A0 H0 H1 locs1 → H1[q9]? = some ce → ce.vm = .none → s.vm.findClass E = some ce.cls → vx_W p l e R s m args below meth c H1 locs1 (cells + mc) (slots + ms) Q (F0 m pc ls rest) q9)
    (kk : ∀ (u : S) (t : State) (H1 : Heap) (locs1 : List Loc), t.heap = H1 → s.vm.Alike t.vm → post u → B u t → H.size ≤ H1.size → (∀ q : Nat, q < H.size → ¬ A1 q → H1[q]? = H[q]?) → va_S A0 H0 H1 locs1 → W p l e R s m args below meth c H1 locs1 (cells + mc) (slots + ms) Q (F0 m (pc + 3) ls (rest))) : W p l e R s m args below meth c H locs cells slots Q (F0 m pc ls st0) := by
  intro T hT X
  rcases hr T hT X with ⟨v, st₀, t, T', L, h0, X', hL, e1, e2, ⟨⟨u, hv, hp, hb⟩, hF⟩, st⟩ | ⟨q, st₀, t, T', L, E, ce, h0, X', hL, e1, e2, ⟨u, hp, hb, hF⟩, hce, hcv, hcl, st⟩
  · cases hv
    obtain ⟨k1, k2, k3⟩ := vx_keep h0 e1 hS hA hf hL hF
    obtain ⟨t2, a1, b1⟩ := kk u t T'.heap (locs ++ L) e1.symm (by rw [← e2]; exact X'.warmed.alike) hp hb k1 k2 k3 T' rfl X'
    exact ⟨t2, st t2 a1, b1⟩
  · obtain ⟨k1, k2, k3⟩ := vx_keep h0 e1 hS hAX hf hL hF
    obtain ⟨t2, a1, b1⟩ := kx E ce q u t T'.heap (locs ++ L) e1.symm (by rw [← e2]; exact X'.warmed.alike) hp hb k1 k2 k3 (by rw [e1]; exact hce) hcv hcl T' rfl X'
    exact ⟨t2, st.trans a1, b1⟩
/-- caught by the row x of this method's table; the rows ahead don't take it -/
theorem vx_catch {own name : String} {E : String} {ce : Cell} {q : Addr} (hown : s.vm.findClass own = some m.cls) (pre : List ExceptionTableEntry) (x : ExceptionTableEntry) (suf : List ExceptionTableEntry) (hsplit : c.exceptionTable.toList = pre ++ x :: suf)
    (hpass : ∀ z ∈ pre, covers z pc = false ∨ (z.catchType ≠ 0 ∧ ∃ nm : String, (Cond.classLink own z.catchType nm).before args s = true ∧ va_Nc E nm s)) (hx : covers x pc = true) (h0 : x.catchType ≠ 0)
    (hlink : (Cond.classLink own x.catchType name).before args s = true) (hcast : (Cond.castable E name).before args s = true) (hcell : H[q]? = some ce) (hv : ce.vm = .none) (hcl : s.vm.findClass E = some ce.cls)
    (kk : W p l e R s m args below meth c H locs cells slots Q (F0 m x.handlerPc ls [.ref q])) : vx_W p l e R s m args below meth c H locs cells slots Q (F0 m pc ls rest) q := by
  intro T hT X
  have hpl : e.platform.magicAccessors = ({} : Platform).magicAccessors := by rw [X.admits.platform]
  obtain ⟨c3, c4, hc3, hc4, hasg⟩ := Cond.castable_spec hcast
  cases Option.some.inj (hc3.symm.trans hcl)
  obtain ⟨c5, hc5, hcl5⟩ := Cond.classLink_spec hown hlink e.platform hpl
  cases Option.some.inj (hc4.symm.trans hc5)
  obtain ⟨vm', X', st⟩ := X.thenCaughtThrough q (g := F0 m pc ls rest) rfl (Steps.refl _) (by rw [hT]; exact hcell) (by rw [hv]; rfl) (by obtain ⟨k9, h9, -⟩ := Vm.findClass_spec hcl; exact ⟨k9, h9⟩) pre x suf hsplit
    (fun z hz => by
      rcases hpass z hz with h | ⟨hz0, nm, hl1, hn1⟩
      · exact Or.inl h
      · obtain ⟨c6, hc6, hcl6⟩ := Cond.classLink_spec hown hl1 e.platform hpl
        obtain ⟨a8, b8, h1, h2, h3⟩ := hn1
        cases Option.some.inj (h1.symm.trans hcl)
        cases Option.some.inj (h2.symm.trans hc6)
        exact Or.inr ⟨hz0, _, hcl6, h3⟩) hx (Or.inr ⟨h0, c4, hcl5, hasg⟩)
  obtain ⟨t, a1, b1⟩ := kk (T.setVm vm') hT X'
  exact ⟨t, st.trans a1, b1⟩
end Rows
section Ends
variable {p : Program} {l : Launch} {e : Env} {R : Room} {s : State} {m : MethodId} {args : Array Value} {below : List Frame} {meth : Method} {c : Code} {H : Heap} {locs : List Loc} {cells slots : Nat} {Q : State → Prop}
variable {mc ms : Nat} {free : Addr → Prop} {A0 A1 : Nat → Prop} {H0 : Heap} {a : Array Value} {ls : Array Slot} {st0 rest : List Value}
variable {Qc : Array Value → State → Outcome → State → Prop} {XC : String → State → State → Prop}
/-- what a body that may throw owes at its end -/
def vx_MQ (below : List Frame) (Qc : Array Value → State → Outcome → State → Prop) (XC : String → State → State → Prop) (a : Array Value) (s : State) (mc ms : Nat) (free : Addr → Prop) : State → Prop := fun t =>
  ∃ o, t.status = .running ∧ Ended t below o ∧ vx_Q Qc XC mc ms free a s o t
theorem vx_ret {g : JFrame} {mc ms : Nat} (k : W p l e R s m args below meth c H locs cells slots (MQ below Qc args s mc ms free) g) : W p l e R s m args below meth c H locs cells slots (vx_MQ below Qc XC args s mc ms free) g := by
  intro T hT X
  obtain ⟨t, a1, o, b1, b2, b3, b4⟩ := k T hT X
  exact ⟨t, a1, o, b1, b2, Or.inl ⟨b3, b4⟩⟩
/-- not caught here: it goes on to the caller -/
theorem vx_widen {g : JFrame} {q : Addr} {k n : Nat} (h1 : cells ≤ k) (h2 : slots ≤ n) (kk : vx_W p l e R s m args below meth c H locs k n Q g q) : vx_W p l e R s m args below meth c H locs cells slots Q g q := fun T hT X => kk T hT (stand_widen X h1 h2)
theorem vx_out {pc : Nat} {E : String} {ce : Cell} {q : Addr} {mc ms : Nat} (hout : ∀ x ∈ c.exceptionTable.toList, covers x pc = false) (hlocks : meth.locks = false) (hcell : H[q]? = some ce) (hv : ce.vm = .none) (hcl : s.vm.findClass E = some ce.cls)
    (hx : ∀ t : State, t.heap = H → s.vm.Alike t.vm → XC E s t) (hf : ∀ z ∈ locs, free z.base) (hc : cells ≤ mc) (hs : slots ≤ ms) :
    vx_W p l e R s m args below meth c H locs cells slots (vx_MQ below Qc XC args s mc ms free) (F0 m pc ls rest) q := by
  intro T hT X
  obtain ⟨st1, hrun, hend, hW, hsm⟩ := X.leaveThrown q (g := F0 m pc ls rest) rfl rfl rfl hout hlocks
  have hcell9 : (T.setFrames (.throwing q :: below)).heap[q]? = some ce := by
    show T.heap[q]? = some ce
    rw [hT]; exact hcell
  exact ⟨_, st1, .threw q, hrun, hend, Or.inr ⟨q, rfl, E, ce, locs, hx _ hT hW.alike, hcell9, hv, hcl, hW, hsm.mono hc hs, hf⟩⟩
theorem vx_frame {U : State} {k n : Nat} (h : s.sameButNew ({ U with vm := s.vm } : State) locs k n) : s.heap.size ≤ U.heap.size ∧ ∀ q : Nat, q < s.heap.size → (∀ z ∈ locs, z.base ≠ q) → U.heap[q]? = s.heap[q]? := by
  obtain ⟨-, h2, -, -, -, h6⟩ := h
  refine ⟨h2, fun q hq hz => ?_⟩
  obtain ⟨c9, e1, e2, e3, e4⟩ := h6 q _ (Array.getElem?_eq_getElem hq)
  have hs : c9.slots = (s.heap[q]).slots := Array.ext_getElem? fun i => e4 i fun hm => hz _ hm rfl
  have h9 : c9 = s.heap[q] := by
    rw [hs] at e2
    exact e2
  have e5 : U.heap[q]? = some c9 := e1
  rw [e5, h9, Array.getElem?_eq_getElem hq]
/-- the words of a throw but the four that speak of the heap -/
def vx_no (w : Cond) : Bool := decide (w ≠ .isRef (.static Bundle.tN "UNASSIGNED_STACK" Bundle.steD)) && decide (w ≠ .isRef (.static Bundle.tN "SUPPRESSED_SENTINEL" Bundle.listD)) && decide (w ≠ .laysStatic Bundle.tN "UNASSIGNED_STACK" Bundle.steD) && decide (w ≠ .laysStatic Bundle.tN "SUPPRESSED_SENTINEL" Bundle.listD)
def vx_at0 (own : String) (ic : Nat) (X : String) (names : List String) : List Cond := (Bundle.ownAtoms0 own ic X names).filter vx_no
def vx_atS (own : String) (ic : Nat) (X : String) (names : List String) : List Cond := (Bundle.ownAtoms own ic X names).filter vx_no
/-- a word that the tables alone decide, or a good one -/
def vx_ot (w : Cond) : Bool := w.onTables || goodWord w
theorem vx_ot_at {args a' : Array Value} {s U : State} {w : Cond} (hW : s.WarmedH U.vm) (hvm : s.vm = U.vm) (hg : vx_ot w = true) (h : w.before args s = true) : w.before a' U = true := by
  simp only [vx_ot, Bool.or_eq_true] at hg
  rcases hg with hg | hg
  · exact va_tabs hg hvm h
  · exact word_at hW (good_of_word hg) h
/-- a list's words: the good ones out of the method's own list, the others by premises of their own -/
theorem vx_hat {args : Array Value} {s : State} {L B : List Cond} (h1 : ∀ w ∈ L.filter goodWord, w.before args s = true) (h2 : ∀ w ∈ L.filter (fun w => !goodWord w), w ∈ B) (h3 : ∀ w ∈ B, w.before args s = true) : ∀ w ∈ L, w.before args s = true := by
  intro w hw
  by_cases g : goodWord w = true
  · exact h1 w (List.mem_filter.mpr ⟨hw, g⟩)
  · refine h3 w (h2 w (List.mem_filter.mpr ⟨hw, ?_⟩))
    show (!goodWord w) = true
    cases hgw : goodWord w
    · rfl
    · exact absurd hgw g
theorem vx_c {args : Array Value} {s : State} {w : Cond} {B : List Cond} (h : w.before args s = true) (t : ∀ w ∈ B, w.before args s = true) : ∀ w' ∈ w :: B, w'.before args s = true := fun w' h' => (List.mem_cons.mp h').elim (fun e => by rw [e]; exact h) (t w')
theorem vx_n {args : Array Value} {s : State} : ∀ w ∈ ([] : List Cond), w.before args s = true := fun _ h => nomatch h
theorem vx_own {args : Array Value} {s : State} {L : List Cond} (h1 : ∀ w ∈ L.filter vx_no, w.before args s = true)
    (hU : (Cond.isRef (.static Bundle.tN "UNASSIGNED_STACK" Bundle.steD)).before args s = true) (hN : (Cond.isRef (.static Bundle.tN "SUPPRESSED_SENTINEL" Bundle.listD)).before args s = true)
    (lU : (Cond.laysStatic Bundle.tN "UNASSIGNED_STACK" Bundle.steD).before args s = true) (lN : (Cond.laysStatic Bundle.tN "SUPPRESSED_SENTINEL" Bundle.listD).before args s = true) : ∀ w ∈ L, w.before args s = true := by
  intro w hw
  by_cases e1 : w = .isRef (.static Bundle.tN "UNASSIGNED_STACK" Bundle.steD)
  · rw [e1]; exact hU
  · by_cases e2 : w = .isRef (.static Bundle.tN "SUPPRESSED_SENTINEL" Bundle.listD)
    · rw [e2]; exact hN
    · by_cases e3 : w = .laysStatic Bundle.tN "UNASSIGNED_STACK" Bundle.steD
      · rw [e3]; exact lU
      · by_cases e4 : w = .laysStatic Bundle.tN "SUPPRESSED_SENTINEL" Bundle.listD
        · rw [e4]; exact lN
        · exact h1 w (List.mem_filter.mpr ⟨hw, by unfold vx_no; rw [decide_eq_true e1, decide_eq_true e2, decide_eq_true e3, decide_eq_true e4]; rfl⟩)
/-- where a static field lies, its class's statics cell in H -/
def vx_L (C n d : String) (A : Nat → Prop) (U : State) (H : Heap) : Prop := ∃ (c : ClassId) (k : Class) (i : Nat) (f : Field) (a : Nat) (cell : Cell), U.vm.findClass C = some c ∧ U.fieldFound? C n d = some (c, k, i, f) ∧ f.isStatic = true ∧ k.statics = some a ∧ H[a]? = some cell ∧ cell.vm.isStatics = true ∧ cell.cls = c ∧ f.slot < cell.slots.size ∧ k.staticTypes[f.slot]? = some f.type ∧ ¬ A a
theorem vx_L.moved {C n d : String} {A : Nat → Prop} {u U : State} {H : Heap} (hvm : u.vm.Alike U.vm) (h : vx_L C n d A u H) : vx_L C n d A U H := by
  obtain ⟨c, k, i, f, a, cell, h1, h2, h3, h4, h5, h6, h7, h8, h9, h10⟩ := h
  obtain ⟨k', hi', he⟩ := State.fieldFound?_setVm hvm h2
  exact ⟨c, k', i, f, a, cell, by rw [hvm.findClass]; exact h1, hi', h3, by rw [he]; exact h4, h5, h6, h7, h8, by rw [he]; exact h9, h10⟩
theorem vx_L.kept {C n d : String} {A : Nat → Prop} {U : State} {H H1 : Heap} (h : vx_L C n d A U H) (hq : ∀ a : Nat, a < H.size → ¬ A a → H1[a]? = H[a]?) : vx_L C n d A U H1 := by
  obtain ⟨c, k, i, f, a, cell, h1, h2, h3, h4, h5, h6, h7, h8, h9, h10⟩ := h
  exact ⟨c, k, i, f, a, cell, h1, h2, h3, h4, by rw [hq a (Array.getElem?_eq_some_iff.mp h5).1 h10]; exact h5, h6, h7, h8, h9, h10⟩
theorem vx_L.narrow {C n d : String} {A B : Nat → Prop} {U : State} {H : Heap} (h : vx_L C n d A U H) (hAB : ∀ q, B q → A q) : vx_L C n d B U H := by
  obtain ⟨c, k, i, f, a, cell, h1, h2, h3, h4, h5, h6, h7, h8, h9, h10⟩ := h
  exact ⟨c, k, i, f, a, cell, h1, h2, h3, h4, h5, h6, h7, h8, h9, fun z => h10 (hAB _ z)⟩
theorem vx_L.word {C n d : String} {A : Nat → Prop} {s : State} {args : Array Value} (h : vx_L C n d A s s.heap) : (Cond.laysStatic C n d).before args s = true := by
  obtain ⟨c, k, i, f, a, cell, h1, h2, h3, h4, h5, h6, h7, h8, h9, -⟩ := h
  show (Cond.laysStatic C n d).holds args s none s [] = true
  exact Cond.laysStatic_of h1 h2 h3 h4 h5 h6 h7 h8 h9
/-- .. and what it holds: null or some reference -/
def vx_Zq (C n d : String) (A : Nat → Prop) (U : State) (H : Heap) : Prop := va_Zq C n d A U H ∧ vx_L C n d A U H
theorem vx_Zq.moved {C n d : String} {A : Nat → Prop} {u U : State} {H : Heap} (hvm : u.vm.Alike U.vm) (h : vx_Zq C n d A u H) : vx_Zq C n d A U H := ⟨va_Zq.moved hvm h.1, vx_L.moved hvm h.2⟩
theorem vx_Zq.kept {C n d : String} {A : Nat → Prop} {U : State} {H H1 : Heap} (h : vx_Zq C n d A U H) (hq : ∀ a : Nat, a < H.size → ¬ A a → H1[a]? = H[a]?) : vx_Zq C n d A U H1 := ⟨va_Zq.kept h.1 hq, vx_L.kept h.2 hq⟩
theorem vx_Zq.narrow {C n d : String} {A B : Nat → Prop} {U : State} {H : Heap} (h : vx_Zq C n d A U H) (hAB : ∀ q, B q → A q) : vx_Zq C n d B U H := ⟨va_Zq.narrow h.1 hAB, vx_L.narrow h.2 hAB⟩
theorem vx_Zqof {args : Array Value} {s : State} {C n d : String} {A : Nat → Prop} (hl : (Cond.laysStatic C n d).before args s = true) (hini : (Cond.initialized C).before args s = true) (h : (Cond.isRef (.static C n d)).before args s = true) (hA : ∀ a : Nat, a < s.heap.size → ¬ A a) : vx_Zq C n d A s s.heap := by
  refine ⟨va_Zqof hl hini h hA, ?_⟩
  obtain ⟨c, k, i, f, a, cell, h1, h2, h3, h4, h5, h6, h7, h8, h9⟩ := Cond.laysStatic_spec hl
  exact ⟨c, k, i, f, a, cell, h1, h2, h3, h4, h5, h6, h7, h8, h9, hA a (Array.getElem?_eq_some_iff.mp h5).1⟩
theorem vx_isRef {C n d : String} {v : Value} {A : Nat → Prop} {s : State} {args : Array Value} (h : va_Z C n d v A s s.heap) (hv : v.isRef = true) : (Cond.isRef (.static C n d)).before args s = true := by
  obtain ⟨cf, kf, fi, f, a, cell, h1, h2, h3, h4, h5, h6, h7, -⟩ := h
  have he : (Term.static C n d).eval args s none [] s = some v := by
    simp [Term.eval, State.fieldNamed?, h1, h2, h4, h5, h6, h7]
  simp only [Cond.before, Cond.holds, Cond.value, he]
  cases v <;> simp_all [Value.isRef]
theorem vx_isRefq {C n d : String} {A : Nat → Prop} {s : State} {args : Array Value} (h : va_Zq C n d A s s.heap) : (Cond.isRef (.static C n d)).before args s = true := by
  rcases h with h | ⟨t, h⟩
  · exact vx_isRef h rfl
  · exact vx_isRef h rfl
/-- the same frame, seen from here: as if the method were called anew in this heap -/
theorem vx_rebase {T : State} (X : Stand p l e R s m args below meth c T locs cells slots) {R' : Room} (hf : R'.frames ≤ R.frames) (hl : R'.locals ≤ R.locals) (hc : cells + R'.cells ≤ R.cells) (hs : slots + R'.slots ≤ R.slots) :
    Stand p l e R' ((T.setVm s.vm).setFrames (.invoking m args :: below)) m args below meth c T [] 0 0 := by
  have htop : (T.setVm s.vm).topJava?.isSome := X.here.top
  have hF : ((T.setVm s.vm).setFrames (.invoking m args :: below)).frames = .invoking m args :: below := State.frames_setFrames _ (State.cur_lt_of_top htop)
  obtain ⟨g₀, hg0⟩ := Option.isSome_iff_exists.mp htop
  obtain ⟨r, hr⟩ := State.topJava?_eq_some.mp hg0
  have hl9 : e.platform.stackLimits (T.setVm s.vm).me = e.platform.stackLimits s.me := X.limits
  have hb9 : (T.setVm s.vm).me.stackBytes = s.me.stackBytes := X.bytes
  refine ⟨X.admits, X.cas, X.clock, hF, ?_, X.hears, X.method, X.code, X.here, X.tail, X.warmed, ?_, ?_, ?_⟩
  · have h := X.room
    have hU : ((T.setVm s.vm).setFrames (.invoking m args :: below)).localsInUse = s.localsInUse := by
      rw [State.localsInUse_invoking hF (meth := meth) (c := c) X.method X.code, State.localsInUse_invoking X.frames X.method X.code]
    simp only [State.hasRoom, Bool.and_eq_true, decide_eq_true_eq] at h ⊢
    obtain ⟨⟨⟨⟨h1, h2, h3, h4, h5, h6⟩, h7⟩, h8⟩, h9⟩ := h
    rw [X.frames, List.length_cons] at h2 h3
    have q1 := X.heapSize
    have q2 := X.used
    simp only [hF, hU, List.length_cons, State.stackLimits_setFrames, State.stackBytes_setFrames, hl9, hb9]
    refine ⟨⟨⟨⟨by omega, by omega, by omega, by omega, by omega, h6⟩, ?_⟩, ?_⟩, X.book⟩
    · show T.heap.size + R'.cells ≤ e.platform.maxCells
      omega
    · show T.slotsUsed + R'.slots ≤ e.platform.maxSlots
      omega
  · rw [State.stackLimits_setFrames]; rfl
  · rw [State.stackBytes_setFrames]; rfl
  · refine ⟨?_, Nat.le_refl _, Nat.le_refl _, ?_, ?_, fun a c9 h9 => ⟨c9, h9, rfl, rfl, fun _ _ => rfl⟩⟩
    · obtain ⟨t, ht, -⟩ := State.frames_cons hr
      show T.setVm s.vm = { ((T.setVm s.vm).setFrames (.invoking m args :: below)).setFrames (T.setVm s.vm).frames with heap := T.heap, slotsUsed := T.slotsUsed }
      rw [State.setFrames_setFrames, State.setFrames_self ht]
      rfl
    · show T.slotsUsed = T.slotsUsed + ((T.heap.toList.drop T.heap.size).map (·.slots.size)).sum
      rw [List.drop_eq_nil_of_le (Nat.le_of_eq Array.length_toList)]
      rfl
    · show ((T.heap.toList.drop T.heap.size).map (·.slots.size)).sum ≤ 0
      rw [List.drop_eq_nil_of_le (Nat.le_of_eq Array.length_toList)]
      exact Nat.le_refl _
/-- 'throw new E()': new; dup; invokespecial; athrow -/
theorem vx_throw0 {cc : ByteArray} {pc : Nat} (hexec : p.tables.exec = Jvm.exec) (hb : c.code = cc) (hl : l.stackTraces = false) {own cls : String} {names : List String} {ik ic mc ms : Nat} {A : Nat → Prop}
    (hown : s.vm.findClass own = some m.cls) (hcls : Bundle.fit cls = true) (hnames : ∀ n ∈ names, Bundle.fit n = true)
    (hk : (Cond.classLink own ik cls).before args s = true) (hini : (Cond.initialized cls).before args s = true) (hat : ∀ w ∈ vx_at0 own ic cls names, w.before args s = true)
    (hgood : ∀ w ∈ Cond.classLink own ik cls :: Cond.initialized cls :: vx_at0 own ic cls names, vx_ot w = true)
    (hU : vx_Zq Bundle.tN "UNASSIGNED_STACK" Bundle.steD A s s.heap) (hN : vx_Zq Bundle.tN "SUPPRESSED_SENTINEL" Bundle.listD A s s.heap) (hS : va_S A s.heap H locs) (hsize : ls.size = c.maxLocals)
    (d0 : decode cc pc = .ok (.new ik, 3)) (d3 : decode cc (pc + 3) = .ok (.dup, 1)) (d4 : decode cc (pc + 4) = .ok (.invokespecial ic, 3)) (d7 : decode cc (pc + 7) = .ok (.athrow, 1))
    (hout : ∀ x ∈ c.exceptionTable.toList, covers x (pc + 7) = false)
    (hRframes : names.length + 3 < R.frames) (hRlocals : (rest.map fun v => v.category).sum + (13 * (names.length + 1) + 42) ≤ R.locals) (hRcells : cells + 1 ≤ R.cells) (hRslots : slots + 6 ≤ R.slots) (hlocks : meth.locks = false)
    (hx : ∀ t : State, s.vm.Alike t.vm → H.size ≤ t.heap.size → (∀ q : Nat, q < H.size → t.heap[q]? = H[q]?) → XC cls s t)
    (hf : ∀ z ∈ locs, free z.base) (hc : cells + 1 ≤ mc) (hs : slots + 6 ≤ ms) :
    W p l e R s m args below meth c H locs cells slots (vx_MQ below Qc XC args s mc ms free) (F0 m pc ls rest) := by
  intro T hT X
  have htr : e.platform.stackTraces = false := (show e.platform.stackTraces = l.stackTraces by rw [X.admits.platform]).trans hl
  have Y := vx_rebase X (R' := { frames := R.frames, locals := R.locals, cells := 1, slots := 6 }) (Nat.le_refl _) (Nat.le_refl _) hRcells hRslots
  obtain ⟨s', hA⟩ : ∃ z, z = (T.setVm s.vm).setFrames (.invoking m args :: below) := ⟨_, rfl⟩
  rw [← hA] at Y
  have hvm : s'.vm = s.vm := by rw [hA]; rfl
  have hhp : s'.heap = H := by rw [hA]; exact hT
  have hW0 : s.WarmedH s'.vm := by rw [hvm]; exact State.WarmedH.refl s
  have hat' : ∀ w ∈ vx_at0 own ic cls names, w.before args s' = true := fun w hw => vx_ot_at hW0 hvm.symm (hgood w (List.mem_cons_of_mem _ (List.mem_cons_of_mem _ hw))) (hat w hw)
  have hk' : (Cond.classLink own ik cls).before args s' = true := vx_ot_at hW0 hvm.symm (hgood _ List.mem_cons_self) hk
  have hini' : (Cond.initialized cls).before args s' = true := vx_ot_at hW0 hvm.symm (hgood _ (List.mem_cons_of_mem _ List.mem_cons_self)) hini
  have hU' : vx_Zq Bundle.tN "UNASSIGNED_STACK" Bundle.steD A s' s'.heap := by rw [hhp]; exact vx_Zq.moved hW0.alike (hU.kept hS.2.1)
  have hN' : vx_Zq Bundle.tN "SUPPRESSED_SENTINEL" Bundle.listD A s' s'.heap := by rw [hhp]; exact vx_Zq.moved hW0.alike (hN.kept hS.2.1)
  have h : ∀ w ∈ Bundle.ownAtoms0 own ic cls names, w.before args s' = true := vx_own hat' (vx_isRefq hU'.1) (vx_isRefq hN'.1) hU'.2.word hN'.2.word
  have hown' : s'.vm.findClass own = some m.cls := by rw [hvm]; exact hown
  have hins : (Cond.instantiable cls 6).before args s' = true := h _ (by simp [Bundle.ownAtoms0])
  obtain ⟨vm₁, cX, kX, hfX, hkX, -, -, X₁, st1⟩ := Y.newCold hexec (own := own) (C := cls) (index := ik) (n := 6) hown' hk' hins hini'
    (g := F0 m pc ls rest) rfl (by rw [hb]; exact d0) (Nat.le_refl _) (Nat.le_refl _)
  generalize hT1 : (T.setVm vm₁).pushCell { cls := cX, slots := kX.instanceTypes.map defaultValue, vm := .none } = T1 at X₁ st1
  have hcat : (Value.ref T.heap.size).category = 1 := rfl
  have hcellA : T1.heap[T.heap.size]? = some (freshCell cX kX) := by rw [← hT1]; exact State.heap_pushCell_size _ _
  have d3' : decode c.code (pc + 3) = .ok (.dup, 1) := by rw [hb]; exact d3
  obtain ⟨U, hsteps, hrun, hend, hW, hsame, ce, hce, hO⟩ := X₁.ctorThrow0 hexec htr (own := own) (cls := cls) (names := names) (ic := ic) hown' hcls hnames h (fun x hx => nomatch hx) hfX hkX hcellA (by rw [hhp, hT]; exact Nat.le_refl _)
    (g := { method := m, pc := pc + 4, locals := ls, stack := .ref T.heap.size :: .ref T.heap.size :: rest, locked := none }) rfl hsize rfl rfl (rest := rest) rfl
    (by rw [hb]; exact d4) (by rw [hb]; exact d7) hout hRframes (by simp only [List.map_cons, List.sum_cons, hcat]; omega) hlocks
  obtain ⟨f1, f2⟩ := vx_frame hsame
  rw [hhp] at f1 f2
  have hWs : s.WarmedH U.vm := State.WarmedH.trans hW0 hW
  have hcl : s.vm.findClass cls = some ce.cls := by
    have h9 := hO.cls
    rw [hvm] at h9
    exact h9
  have hall : s.sameButNew ({ U with vm := s.vm } : State) locs mc ms := by
    subst hA
    obtain ⟨e1, e2⟩ := hsame
    rw [State.setFrames_setFrames] at e1
    have h2 : (T.setVm s.vm).sameButNew ({ U with vm := s.vm } : State) [] (0 + 1) (0 + 6) := ⟨e1, e2⟩
    have h3 := X.same.trans h2
    rw [List.append_nil] at h3
    exact h3.mono hc hs
  refine ⟨U, ?_, .threw T.heap.size, hrun, hend, Or.inr ⟨T.heap.size, rfl, cls, ce, locs, hx U hWs.alike f1 (fun q hq => f2 q hq (fun z hz => nomatch hz)), hce, hO.vm, hcl, hWs, hall, hf⟩⟩
  refine st1 _ ?_
  show Steps p.tables e below (T1.setTop { method := m, pc := pc + 3, locals := ls, stack := .ref T.heap.size :: rest, locked := none }) _
  jvm_step X₁.here [X₁.here.top, hexec, d3', Value.category]
  exact hsteps
/-- 'throw new E("text")': new; dup; ldc; invokespecial; athrow -/
theorem vx_throwS {cc : ByteArray} {pc : Nat} (hexec : p.tables.exec = Jvm.exec) (hb : c.code = cc) (hl : l.stackTraces = false) {own cls text : String} {names : List String} {ik is ic mc ms sa : Nat} {A : Nat → Prop}
    (hown : s.vm.findClass own = some m.cls) (hcls : Bundle.fit cls = true) (hnames : ∀ n ∈ names, Bundle.fit n = true)
    (hk : (Cond.classLink own ik cls).before args s = true) (hini : (Cond.initialized cls).before args s = true) (hstr : vk_R own is text sa s) (hat : ∀ w ∈ vx_atS own ic cls names, w.before args s = true)
    (hgood : ∀ w ∈ Cond.classLink own ik cls :: Cond.initialized cls :: vx_atS own ic cls names, vx_ot w = true)
    (hU : vx_Zq Bundle.tN "UNASSIGNED_STACK" Bundle.steD A s s.heap) (hN : vx_Zq Bundle.tN "SUPPRESSED_SENTINEL" Bundle.listD A s s.heap) (hS : va_S A s.heap H locs) (hsize : ls.size = c.maxLocals)
    (d0 : decode cc pc = .ok (.new ik, 3)) (d3 : decode cc (pc + 3) = .ok (.dup, 1)) (d4 : decode cc (pc + 4) = .ok (.ldc is, 2)) (d6 : decode cc (pc + 6) = .ok (.invokespecial ic, 3)) (d9 : decode cc (pc + 9) = .ok (.athrow, 1))
    (hout : ∀ x ∈ c.exceptionTable.toList, covers x (pc + 9) = false)
    (hRframes : names.length + 3 < R.frames) (hRlocals : (rest.map fun v => v.category).sum + (13 * (names.length + 1) + 43) ≤ R.locals) (hRcells : cells + 1 ≤ R.cells) (hRslots : slots + 6 ≤ R.slots) (hlocks : meth.locks = false)
    (hx : ∀ t : State, s.vm.Alike t.vm → H.size ≤ t.heap.size → (∀ q : Nat, q < H.size → t.heap[q]? = H[q]?) → XC cls s t)
    (hf : ∀ z ∈ locs, free z.base) (hc : cells + 1 ≤ mc) (hs : slots + 6 ≤ ms) :
    W p l e R s m args below meth c H locs cells slots (vx_MQ below Qc XC args s mc ms free) (F0 m pc ls rest) := by
  intro T hT X
  have htr : e.platform.stackTraces = false := (show e.platform.stackTraces = l.stackTraces by rw [X.admits.platform]).trans hl
  have Y := vx_rebase X (R' := { frames := R.frames, locals := R.locals, cells := 1, slots := 6 }) (Nat.le_refl _) (Nat.le_refl _) hRcells hRslots
  obtain ⟨s', hA⟩ : ∃ z, z = (T.setVm s.vm).setFrames (.invoking m args :: below) := ⟨_, rfl⟩
  rw [← hA] at Y
  have hvm : s'.vm = s.vm := by rw [hA]; rfl
  have hhp : s'.heap = H := by rw [hA]; exact hT
  have hW0 : s.WarmedH s'.vm := by rw [hvm]; exact State.WarmedH.refl s
  have hat' : ∀ w ∈ vx_atS own ic cls names, w.before args s' = true := fun w hw => vx_ot_at hW0 hvm.symm (hgood w (List.mem_cons_of_mem _ (List.mem_cons_of_mem _ hw))) (hat w hw)
  have hk' : (Cond.classLink own ik cls).before args s' = true := vx_ot_at hW0 hvm.symm (hgood _ List.mem_cons_self) hk
  have hini' : (Cond.initialized cls).before args s' = true := vx_ot_at hW0 hvm.symm (hgood _ (List.mem_cons_of_mem _ List.mem_cons_self)) hini
  have hU' : vx_Zq Bundle.tN "UNASSIGNED_STACK" Bundle.steD A s' s'.heap := by rw [hhp]; exact vx_Zq.moved hW0.alike (hU.kept hS.2.1)
  have hN' : vx_Zq Bundle.tN "SUPPRESSED_SENTINEL" Bundle.listD A s' s'.heap := by rw [hhp]; exact vx_Zq.moved hW0.alike (hN.kept hS.2.1)
  have h : ∀ w ∈ Bundle.ownAtoms own ic cls names, w.before args s' = true := vx_own hat' (vx_isRefq hU'.1) (vx_isRefq hN'.1) hU'.2.word hN'.2.word
  have hown' : s'.vm.findClass own = some m.cls := by rw [hvm]; exact hown
  have hins : (Cond.instantiable cls 6).before args s' = true := h _ (by simp [Bundle.ownAtoms])
  obtain ⟨vm₁, cX, kX, hfX, hkX, -, -, X₁, st1⟩ := Y.newCold hexec (own := own) (C := cls) (index := ik) (n := 6) hown' hk' hins hini'
    (g := F0 m pc ls rest) rfl (by rw [hb]; exact d0) (Nat.le_refl _) (Nat.le_refl _)
  generalize hT1 : (T.setVm vm₁).pushCell { cls := cX, slots := kX.instanceTypes.map defaultValue, vm := .none } = T1 at X₁ st1
  have hcat : (Value.ref T.heap.size).category = 1 := rfl
  have hcellA : T1.heap[T.heap.size]? = some (freshCell cX kX) := by rw [← hT1]; exact State.heap_pushCell_size _ _
  have d3' : decode c.code (pc + 3) = .ok (.dup, 1) := by rw [hb]; exact d3
  have d4' : decode c.code (pc + 4) = .ok (.ldc is, 2) := by rw [hb]; exact d4
  have hstr' : vk_R own is text sa s' := vk_R.warm hW0 hstr
  obtain ⟨U, hsteps, hrun, hend, hW, hsame, ce, hce, hO⟩ := X₁.ctorThrowS hexec htr (own := own) (cls := cls) (names := names) (ic := ic) hown' hcls hnames h (fun x hx => nomatch hx) hfX hkX hcellA (by rw [hhp, hT]; exact Nat.le_refl _) (msg := .ref sa) rfl
    (g := { method := m, pc := pc + 6, locals := ls, stack := .ref sa :: .ref T.heap.size :: .ref T.heap.size :: rest, locked := none }) rfl hsize rfl rfl (rest := rest) rfl
    (by rw [hb]; exact d6) (by rw [hb]; exact d9) hout hRframes (by simp only [List.map_cons, List.sum_cons, hcat]; omega) hlocks
  obtain ⟨f1, f2⟩ := vx_frame hsame
  rw [hhp] at f1 f2
  have hWs : s.WarmedH U.vm := State.WarmedH.trans hW0 hW
  have hcl : s.vm.findClass cls = some ce.cls := by
    have h9 := hO.cls
    rw [hvm] at h9
    exact h9
  have hall : s.sameButNew ({ U with vm := s.vm } : State) locs mc ms := by
    subst hA
    obtain ⟨e1, e2⟩ := hsame
    rw [State.setFrames_setFrames] at e1
    have h2 : (T.setVm s.vm).sameButNew ({ U with vm := s.vm } : State) [] (0 + 1) (0 + 6) := ⟨e1, e2⟩
    have h3 := X.same.trans h2
    rw [List.append_nil] at h3
    exact h3.mono hc hs
  refine ⟨U, ?_, .threw T.heap.size, hrun, hend, Or.inr ⟨T.heap.size, rfl, cls, ce, locs, hx U hWs.alike f1 (fun q hq => f2 q hq (fun z hz => nomatch hz)), hce, hO.vm, hcl, hWs, hall, hf⟩⟩
  refine st1 _ ?_
  show Steps p.tables e below (T1.setTop { method := m, pc := pc + 3, locals := ls, stack := .ref T.heap.size :: rest, locked := none }) _
  jvm_step X₁.here [X₁.here.top, hexec, d3', Value.category]
  exact X₁.ldcString hexec (own := own) (text := text) (index := is) (a := sa) hown' hstr'.1 hstr'.2
    (g := { method := m, pc := pc + 4, locals := ls, stack := .ref T.heap.size :: .ref T.heap.size :: rest, locked := none }) rfl d4' _ hsteps
/-- 'throw new E("text")', the text by a wide index -/
theorem vx_throwSW {cc : ByteArray} {pc : Nat} (hexec : p.tables.exec = Jvm.exec) (hb : c.code = cc) (hl : l.stackTraces = false) {own cls text : String} {names : List String} {ik is ic mc ms sa : Nat} {A : Nat → Prop}
    (hown : s.vm.findClass own = some m.cls) (hcls : Bundle.fit cls = true) (hnames : ∀ n ∈ names, Bundle.fit n = true)
    (hk : (Cond.classLink own ik cls).before args s = true) (hini : (Cond.initialized cls).before args s = true) (hstr : vk_R own is text sa s) (hat : ∀ w ∈ vx_atS own ic cls names, w.before args s = true)
    (hgood : ∀ w ∈ Cond.classLink own ik cls :: Cond.initialized cls :: vx_atS own ic cls names, vx_ot w = true)
    (hU : vx_Zq Bundle.tN "UNASSIGNED_STACK" Bundle.steD A s s.heap) (hN : vx_Zq Bundle.tN "SUPPRESSED_SENTINEL" Bundle.listD A s s.heap) (hS : va_S A s.heap H locs) (hsize : ls.size = c.maxLocals)
    (d0 : decode cc pc = .ok (.new ik, 3)) (d3 : decode cc (pc + 3) = .ok (.dup, 1)) (d4 : decode cc (pc + 4) = .ok (.ldc_w is, 3)) (d7 : decode cc (pc + 7) = .ok (.invokespecial ic, 3)) (d10 : decode cc (pc + 10) = .ok (.athrow, 1))
    (hout : ∀ x ∈ c.exceptionTable.toList, covers x (pc + 10) = false)
    (hRframes : names.length + 3 < R.frames) (hRlocals : (rest.map fun v => v.category).sum + (13 * (names.length + 1) + 43) ≤ R.locals) (hRcells : cells + 1 ≤ R.cells) (hRslots : slots + 6 ≤ R.slots) (hlocks : meth.locks = false)
    (hx : ∀ t : State, s.vm.Alike t.vm → H.size ≤ t.heap.size → (∀ q : Nat, q < H.size → t.heap[q]? = H[q]?) → XC cls s t)
    (hf : ∀ z ∈ locs, free z.base) (hc : cells + 1 ≤ mc) (hs : slots + 6 ≤ ms) :
    W p l e R s m args below meth c H locs cells slots (vx_MQ below Qc XC args s mc ms free) (F0 m pc ls rest) := by
  intro T hT X
  have htr : e.platform.stackTraces = false := (show e.platform.stackTraces = l.stackTraces by rw [X.admits.platform]).trans hl
  have Y := vx_rebase X (R' := { frames := R.frames, locals := R.locals, cells := 1, slots := 6 }) (Nat.le_refl _) (Nat.le_refl _) hRcells hRslots
  obtain ⟨s', hA⟩ : ∃ z, z = (T.setVm s.vm).setFrames (.invoking m args :: below) := ⟨_, rfl⟩
  rw [← hA] at Y
  have hvm : s'.vm = s.vm := by rw [hA]; rfl
  have hhp : s'.heap = H := by rw [hA]; exact hT
  have hW0 : s.WarmedH s'.vm := by rw [hvm]; exact State.WarmedH.refl s
  have hat' : ∀ w ∈ vx_atS own ic cls names, w.before args s' = true := fun w hw => vx_ot_at hW0 hvm.symm (hgood w (List.mem_cons_of_mem _ (List.mem_cons_of_mem _ hw))) (hat w hw)
  have hk' : (Cond.classLink own ik cls).before args s' = true := vx_ot_at hW0 hvm.symm (hgood _ List.mem_cons_self) hk
  have hini' : (Cond.initialized cls).before args s' = true := vx_ot_at hW0 hvm.symm (hgood _ (List.mem_cons_of_mem _ List.mem_cons_self)) hini
  have hU' : vx_Zq Bundle.tN "UNASSIGNED_STACK" Bundle.steD A s' s'.heap := by rw [hhp]; exact vx_Zq.moved hW0.alike (hU.kept hS.2.1)
  have hN' : vx_Zq Bundle.tN "SUPPRESSED_SENTINEL" Bundle.listD A s' s'.heap := by rw [hhp]; exact vx_Zq.moved hW0.alike (hN.kept hS.2.1)
  have h : ∀ w ∈ Bundle.ownAtoms own ic cls names, w.before args s' = true := vx_own hat' (vx_isRefq hU'.1) (vx_isRefq hN'.1) hU'.2.word hN'.2.word
  have hown' : s'.vm.findClass own = some m.cls := by rw [hvm]; exact hown
  have hins : (Cond.instantiable cls 6).before args s' = true := h _ (by simp [Bundle.ownAtoms])
  obtain ⟨vm₁, cX, kX, hfX, hkX, -, -, X₁, st1⟩ := Y.newCold hexec (own := own) (C := cls) (index := ik) (n := 6) hown' hk' hins hini'
    (g := F0 m pc ls rest) rfl (by rw [hb]; exact d0) (Nat.le_refl _) (Nat.le_refl _)
  generalize hT1 : (T.setVm vm₁).pushCell { cls := cX, slots := kX.instanceTypes.map defaultValue, vm := .none } = T1 at X₁ st1
  have hcat : (Value.ref T.heap.size).category = 1 := rfl
  have hcellA : T1.heap[T.heap.size]? = some (freshCell cX kX) := by rw [← hT1]; exact State.heap_pushCell_size _ _
  have d3' : decode c.code (pc + 3) = .ok (.dup, 1) := by rw [hb]; exact d3
  have d4' : decode c.code (pc + 4) = .ok (.ldc_w is, 3) := by rw [hb]; exact d4
  have hstr' : vk_R own is text sa s' := vk_R.warm hW0 hstr
  obtain ⟨U, hsteps, hrun, hend, hW, hsame, ce, hce, hO⟩ := X₁.ctorThrowS hexec htr (own := own) (cls := cls) (names := names) (ic := ic) hown' hcls hnames h (fun x hx => nomatch hx) hfX hkX hcellA (by rw [hhp, hT]; exact Nat.le_refl _) (msg := .ref sa) rfl
    (g := { method := m, pc := pc + 7, locals := ls, stack := .ref sa :: .ref T.heap.size :: .ref T.heap.size :: rest, locked := none }) rfl hsize rfl rfl (rest := rest) rfl
    (by rw [hb]; exact d7) (by rw [hb]; exact d10) hout hRframes (by simp only [List.map_cons, List.sum_cons, hcat]; omega) hlocks
  obtain ⟨f1, f2⟩ := vx_frame hsame
  rw [hhp] at f1 f2
  have hWs : s.WarmedH U.vm := State.WarmedH.trans hW0 hW
  have hcl : s.vm.findClass cls = some ce.cls := by
    have h9 := hO.cls
    rw [hvm] at h9
    exact h9
  have hall : s.sameButNew ({ U with vm := s.vm } : State) locs mc ms := by
    subst hA
    obtain ⟨e1, e2⟩ := hsame
    rw [State.setFrames_setFrames] at e1
    have h2 : (T.setVm s.vm).sameButNew ({ U with vm := s.vm } : State) [] (0 + 1) (0 + 6) := ⟨e1, e2⟩
    have h3 := X.same.trans h2
    rw [List.append_nil] at h3
    exact h3.mono hc hs
  refine ⟨U, ?_, .threw T.heap.size, hrun, hend, Or.inr ⟨T.heap.size, rfl, cls, ce, locs, hx U hWs.alike f1 (fun q hq => f2 q hq (fun z hz => nomatch hz)), hce, hO.vm, hcl, hWs, hall, hf⟩⟩
  refine st1 _ ?_
  show Steps p.tables e below (T1.setTop { method := m, pc := pc + 3, locals := ls, stack := .ref T.heap.size :: rest, locked := none }) _
  jvm_step X₁.here [X₁.here.top, hexec, d3', Value.category]
  exact X₁.ldcStringW hexec (own := own) (text := text) (index := is) (a := sa) hown' hstr'.1 hstr'.2
    (g := { method := m, pc := pc + 4, locals := ls, stack := .ref T.heap.size :: .ref T.heap.size :: rest, locked := none }) rfl d4' _ hsteps
end Ends
section Bodies
variable {l : Launch}
theorem vx_ofW {y : MethodName} {ws ws' : List Cond} {rm : Room} {Pc : Array Value → State → Prop} {Qc : Array Value → State → Outcome → State → Prop} {XC : String → State → State → Prop} {mc ms : Nat} {free : Addr → Prop} {cc : ByteArray} {maxL : Nat} {ret : Option FieldType}
    (hy : plainName y.cls = true) (hw : ws = Cond.code y cc maxL ret :: ws')
    (body : ∀ p e s m args below meth c s₁, BodyLoose p l y (headSpec ws rm) cc maxL ret e s m args below meth c s₁ → c.maxLocals = maxL → (∀ x ∈ c.exceptionTable.toList, False) → Pc args s →
      W p l e (headSpec ws rm).room s m args below meth c s.heap [] 0 0 (vx_MQ below Qc XC args s mc ms free) (entryFrame m args maxL)) : vx_Met l y ws rm Pc Qc XC mc ms free := by
  refine MetFree.of_bodyS (code := cc) (maxLocals := maxL) (ret := ret) hy ?_ ?_
  · intro args s m h hn
    obtain ⟨meth, c, h1, h2, h3, h4, h5, h6, -, -⟩ := Cond.code_spec hn (atoms_spec (ws := ws) h _ (by rw [hw]; exact List.mem_cons_self))
    exact ⟨meth, c, h1, h2, h3, h4, h5, h6⟩
  · intro p e s m args below meth c s₁ B hml hP _
    have hh0 : s₁.heap = s.heap := by rw [B.state]; rfl
    have ht : ∀ x ∈ c.exceptionTable.toList, False := by
      obtain ⟨meth9, c9, h1, h2, -, -, -, -, h7, -⟩ := Cond.code_spec B.named (atoms_spec (ws := ws) B.pre _ (by rw [hw]; exact List.mem_cons_self))
      cases Option.some.inj (h1.symm.trans B.method)
      cases Option.some.inj (h2.symm.trans (Stand.of_body B).code)
      intro x hx
      rw [Array.isEmpty_iff.mp h7] at hx
      cases hx
    obtain ⟨t, a1, o, b1, b2, b3⟩ := body p e s m args below meth c s₁ B hml ht hP s₁ hh0 (Stand.of_body B)
    exact ⟨t, o, a1, b1, b2, b3⟩
/-- the table of a body with handlers -/
theorem vx_table {p : Program} {x y : MethodName} {S : Spec} {cc bytes : ByteArray} {maxL maxL' : Nat} {ret ret' : Option FieldType} {e : Env} {s s₁ : State} {m : MethodId} {args : Array Value} {below : List Frame} {meth : Method} {c : Code} {hh : List (Nat × Nat × Nat × Nat)}
    (B : BodyLoose p l y S cc maxL ret e s m args below meth c s₁) (h : (Cond.codeWith y bytes maxL' ret' hh).before args s = true) : c.exceptionTable.toList = tableOf hh := by
  obtain ⟨m9, meth9, c9, hn9, h1, h2, -, -, h6, -⟩ := Cond.codeWith_spec h
  cases Option.some.inj (hn9.symm.trans B.named)
  cases Option.some.inj (h1.symm.trans B.method)
  cases Option.some.inj (h2.symm.trans (Stand.of_body B).code)
  rw [← h6, table_eq]
end Bodies
end VXA
/-! ===== END ===== -/
/-! ===== BEGIN a static call of a method with an exception table ===== -/
section VXS
variable {p : Program} {l : Launch} {e : Env} {R : Room} {s : State} {m : MethodId} {args : Array Value} {below : List Frame} {meth : Method} {c : Code} {T : State} {H : Heap} {locs : List Loc} {cells slots : Nat}
abbrev vx_CSW (R : Room) (s : State) (args : Array Value) (own : String) (index : Nat) (y : MethodName) (bytes : ByteArray) (maxL : Nat) (ret : Option FieldType) (hh : List (Nat × Nat × Nat × Nat)) (ws : List Cond) (rm : Room) (mc ms n : Nat) : Prop :=
  (rm.cells = mc ∧ rm.slots = ms ∧ rm.frames + 1 ≤ R.frames ∧ 8 + (maxL + 11) + rm.locals ≤ R.locals ∧ (∀ w ∈ ws, ∀ (a' : Array Value) (U : State), s.WarmedH U.vm → w.before a' U = true) ∧ Cond.codeWith y bytes maxL ret hh ∈ ws) ∧
  (Cond.codeWith y bytes maxL ret hh).before args s = true ∧ (Cond.initialized y.cls).before args s = true ∧ (y.cls ≠ "java/lang/invoke/MethodHandle" ∧ y.cls ≠ "java/lang/invoke/VarHandle") ∧
  (∀ sig, parseMethodDescriptor y.desc = some sig → n = sig.parameters.length) ∧ (Cond.methodLink own index y).before args s = true ∧ (Cond.static y).before args s = true
theorem vx_cwSW {own : String} {index maxL mc ms : Nat} {y : MethodName} {bytes : ByteArray} {ret : Option FieldType} {hh : List (Nat × Nat × Nat × Nat)} {Ts ws ws' : List Cond} {rm : Room} (n : Nat) (ht : ∀ w ∈ Ts, w.before args s = true) (hT : GoodIn Ts (va_wsS own index y ws)) (hw : ws = Cond.codeWith y bytes maxL ret hh :: ws') (hrc : rm.cells = mc) (hrs : rm.slots = ms)
    (hd : y.cls ≠ "java/lang/invoke/MethodHandle" ∧ y.cls ≠ "java/lang/invoke/VarHandle" ∧ (parseMethodDescriptor y.desc).map (fun d => d.parameters.length) = some n) (hR : rm.frames + 1 ≤ R.frames ∧ 8 + (maxL + 11) + rm.locals ≤ R.locals) :
    vx_CSW R s args own index y bytes maxL ret hh ws rm mc ms n := by
  have ok : ∀ w ∈ va_wsS own index y ws, w.before args s = true := fun w h => ht w (hT w h).1
  have hG : GoodIn Ts ws := fun w h => hT w (by unfold va_wsS; exact List.mem_append_right _ h)
  have hc : Cond.codeWith y bytes maxL ret hh ∈ ws := by rw [hw]; exact List.mem_cons_self
  refine ⟨⟨hrc, hrs, hR.1, hR.2, pay_in ht hG, hc⟩, ht _ (hG _ hc).1, ok _ (by simp [va_wsS]), ⟨hd.1, hd.2.1⟩, fun sig h => ?_, ok _ (by simp [va_wsS]), ok _ (by simp [va_wsS])⟩
  have h2 := hd.2.2
  rw [h] at h2
  exact (Option.some.inj h2).symm
theorem vx_callSW (X : Stand p l e R s m args below meth c T locs cells slots) (hexec : p.tables.exec = Jvm.exec) {own : String} {index : Nat} {y : MethodName} {bytes : ByteArray} {maxL : Nat} {ret : Option FieldType} {hh : List (Nat × Nat × Nat × Nat)}
    (hown : s.vm.findClass own = some m.cls) (hlink : (Cond.methodLink own index y).before args s = true) (hstat : (Cond.static y).before args s = true) (hinit : (Cond.initialized y.cls).before args s = true)
    (hcode : (Cond.codeWith y bytes maxL ret hh).before args s = true) (hy : y.cls ≠ "java/lang/invoke/MethodHandle" ∧ y.cls ≠ "java/lang/invoke/VarHandle")
    {W9 : Nat} {Pre : Pt → Array Value → Prop} {Post : Pt → Array Value → Option Value → Pt → Prop} (hK : Back l R p e below s args y 3 W9 Pre Post)
    {g : JFrame} (hg : g.method = m) (hsize : g.locals.size = c.maxLocals) {argsL rest : List Value} (hlen : ∀ sig, parseMethodDescriptor y.desc = some sig → argsL.length = sig.parameters.length)
    (hstack : g.stack = argsL.reverse ++ rest) (hW : 2 * g.monitorRoom + (rest.map fun v => v.category).sum ≤ W9) (hdg : decode c.code g.pc = .ok (.invokestatic index, 3))
    (hpre : ∀ vm₁, s.WarmedH vm₁ → Pre ⟨T.setVm vm₁, locs, cells, slots⟩ argsL.toArray) :
    ∃ (v : Option Value) (vm₁ : Vm) (B : Pt), s.WarmedH vm₁ ∧ Stand p l e R s m args below meth c B.U B.locs B.cells B.slots ∧ Post ⟨T.setVm vm₁, locs, cells, slots⟩ argsL.toArray v B ∧
      ∀ target, Steps p.tables e below (B.U.setTop { g with pc := g.pc + 3, stack := v.toList ++ rest }) target → Steps p.tables e below (T.setTop g) target := by
  obtain ⟨mk, methM, cM, hnamed, hmethM, -, -, -, -, -, -, hsigM⟩ := Cond.codeWith_spec hcode
  have hstatic : methM.isStatic = true := Cond.static_spec hnamed hmethM hstat
  obtain ⟨kP, hkP, -⟩ := className_of_methodNamed hnamed
  have hinitP : kP.init = .initialized := Cond.initialized_spec (findClass_of_methodNamed hnamed) hkP hinit
  obtain ⟨vm₁, X₁, hstep₁⟩ := X.invokestatic hexec hown hlink hnamed hmethM hstatic hkP hinitP hy (g := g) hg (argsL := argsL) (rest := rest) (hlen _ hsigM) hstack hdg
  obtain ⟨v, B, X', hpost, hsteps⟩ := hK m meth c ⟨T.setVm vm₁, locs, cells, slots⟩ { g with stack := rest } (.invokestatic index) mk argsL.toArray X₁ hg hsize hdg hW (X₁.named hnamed) (hpre vm₁ X₁.warmed)
  exact ⟨v, vm₁, B, X₁.warmed, X', hpost, fun target h => hstep₁ _ fun acts => by rw [doInvoke_state]; exact hsteps.trans h⟩
theorem vx_runSW {y : MethodName} {bytes cc : ByteArray} {maxL nL mc ms n index : Nat} {ret : Option FieldType} {hh : List (Nat × Nat × Nat × Nat)} {ws : List Cond} {rm : Room} {Pc : Array Value → State → Prop} {Qc : Array Value → State → Outcome → State → Prop} {free : Addr → Prop} {Ts : List Cond} {own : String} {As rest : List Value} {g : JFrame}
    (S : CallFix p m c cc nL s args Ts own) (hM : Met l y ws rm Pc Qc mc ms free) (cw : vx_CSW R s args own index y bytes maxL ret hh ws rm mc ms n) (hp : PreS s H Pc As)
    (hg : g.method = m) (hn : As.length = n) (hsize : g.locals.size = nL) (hstack : g.stack = As.reverse ++ rest) (hW : 2 * g.monitorRoom + (rest.map fun v => v.category).sum ≤ 8) (hdg : decode cc g.pc = .ok (.invokestatic index, 3)) (hf : cells + mc ≤ R.cells ∧ slots + ms ≤ R.slots) :
    va_Run p l e R s m args below meth c H locs cells slots mc ms g rest (Qc As.toArray) (free) := by
  obtain ⟨⟨hrc, hrs, hfr, hlo, hws, hcw⟩, hcode, hini, hy, hlen, hl, hstt⟩ := cw
  have hK : Back l R p e below s args y 3 8 (PreOf R mc ms Pc) (PostOf Qc mc ms free) := va_backW (hh := hh) (bytes := bytes) (maxL := maxL) (ret := ret) hM hp.1 hrc hrs hfr hlo hws hcw (fun a' U hW => word_at hW (Or.inl (by first | rfl | simp [Cond.onTables, Cond.keeps, Cond.steady])) hini)
  obtain ⟨hx, hb, hml, ho, -⟩ := S
  intro T hT X
  obtain ⟨v, vm₁, ⟨U', l2, c2, s2⟩, hW₁, X', ⟨g', mk, t, L, e1, e2, hq, h1, hL, h2, h3⟩, st⟩ := vx_callSW X hx (hh := hh) (bytes := bytes) (maxL := maxL) (ret := ret) ho hl hstt hini hcode hy hK hg (hsize.trans hml.symm) (argsL := As) (rest := rest) (fun sig h => hn.trans (hlen sig h)) hstack hW (by rw [hb]; exact hdg)
    (fun vm₁ hW₁ => ⟨hf.1, hf.2, hp.2 (T.setVm vm₁) hT hW₁⟩)
  dsimp only [Pt.U, Pt.locs, Pt.cells, Pt.slots] at X' e1 e2 h1 h2 h3 st
  subst h1; subst h2; subst h3
  exact ⟨v, (T.setVm vm₁).calling g' mk As.toArray, t, U', L, hT, X', hL, e1, e2, hq, st⟩
/-- not caught here, past rows that name other classes: it goes on to the caller -/
theorem vx_outP {p : Program} {l : Launch} {e : Env} {R : Room} {s : State} {m : MethodId} {args : Array Value} {below : List Frame} {meth : Method} {c : Code} {H : Heap} {locs : List Loc} {cells slots : Nat} {free : Addr → Prop} {ls : Array Slot} {rest : List Value} {Qc : Array Value → State → Outcome → State → Prop} {XC : String → State → State → Prop}
    {pc : Nat} {own E : String} {ce : Cell} {q : Addr} {mc ms : Nat} (hown : s.vm.findClass own = some m.cls) (hlocks : meth.locks = false)
    (hpass : ∀ z ∈ c.exceptionTable.toList, covers z pc = false ∨ (z.catchType ≠ 0 ∧ ∃ nm : String, (Cond.classLink own z.catchType nm).before args s = true ∧ va_Nc E nm s)) (hcell : H[q]? = some ce) (hv : ce.vm = .none) (hcl : s.vm.findClass E = some ce.cls)
    (hx : ∀ t : State, t.heap = H → s.vm.Alike t.vm → XC E s t) (hf : ∀ z ∈ locs, free z.base) (hc : cells ≤ mc) (hs : slots ≤ ms) :
    vx_W p l e R s m args below meth c H locs cells slots (vx_MQ below Qc XC args s mc ms free) (F0 m pc ls rest) q := by
  intro T hT X
  have hpl : e.platform.magicAccessors = ({} : Platform).magicAccessors := by rw [X.admits.platform]
  obtain ⟨vm', hW', X', st⟩ := X.outThrough hlocks q (g := F0 m pc ls rest) rfl rfl rfl (cell := ce) (by rw [hT]; exact hcell) (by rw [hv]; rfl)
    (by obtain ⟨k9, h9, -⟩ := Vm.findClass_spec hcl; exact ⟨k9, h9⟩) (fun z hz => by
      rcases hpass z hz with h | ⟨hz0, nm, hl1, hn1⟩
      · exact Or.inl h
      · obtain ⟨c6, hc6, hcl6⟩ := Cond.classLink_spec hown hl1 e.platform hpl
        obtain ⟨a8, b8, h1, h2, h3⟩ := hn1
        cases Option.some.inj (h1.symm.trans hcl)
        cases Option.some.inj (h2.symm.trans hc6)
        exact Or.inr ⟨hz0, _, hcl6, h3⟩)
  obtain ⟨g₀, hfr⟩ := X'.frames_eq
  have hcell9 : ((T.setVm vm').setFrames (.throwing q :: below)).heap[q]? = some ce := by
    show T.heap[q]? = some ce
    rw [hT]; exact hcell
  have hend : Ended ((T.setVm vm').setFrames (.throwing q :: below)) below (.threw q) := State.frames_setFrames _ (State.cur_lt_of_frames hfr)
  refine ⟨(T.setVm vm').setFrames (.throwing q :: below), ?_, .threw q, X'.here.running, hend, Or.inr ⟨q, rfl, E, ce, locs, hx _ hT (X'.ends _).1.alike, hcell9, hv, hcl, (X'.ends _).1, (X'.ends _).2.mono hc hs, hf⟩⟩
  rw [X.pushThrowing_eq]
  exact st
/-- a thing of a world lies in the heap -/
theorem vx_lt {D : va_G} {cl : List vw_C} {ws : va_W} {H1 : Heap} (h : va_P D cl ws H1) {k : Nat} {q : Nat × va_E} (hk : ws[k]? = some q) : q.1 < H1.size := (h k q hk).lt
end VXS
/-! ===== END ===== -/
/-! ===== BEGIN methods with a table of their own: called by a name, returning or throwing ===== -/
section VXH
/-! vx_backW, vx_callVX, vx_callSX, vx_callVW, vx_runVW, vx_runVX, vx_runSX, vx_ofWH follow the same proofs as their sisters above (Free/Laws.lean, Shelf42/LK1.lean); vx_outP calls Shelf42/NT130.lean (outThrough). -/
section
variable {l : Launch} {R : Room} {p : Program} {e : Env} {below : List Frame} {s : State} {sargs : Array Value} {y : MethodName} {len W9 : Nat}
theorem vx_backW {ws : List Cond} {rm : Room} {Pc : Array Value → State → Prop} {Qc : Array Value → State → Outcome → State → Prop} {XC : String → State → State → Prop} {mc ms : Nat} {free : Addr → Prop} {bytes : ByteArray} {maxL : Nat} {ret : Option FieldType} {hh : List (Nat × Nat × Nat × Nat)}
    (hM : vx_Met l y ws rm Pc Qc XC mc ms free) (hblind : FrameBlind Pc) (hrc : rm.cells = mc) (hrs : rm.slots = ms)
    (hframes : rm.frames + 1 ≤ R.frames) (hlocals : W9 + (maxL + 11) + rm.locals ≤ R.locals)
    (hws : ∀ w ∈ ws, ∀ a' U, s.WarmedH U.vm → w.before a' U = true) (hcode : Cond.codeWith y bytes maxL ret hh ∈ ws) (hinit : ∀ a' U, s.WarmedH U.vm → (Cond.initialized y.cls).before a' U = true) :
    vx_Back l R p e below s sargs y len W9 (PreOf R mc ms Pc) (PostOf Qc mc ms free) (vx_Post XC mc ms free) := by
  intro m meth c A g ig mk a X hg hsize hdg hW hn hp
  have h1 : (headSpec ws rm).pre.before a A.U = true := atoms_intro fun w hw => hws w hw _ _ X.warmed
  have h2 : (Cond.codeWith y bytes maxL ret hh).before a A.U = true := hws _ hcode _ _ X.warmed
  have h3 : (Cond.initialized y.cls).before a A.U = true := hinit _ _ X.warmed
  have h4 : A.cells + (headSpec ws rm).room.cells ≤ R.cells := by rw [show (headSpec ws rm).room.cells = mc from hrc]; exact hp.1
  have h5 : A.slots + (headSpec ws rm).room.slots ≤ R.slots := by rw [show (headSpec ws rm).room.slots = ms from hrs]; exact hp.2.1
  have hPc : Pc a (A.U.calling g mk a) := hblind _ _ _ _ hp.2.2
  obtain ⟨U, Ls, c0, s0⟩ := A
  dsimp only [Pt.U, Pt.locs, Pt.cells, Pt.slots] at h1 h2 h3 h4 h5 X hn hPc ⊢
  obtain ⟨m9, methY, cY, hn9, hmY, hcY, -, hlY, -⟩ := Cond.codeWith_spec h2
  cases Option.some.inj (hn9.symm.trans hn)
  obtain ⟨kY, hkY, -⟩ := className_of_methodNamed hn
  have hinitY : kY.init = .initialized := Cond.initialized_spec (findClass_of_methodNamed hn) hkY h3
  have h : At U g.method c below := by rw [hg]; exact X.here
  have hlocals9 : W9 + (maxL + 11) + (headSpec ws rm).room.locals ≤ R.locals := hlocals
  have happ : (headSpec ws rm).appliesLoose y e.platform (U.calling g mk a) = true :=
    Spec.appliesLoose_calling (g := g) h hdg hn hkY hinitY
      (X.room_calling (g := g) (R' := (headSpec ws rm).room) hsize hmY hcY hframes (by rw [hlY]; omega) h4 h5) h1
  obtain ⟨mid, hmid⟩ := h.above
  have hfr : (U.setTop g).frames = (.java g :: mid) ++ below := by rw [State.frames_setTop' g h.top, hmid]; rfl
  obtain ⟨o, s₂, hsteps, -, hend, hq⟩ := Steps.callFree hM p X.admits X.cas X.clock (acts := []) hfr happ hPc trivial
  have hq' : vx_Q Qc XC mc ms free a (U.calling g mk a) o s₂ := hq
  rw [State.frames_setTop' g h.top] at hend
  obtain ⟨g₀, hg0⟩ := Option.isSome_iff_exists.mp h.top
  obtain ⟨r, hr⟩ := State.topJava?_eq_some.mp hg0
  have hr' : (({ U with heap := s₂.heap, slotsUsed := s₂.slotsUsed } : State).setVm s₂.vm).frames = .java g₀ :: r := hr
  rcases hq' with ⟨hqc, L, hfe, hL⟩ | ⟨q, rfl, E, ce, L, hx, hce, hcv, hcl, hW₂, hsm, hL⟩
  · obtain ⟨⟨v, rfl⟩, hW₂, e2, q2, q3, q4, q5, q6⟩ := id hfe
    have e3 : s₂ = ({ (U.calling g mk a).setFrames s₂.frames with heap := s₂.heap, slotsUsed := s₂.slotsUsed } : State).setVm s₂.vm := by
      have : s₂ = ({ s₂ with vm := (U.calling g mk a).vm } : State).setVm s₂.vm := rfl
      rw [e2] at this
      exact this
    obtain ⟨c₂, i₂, len₂, hc₂, hd₂, hf₂⟩ := hend
    have hW' : U.WarmedH s₂.vm := hW₂
    have hcc : c₂ = c := by
      have h1 : s₂.code? g.method = U.code? g.method := by
        rw [State.code?_eq, State.code?_eq, hW'.alike.method?]
      exact Option.some.inj (hc₂.symm.trans (h1.trans h.code))
    subst hcc
    have hlen : len₂ = len := by rw [hdg] at hd₂; cases hd₂; rfl
    subst hlen
    have hs₂ : s₂ = (({ U with heap := s₂.heap, slotsUsed := s₂.slotsUsed } : State).setVm s₂.vm).setTop { g with pc := g.pc + len₂, stack := v.toList ++ g.stack } := by
      refine e3.trans ?_
      rw [hf₂, State.calling_eq h.top, State.setFrames_setFrames, State.setTop_of_frames _ hr', hr]
      rfl
    have hsame : U.sameButNew ({ U with heap := s₂.heap, slotsUsed := s₂.slotsUsed } : State) L mc ms := by
      refine ⟨?_, q2, q3, q4, q5, q6⟩
      obtain ⟨t, ht, -⟩ := State.frames_cons hr
      show ({ U with heap := s₂.heap, slotsUsed := s₂.slotsUsed } : State) = { U.setFrames U.frames with heap := s₂.heap, slotsUsed := s₂.slotsUsed }
      rw [State.setFrames_self ht]
    subst hg
    refine Or.inl ⟨v, ⟨(({ U with heap := s₂.heap, slotsUsed := s₂.slotsUsed } : State).setVm s₂.vm), Ls ++ L, c0 + mc, s0 + ms⟩,
      ⟨X.admits, X.cas, X.clock, X.frames, X.room, X.hears, X.method, X.code, (X.here.setHeapUsed s₂.heap s₂.slotsUsed).setVm hW'.alike, X.tail, State.WarmedH.trans X.warmed hW', X.limits, X.bytes, X.same.trans (hsame.setVm s.vm)⟩,
      ⟨g, mk, s₂, L, rfl, rfl, hqc, rfl, hL, rfl, rfl⟩, ?_⟩
    show Steps p.tables e below _ ((({ U with heap := s₂.heap, slotsUsed := s₂.slotsUsed } : State).setVm s₂.vm).setTop { g with pc := g.pc + len₂, stack := v.toList ++ g.stack })
    rw [← hs₂]
    exact hsteps
  · obtain ⟨e2, q2, q3, q4, q5, q6⟩ := id hsm
    have e3 : s₂ = ({ (U.calling g mk a).setFrames s₂.frames with heap := s₂.heap, slotsUsed := s₂.slotsUsed } : State).setVm s₂.vm := by
      have : s₂ = ({ s₂ with vm := (U.calling g mk a).vm } : State).setVm s₂.vm := rfl
      rw [e2] at this
      exact this
    have hf₂ : s₂.frames = .throwing q :: .java g :: U.frames.tail := hend
    have hW' : U.WarmedH s₂.vm := hW₂
    have hs₂ : s₂ = ((({ U with heap := s₂.heap, slotsUsed := s₂.slotsUsed } : State).setVm s₂.vm).setTop g).pushFrame (.throwing q) := by
      refine e3.trans ?_
      rw [hf₂, State.calling_eq h.top, State.setFrames_setFrames, State.pushFrame, State.frames_setTop _ hr', State.setTop_of_frames _ hr', State.setFrames_setFrames, hr]
      rfl
    have hsame : U.sameButNew ({ U with heap := s₂.heap, slotsUsed := s₂.slotsUsed } : State) L mc ms := by
      refine ⟨?_, q2, q3, q4, q5, q6⟩
      obtain ⟨t, ht, -⟩ := State.frames_cons hr
      show ({ U with heap := s₂.heap, slotsUsed := s₂.slotsUsed } : State) = { U.setFrames U.frames with heap := s₂.heap, slotsUsed := s₂.slotsUsed }
      rw [State.setFrames_self ht]
    subst hg
    refine Or.inr ⟨q, ⟨(({ U with heap := s₂.heap, slotsUsed := s₂.slotsUsed } : State).setVm s₂.vm), Ls ++ L, c0 + mc, s0 + ms⟩,
      ⟨X.admits, X.cas, X.clock, X.frames, X.room, X.hears, X.method, X.code, (X.here.setHeapUsed s₂.heap s₂.slotsUsed).setVm hW'.alike, X.tail, State.WarmedH.trans X.warmed hW', X.limits, X.bytes, X.same.trans (hsame.setVm s.vm)⟩,
      ⟨g, mk, s₂, L, E, ce, rfl, rfl, hx, hce, hcv, hcl, rfl, hL, rfl, rfl⟩, ?_⟩
    show Steps p.tables e below _ (((({ U with heap := s₂.heap, slotsUsed := s₂.slotsUsed } : State).setVm s₂.vm).setTop g).pushFrame (.throwing q))
    rw [← hs₂]
    exact hsteps
end
variable {p : Program} {l : Launch} {e : Env} {R : Room} {s : State} {m : MethodId} {args : Array Value} {below : List Frame} {meth : Method} {c : Code} {T : State} {H : Heap} {locs : List Loc} {cells slots : Nat}
theorem vx_callVX (X : Stand p l e R s m args below meth c T locs cells slots) (hexec : p.tables.exec = Jvm.exec) {own C : String} {index : Nat} {y : MethodName} {bytes : ByteArray} {maxL : Nat} {ret : Option FieldType} {hh : List (Nat × Nat × Nat × Nat)}
    (hown : s.vm.findClass own = some m.cls) (hlink : (Cond.methodLink own index y).before args s = true) (hinst : (Cond.instanceMethod y).before args s = true) (hsel : (Cond.selects C y y).before args s = true)
    (hcode : (Cond.codeWith y bytes maxL ret hh).before args s = true) (hy : y.cls ≠ "java/lang/invoke/MethodHandle" ∧ y.cls ≠ "java/lang/invoke/VarHandle")
    {W9 : Nat} {Pre : Pt → Array Value → Prop} {Post : Pt → Array Value → Option Value → Pt → Prop} {PostX : Pt → Array Value → Addr → Pt → Prop} (hK : vx_Back l R p e below s args y 3 W9 Pre Post PostX)
    {b : Addr} {cellB : Cell} (hcell : T.heap[b]? = some cellB) (hobj : cellB.vm.isStatics = false) (hcls : s.vm.findClass C = some cellB.cls)
    {g : JFrame} (hg : g.method = m) (hsize : g.locals.size = c.maxLocals) {argsL rest : List Value} (hlen : ∀ sig, parseMethodDescriptor y.desc = some sig → argsL.length = sig.parameters.length)
    (hstack : g.stack = argsL.reverse ++ .ref b :: rest) (hW : 2 * g.monitorRoom + (rest.map fun v => v.category).sum ≤ W9) (hdg : decode c.code g.pc = .ok (.invokevirtual index, 3))
    (hpre : ∀ vm₁, s.WarmedH vm₁ → Pre ⟨T.setVm vm₁, locs, cells, slots⟩ (Value.ref b :: argsL).toArray) :
    (∃ (v : Option Value) (vm₁ : Vm) (B : Pt), s.WarmedH vm₁ ∧ Stand p l e R s m args below meth c B.U B.locs B.cells B.slots ∧ Post ⟨T.setVm vm₁, locs, cells, slots⟩ (Value.ref b :: argsL).toArray v B ∧
      ∀ target, Steps p.tables e below (B.U.setTop { g with pc := g.pc + 3, stack := v.toList ++ rest }) target → Steps p.tables e below (T.setTop g) target) ∨
    (∃ (q : Addr) (vm₁ : Vm) (B : Pt), s.WarmedH vm₁ ∧ Stand p l e R s m args below meth c B.U B.locs B.cells B.slots ∧ PostX ⟨T.setVm vm₁, locs, cells, slots⟩ (Value.ref b :: argsL).toArray q B ∧
      Steps p.tables e below (T.setTop g) ((B.U.setTop { g with stack := rest }).pushFrame (.throwing q))) := by
  obtain ⟨mk, methM, hnamed, hmethM, hstM, habM⟩ := Cond.instanceMethod_spec hinst
  obtain ⟨m8, methM', cM, hn8, hmethM', -, -, -, -, -, -, hsigM⟩ := Cond.codeWith_spec hcode
  cases Option.some.inj (hn8.symm.trans hnamed)
  cases hmethM.symm.trans hmethM'
  obtain ⟨c2, r2, m2, q1, q2, q3, q4, kP, hkP, hkPi⟩ := Cond.selects_spec hsel
  cases hcls.symm.trans q1
  cases (State.methodFound?_of_named hnamed hy).symm.trans q2
  cases hnamed.symm.trans q3
  have hselP : selectMethod e.platform s.vm cellB.cls mk = .method mk := by rw [Launch.admits_selectMethod X.admits]; exact q4
  obtain ⟨vm₁, X₁, hstep₁⟩ := X.invokevirtual hexec hown hlink hnamed hmethM hstM hkP hkPi hy (a := b) (cell := cellB) hcell
    (fun z h => by rw [h] at hobj; cases hobj) hselP hmethM habM hkP hkPi (g := g) hg (argsL := argsL) (rest := rest) (hlen _ hsigM) hstack hdg
  rcases hK m meth c ⟨T.setVm vm₁, locs, cells, slots⟩ { g with stack := rest } (.invokevirtual index) mk (Value.ref b :: argsL).toArray X₁ hg hsize hdg hW (X₁.named hnamed) (hpre vm₁ X₁.warmed) with ⟨v, B, X', hpost, hsteps⟩ | ⟨q, B, X', hpost, hsteps⟩
  · exact Or.inl ⟨v, vm₁, B, X₁.warmed, X', hpost, fun target h => hstep₁ _ fun acts => by rw [doInvoke_state]; exact hsteps.trans h⟩
  · exact Or.inr ⟨q, vm₁, B, X₁.warmed, X', hpost, hstep₁ _ fun acts => by rw [doInvoke_state]; exact hsteps⟩
theorem vx_callSX (X : Stand p l e R s m args below meth c T locs cells slots) (hexec : p.tables.exec = Jvm.exec) {own : String} {index : Nat} {y : MethodName} {bytes : ByteArray} {maxL : Nat} {ret : Option FieldType} {hh : List (Nat × Nat × Nat × Nat)}
    (hown : s.vm.findClass own = some m.cls) (hlink : (Cond.methodLink own index y).before args s = true) (hstat : (Cond.static y).before args s = true) (hinit : (Cond.initialized y.cls).before args s = true)
    (hcode : (Cond.codeWith y bytes maxL ret hh).before args s = true) (hy : y.cls ≠ "java/lang/invoke/MethodHandle" ∧ y.cls ≠ "java/lang/invoke/VarHandle")
    {W9 : Nat} {Pre : Pt → Array Value → Prop} {Post : Pt → Array Value → Option Value → Pt → Prop} {PostX : Pt → Array Value → Addr → Pt → Prop} (hK : vx_Back l R p e below s args y 3 W9 Pre Post PostX)
    {g : JFrame} (hg : g.method = m) (hsize : g.locals.size = c.maxLocals) {argsL rest : List Value} (hlen : ∀ sig, parseMethodDescriptor y.desc = some sig → argsL.length = sig.parameters.length)
    (hstack : g.stack = argsL.reverse ++ rest) (hW : 2 * g.monitorRoom + (rest.map fun v => v.category).sum ≤ W9) (hdg : decode c.code g.pc = .ok (.invokestatic index, 3))
    (hpre : ∀ vm₁, s.WarmedH vm₁ → Pre ⟨T.setVm vm₁, locs, cells, slots⟩ argsL.toArray) :
    (∃ (v : Option Value) (vm₁ : Vm) (B : Pt), s.WarmedH vm₁ ∧ Stand p l e R s m args below meth c B.U B.locs B.cells B.slots ∧ Post ⟨T.setVm vm₁, locs, cells, slots⟩ argsL.toArray v B ∧
      ∀ target, Steps p.tables e below (B.U.setTop { g with pc := g.pc + 3, stack := v.toList ++ rest }) target → Steps p.tables e below (T.setTop g) target) ∨
    (∃ (q : Addr) (vm₁ : Vm) (B : Pt), s.WarmedH vm₁ ∧ Stand p l e R s m args below meth c B.U B.locs B.cells B.slots ∧ PostX ⟨T.setVm vm₁, locs, cells, slots⟩ argsL.toArray q B ∧
      Steps p.tables e below (T.setTop g) ((B.U.setTop { g with stack := rest }).pushFrame (.throwing q))) := by
  obtain ⟨mk, methM, cM, hnamed, hmethM, -, -, -, -, -, -, hsigM⟩ := Cond.codeWith_spec hcode
  have hstatic : methM.isStatic = true := Cond.static_spec hnamed hmethM hstat
  obtain ⟨kP, hkP, -⟩ := className_of_methodNamed hnamed
  have hinitP : kP.init = .initialized := Cond.initialized_spec (findClass_of_methodNamed hnamed) hkP hinit
  obtain ⟨vm₁, X₁, hstep₁⟩ := X.invokestatic hexec hown hlink hnamed hmethM hstatic hkP hinitP hy (g := g) hg (argsL := argsL) (rest := rest) (hlen _ hsigM) hstack hdg
  rcases hK m meth c ⟨T.setVm vm₁, locs, cells, slots⟩ { g with stack := rest } (.invokestatic index) mk argsL.toArray X₁ hg hsize hdg hW (X₁.named hnamed) (hpre vm₁ X₁.warmed) with ⟨v, B, X', hpost, hsteps⟩ | ⟨q, B, X', hpost, hsteps⟩
  · exact Or.inl ⟨v, vm₁, B, X₁.warmed, X', hpost, fun target h => hstep₁ _ fun acts => by rw [doInvoke_state]; exact hsteps.trans h⟩
  · exact Or.inr ⟨q, vm₁, B, X₁.warmed, X', hpost, hstep₁ _ fun acts => by rw [doInvoke_state]; exact hsteps⟩
theorem vx_callVW (X : Stand p l e R s m args below meth c T locs cells slots) (hexec : p.tables.exec = Jvm.exec) {own C : String} {index : Nat} {y : MethodName} {bytes : ByteArray} {maxL : Nat} {ret : Option FieldType} {hh : List (Nat × Nat × Nat × Nat)}
    (hown : s.vm.findClass own = some m.cls) (hlink : (Cond.methodLink own index y).before args s = true) (hinst : (Cond.instanceMethod y).before args s = true) (hsel : (Cond.selects C y y).before args s = true)
    (hcode : (Cond.codeWith y bytes maxL ret hh).before args s = true) (hy : y.cls ≠ "java/lang/invoke/MethodHandle" ∧ y.cls ≠ "java/lang/invoke/VarHandle")
    {W9 : Nat} {Pre : Pt → Array Value → Prop} {Post : Pt → Array Value → Option Value → Pt → Prop} (hK : Back l R p e below s args y 3 W9 Pre Post)
    {b : Addr} {cellB : Cell} (hcell : T.heap[b]? = some cellB) (hobj : cellB.vm.isStatics = false) (hcls : s.vm.findClass C = some cellB.cls)
    {g : JFrame} (hg : g.method = m) (hsize : g.locals.size = c.maxLocals) {argsL rest : List Value} (hlen : ∀ sig, parseMethodDescriptor y.desc = some sig → argsL.length = sig.parameters.length)
    (hstack : g.stack = argsL.reverse ++ .ref b :: rest) (hW : 2 * g.monitorRoom + (rest.map fun v => v.category).sum ≤ W9) (hdg : decode c.code g.pc = .ok (.invokevirtual index, 3))
    (hpre : ∀ vm₁, s.WarmedH vm₁ → Pre ⟨T.setVm vm₁, locs, cells, slots⟩ (Value.ref b :: argsL).toArray) :
    ∃ (v : Option Value) (vm₁ : Vm) (B : Pt), s.WarmedH vm₁ ∧ Stand p l e R s m args below meth c B.U B.locs B.cells B.slots ∧ Post ⟨T.setVm vm₁, locs, cells, slots⟩ (Value.ref b :: argsL).toArray v B ∧
      ∀ target, Steps p.tables e below (B.U.setTop { g with pc := g.pc + 3, stack := v.toList ++ rest }) target → Steps p.tables e below (T.setTop g) target := by
  obtain ⟨mk, methM, hnamed, hmethM, hstM, habM⟩ := Cond.instanceMethod_spec hinst
  obtain ⟨m8, methM', cM, hn8, hmethM', -, -, -, -, -, -, hsigM⟩ := Cond.codeWith_spec hcode
  cases Option.some.inj (hn8.symm.trans hnamed)
  cases hmethM.symm.trans hmethM'
  obtain ⟨c2, r2, m2, q1, q2, q3, q4, kP, hkP, hkPi⟩ := Cond.selects_spec hsel
  cases hcls.symm.trans q1
  cases (State.methodFound?_of_named hnamed hy).symm.trans q2
  cases hnamed.symm.trans q3
  have hselP : selectMethod e.platform s.vm cellB.cls mk = .method mk := by rw [Launch.admits_selectMethod X.admits]; exact q4
  obtain ⟨vm₁, X₁, hstep₁⟩ := X.invokevirtual hexec hown hlink hnamed hmethM hstM hkP hkPi hy (a := b) (cell := cellB) hcell
    (fun z h => by rw [h] at hobj; cases hobj) hselP hmethM habM hkP hkPi (g := g) hg (argsL := argsL) (rest := rest) (hlen _ hsigM) hstack hdg
  obtain ⟨v, B, X', hpost, hsteps⟩ := hK m meth c ⟨T.setVm vm₁, locs, cells, slots⟩ { g with stack := rest } (.invokevirtual index) mk (Value.ref b :: argsL).toArray X₁ hg hsize hdg hW (X₁.named hnamed) (hpre vm₁ X₁.warmed)
  exact ⟨v, vm₁, B, X₁.warmed, X', hpost, fun target h => hstep₁ _ fun acts => by rw [doInvoke_state]; exact hsteps.trans h⟩
abbrev vx_CVW (R : Room) (s : State) (args : Array Value) (own C : String) (index : Nat) (y : MethodName) (bytes : ByteArray) (maxL : Nat) (ret : Option FieldType) (hh : List (Nat × Nat × Nat × Nat)) (ws : List Cond) (rm : Room) (mc ms n : Nat) : Prop :=
  (rm.cells = mc ∧ rm.slots = ms ∧ rm.frames + 1 ≤ R.frames ∧ 8 + (maxL + 11) + rm.locals ≤ R.locals ∧ (∀ w ∈ ws, ∀ (a' : Array Value) (U : State), s.WarmedH U.vm → w.before a' U = true) ∧ Cond.codeWith y bytes maxL ret hh ∈ ws) ∧
  (Cond.codeWith y bytes maxL ret hh).before args s = true ∧ (Cond.initialized y.cls).before args s = true ∧ (y.cls ≠ "java/lang/invoke/MethodHandle" ∧ y.cls ≠ "java/lang/invoke/VarHandle") ∧
  (∀ sig, parseMethodDescriptor y.desc = some sig → n = sig.parameters.length) ∧ (Cond.methodLink own index y).before args s = true ∧ (Cond.instanceMethod y).before args s = true ∧ (Cond.selects C y y).before args s = true
theorem vx_cwVW {own C : String} {index maxL mc ms : Nat} {y : MethodName} {bytes : ByteArray} {ret : Option FieldType} {hh : List (Nat × Nat × Nat × Nat)} {Ts ws ws' : List Cond} {rm : Room} (n : Nat) (ht : ∀ w ∈ Ts, w.before args s = true) (hT : GoodIn Ts (wsV own index C y ws)) (hw : ws = Cond.codeWith y bytes maxL ret hh :: ws') (hrc : rm.cells = mc) (hrs : rm.slots = ms)
    (hd : y.cls = C ∧ y.cls ≠ "java/lang/invoke/MethodHandle" ∧ y.cls ≠ "java/lang/invoke/VarHandle" ∧ (parseMethodDescriptor y.desc).map (fun d => d.parameters.length) = some n) (hR : rm.frames + 1 ≤ R.frames ∧ 8 + (maxL + 11) + rm.locals ≤ R.locals) :
    vx_CVW R s args own C index y bytes maxL ret hh ws rm mc ms n := by
  obtain ⟨hC, hd⟩ := hd
  subst hC
  have ok : ∀ w ∈ wsV own index y.cls y ws, w.before args s = true := fun w h => ht w (hT w h).1
  have hG : GoodIn Ts ws := fun w h => hT w (by unfold wsV; exact List.mem_append_right _ h)
  have hc : Cond.codeWith y bytes maxL ret hh ∈ ws := by rw [hw]; exact List.mem_cons_self
  refine ⟨⟨hrc, hrs, hR.1, hR.2, pay_in ht hG, hc⟩, ht _ (hG _ hc).1, ok _ (by simp [wsV]), ⟨hd.1, hd.2.1⟩, fun sig h => ?_, ok _ (by simp [wsV]), ok _ (by simp [wsV]), ok _ (by simp [wsV])⟩
  have h2 := hd.2.2
  rw [h] at h2
  exact (Option.some.inj h2).symm
theorem vx_runVW {y : MethodName} {bytes cc : ByteArray} {maxL nL mc ms n index : Nat} {ret : Option FieldType} {hh : List (Nat × Nat × Nat × Nat)} {ws : List Cond} {rm : Room} {Pc : Array Value → State → Prop} {Qc : Array Value → State → Outcome → State → Prop} {free : Addr → Prop} {Ts : List Cond} {own C : String} {b : Addr} {As rest : List Value} {g : JFrame}
    (S : CallFix p m c cc nL s args Ts own) (hM : Met l y ws rm Pc Qc mc ms free) (cw : vx_CVW R s args own C index y bytes maxL ret hh ws rm mc ms n) (hp : PreV s H C b Pc As)
    (hg : g.method = m) (hn : As.length = n) (hsize : g.locals.size = nL) (hstack : g.stack = As.reverse ++ .ref b :: rest) (hW : 2 * g.monitorRoom + (rest.map fun v => v.category).sum ≤ 8) (hdg : decode cc g.pc = .ok (.invokevirtual index, 3)) (hf : cells + mc ≤ R.cells ∧ slots + ms ≤ R.slots) :
    va_Run p l e R s m args below meth c H locs cells slots mc ms g rest (Qc (Value.ref b :: As).toArray) free := by
  obtain ⟨⟨hrc, hrs, hfr, hlo, hws, hcw⟩, hcode, hini, hy, hlen, hl, hin, hse⟩ := cw
  have hK : Back l R p e below s args y 3 8 (PreOf R mc ms Pc) (PostOf Qc mc ms free) := va_backW (hh := hh) (bytes := bytes) (maxL := maxL) (ret := ret) hM hp.1 hrc hrs hfr hlo hws hcw (fun a' U hW => word_at hW (Or.inl (by first | rfl | simp [Cond.onTables, Cond.keeps, Cond.steady])) hini)
  obtain ⟨hx, hb, hml, ho, -⟩ := S
  obtain ⟨-, ⟨cellB, hcB, hoB, hclB⟩, hPc⟩ := hp
  intro T hT X
  obtain ⟨v, vm₁, ⟨U', l2, c2, s2⟩, hW₁, X', ⟨g', mk, t, L, e1, e2, hq, h1, hL, h2, h3⟩, st⟩ := vx_callVW X hx (C := C) (hh := hh) (bytes := bytes) (maxL := maxL) (ret := ret) ho hl hin hse hcode hy hK (by rw [hT]; exact hcB) hoB hclB hg (hsize.trans hml.symm) (argsL := As) (rest := rest) (fun sig h => hn.trans (hlen sig h)) hstack hW (by rw [hb]; exact hdg)
    (fun vm₁ hW₁ => ⟨hf.1, hf.2, hPc (T.setVm vm₁) hT hW₁⟩)
  dsimp only [Pt.U, Pt.locs, Pt.cells, Pt.slots] at X' e1 e2 h1 h2 h3 st
  subst h1; subst h2; subst h3
  exact ⟨v, (T.setVm vm₁).calling g' mk (Value.ref b :: As).toArray, t, U', L, hT, X', hL, e1, e2, hq, st⟩
section
variable {y : MethodName} {bytes cc : ByteArray} {maxL nL mc ms n index : Nat} {ret : Option FieldType} {ws : List Cond} {rm : Room} {Pc : Array Value → State → Prop} {Qc : Array Value → State → Outcome → State → Prop} {XC : String → State → State → Prop} {free : Addr → Prop} {Ts : List Cond} {own C : String} {b : Addr} {As rest : List Value} {g : JFrame}
theorem vx_runVX {hh : List (Nat × Nat × Nat × Nat)} (S : CallFix p m c cc nL s args Ts own) (hM : vx_Met l y ws rm Pc Qc XC mc ms free) (cw : vx_CVW R s args own C index y bytes maxL ret hh ws rm mc ms n) (hp : PreV s H C b Pc As)
    (hg : g.method = m) (hn : As.length = n) (hsize : g.locals.size = nL) (hstack : g.stack = As.reverse ++ .ref b :: rest) (hW : 2 * g.monitorRoom + (rest.map fun v => v.category).sum ≤ 8) (hdg : decode cc g.pc = .ok (.invokevirtual index, 3)) (hf : cells + mc ≤ R.cells ∧ slots + ms ≤ R.slots) :
    vx_Run p l e R s m args below meth c H locs cells slots mc ms g rest (Qc (Value.ref b :: As).toArray) XC free := by
  obtain ⟨⟨hrc, hrs, hfr, hlo, hws, hcw⟩, hcode, hini, hy, hlen, hl, hin, hse⟩ := cw
  have hK : vx_Back l R p e below s args y 3 8 (PreOf R mc ms Pc) (PostOf Qc mc ms free) (vx_Post XC mc ms free) := vx_backW (hh := hh) (bytes := bytes) (maxL := maxL) (ret := ret) hM hp.1 hrc hrs hfr hlo hws hcw (fun a' U hW => word_at hW (Or.inl (by first | rfl | simp [Cond.onTables, Cond.keeps, Cond.steady])) hini)
  obtain ⟨hx, hb, hml, ho, -⟩ := S
  obtain ⟨-, ⟨cellB, hcB, hoB, hclB⟩, hPc⟩ := hp
  intro T hT X
  rcases vx_callVX X hx (C := C) (hh := hh) (bytes := bytes) (maxL := maxL) (ret := ret) ho hl hin hse hcode hy hK (by rw [hT]; exact hcB) hoB hclB hg (hsize.trans hml.symm) (argsL := As) (rest := rest) (fun sig h => hn.trans (hlen sig h)) hstack hW (by rw [hb]; exact hdg)
    (fun vm₁ hW₁ => ⟨hf.1, hf.2, hPc (T.setVm vm₁) hT hW₁⟩) with ⟨v, vm₁, ⟨U', l2, c2, s2⟩, hW₁, X', ⟨g', mk, t, L, e1, e2, hq, h1, hL, h2, h3⟩, st⟩ | ⟨q, vm₁, ⟨U', l2, c2, s2⟩, hW₁, X', ⟨g', mk, t, L, E, ce, e1, e2, hq, hce, hcv, hcl, h1, hL, h2, h3⟩, st⟩
  · dsimp only [Pt.U, Pt.locs, Pt.cells, Pt.slots] at X' e1 e2 h1 h2 h3 st
    subst h1; subst h2; subst h3
    exact Or.inl ⟨v, (T.setVm vm₁).calling g' mk (Value.ref b :: As).toArray, t, U', L, hT, X', hL, e1, e2, hq, st⟩
  · dsimp only [Pt.U, Pt.locs, Pt.cells, Pt.slots] at X' e1 e2 h1 h2 h3 st hcl
    subst h1; subst h2; subst h3
    exact Or.inr ⟨q, (T.setVm vm₁).calling g' mk (Value.ref b :: As).toArray, t, U', L, E, ce, hT, X', hL, e1, e2, hq, hce, hcv, vx_cls hW₁ hcl, st⟩
theorem vx_runSX {hh : List (Nat × Nat × Nat × Nat)} (S : CallFix p m c cc nL s args Ts own) (hM : vx_Met l y ws rm Pc Qc XC mc ms free) (cw : vx_CSW R s args own index y bytes maxL ret hh ws rm mc ms n) (hp : PreS s H Pc As)
    (hg : g.method = m) (hn : As.length = n) (hsize : g.locals.size = nL) (hstack : g.stack = As.reverse ++ rest) (hW : 2 * g.monitorRoom + (rest.map fun v => v.category).sum ≤ 8) (hdg : decode cc g.pc = .ok (.invokestatic index, 3)) (hf : cells + mc ≤ R.cells ∧ slots + ms ≤ R.slots) :
    vx_Run p l e R s m args below meth c H locs cells slots mc ms g rest (Qc As.toArray) XC free := by
  obtain ⟨⟨hrc, hrs, hfr, hlo, hws, hcw⟩, hcode, hini, hy, hlen, hl, hstt⟩ := cw
  have hK : vx_Back l R p e below s args y 3 8 (PreOf R mc ms Pc) (PostOf Qc mc ms free) (vx_Post XC mc ms free) := vx_backW (hh := hh) (bytes := bytes) (maxL := maxL) (ret := ret) hM hp.1 hrc hrs hfr hlo hws hcw (fun a' U hW => word_at hW (Or.inl (by first | rfl | simp [Cond.onTables, Cond.keeps, Cond.steady])) hini)
  obtain ⟨hx, hb, hml, ho, -⟩ := S
  intro T hT X
  rcases vx_callSX X hx (hh := hh) (bytes := bytes) (maxL := maxL) (ret := ret) ho hl hstt hini hcode hy hK hg (hsize.trans hml.symm) (argsL := As) (rest := rest) (fun sig h => hn.trans (hlen sig h)) hstack hW (by rw [hb]; exact hdg)
    (fun vm₁ hW₁ => ⟨hf.1, hf.2, hp.2 (T.setVm vm₁) hT hW₁⟩) with ⟨v, vm₁, ⟨U', l2, c2, s2⟩, hW₁, X', ⟨g', mk, t, L, e1, e2, hq, h1, hL, h2, h3⟩, st⟩ | ⟨q, vm₁, ⟨U', l2, c2, s2⟩, hW₁, X', ⟨g', mk, t, L, E, ce, e1, e2, hq, hce, hcv, hcl, h1, hL, h2, h3⟩, st⟩
  · dsimp only [Pt.U, Pt.locs, Pt.cells, Pt.slots] at X' e1 e2 h1 h2 h3 st
    subst h1; subst h2; subst h3
    exact Or.inl ⟨v, (T.setVm vm₁).calling g' mk As.toArray, t, U', L, hT, X', hL, e1, e2, hq, st⟩
  · dsimp only [Pt.U, Pt.locs, Pt.cells, Pt.slots] at X' e1 e2 h1 h2 h3 st hcl
    subst h1; subst h2; subst h3
    exact Or.inr ⟨q, (T.setVm vm₁).calling g' mk As.toArray, t, U', L, E, ce, hT, X', hL, e1, e2, hq, hce, hcv, vx_cls hW₁ hcl, st⟩
end
end VXH
theorem vx_ofWH {l : Launch} {y : MethodName} {ws ws' : List Cond} {rm : Room} {Pc : Array Value → State → Prop} {Qc : Array Value → State → Outcome → State → Prop} {XC : String → State → State → Prop} {mc ms : Nat} {free : Addr → Prop} {cc : ByteArray} {maxL : Nat} {ret : Option FieldType} {hh : List (Nat × Nat × Nat × Nat)}
    (hy : plainName y.cls = true) (hw : ws = Cond.codeWith y cc maxL ret hh :: ws')
    (body : ∀ p e s m args below meth c s₁, BodyLoose p l y (headSpec ws rm) cc maxL ret e s m args below meth c s₁ → c.maxLocals = maxL → Pc args s →
      W p l e (headSpec ws rm).room s m args below meth c s.heap [] 0 0 (vx_MQ below Qc XC args s mc ms free) (entryFrame m args maxL)) : vx_Met l y ws rm Pc Qc XC mc ms free := by
  refine MetFree.of_bodyS (code := cc) (maxLocals := maxL) (ret := ret) hy ?_ ?_
  · intro args s m h hn
    obtain ⟨m9, meth, c, hn9, h1, h2, h3, h4, -, h5, h6, -⟩ := Cond.codeWith_spec (atoms_spec (ws := ws) h _ (by rw [hw]; exact List.mem_cons_self))
    cases hn.symm.trans hn9
    exact ⟨meth, c, h1, h2, h3, h4, h5, h6⟩
  · intro p e s m args below meth c s₁ B hml hP _
    have hh0 : s₁.heap = s.heap := by rw [B.state]; rfl
    obtain ⟨t, a1, o, b1, b2, b3⟩ := body p e s m args below meth c s₁ B hml hP s₁ hh0 (Stand.of_body B)
    exact ⟨t, o, a1, b1, b2, b3⟩
/-! ===== END ===== -/
end
section
/-! ===== BEGIN printed: names, fields, word lists, decode rows ===== -/
def RX0 : String := "BellStreet$Bell"
def TX0 : u_T := fun k => match k with
  | 0 => ("BellStreet$Bell", "melody", "LBellStreet$Melody;", false)
  | 1 => ("BellStreet$Bell", "load", "I", false)
  | 2 => ("BellStreet$Bell", "isRinging", "Z", false)
  | _ => ("BellStreet$Bell", "stopsAt", "I", false)
def tyX0 : Nat → FieldType := fun k => match k with
  | 0 => .object "BellStreet$Melody"
  | 1 => .int
  | 2 => .boolean
  | _ => .int
abbrev wsX00 : List Cond := u_ws RX0 TX0 4
theorem nmX0 : ∀ a, a < 4 → ∀ b, b < 4 → a ≠ b → (TX0 a).2.1 ≠ (TX0 b).2.1 := by decide +kernel
theorem tyX0_ok : ∀ k, k < 4 → parseFieldDescriptor (TX0 k).2.2.1 = some (tyX0 k) := by decide +kernel
abbrev cX0_init : ByteArray := prog_2_method_1_code
def yX0_init : MethodName := ⟨RX0, "<init>", "()V"⟩
abbrev cX0_ringUntil : ByteArray := prog_2_method_2_code
def yX0_ringUntil : MethodName := ⟨RX0, "ringUntil", "(I)V"⟩
def RX1 : String := "BellStreet$Crew"
def TX1 : u_T := fun k => match k with
  | 0 => ("BellStreet$Crew", "goal", "LBellStreet$House;", false)
  | _ => ("BellStreet$Crew", "doneAt", "I", false)
def tyX1 : Nat → FieldType := fun k => match k with
  | 0 => .object "BellStreet$House"
  | _ => .int
abbrev wsX10 : List Cond := u_ws RX1 TX1 2
theorem nmX1 : ∀ a, a < 2 → ∀ b, b < 2 → a ≠ b → (TX1 a).2.1 ≠ (TX1 b).2.1 := by decide +kernel
theorem tyX1_ok : ∀ k, k < 2 → parseFieldDescriptor (TX1 k).2.2.1 = some (tyX1 k) := by decide +kernel
abbrev cX1_init : ByteArray := prog_3_method_1_code
def yX1_init : MethodName := ⟨RX1, "<init>", "()V"⟩
abbrev cX1_finish : ByteArray := prog_3_method_2_code
def yX1_finish : MethodName := ⟨RX1, "finish", "(I)V"⟩
def RX2 : String := "BellStreet$House"
def TX2 : u_T := fun k => match k with
  | 0 => ("BellStreet$House", "number", "I", true)
  | 1 => ("BellStreet$House", "street", "I", true)
  | 2 => ("BellStreet$House", "bells", "[LBellStreet$Bell;", true)
  | 3 => ("BellStreet$House", "rights", "[I", true)
  | 4 => ("BellStreet$House", "sound", "Z", false)
  | 5 => ("BellStreet$House", "quietFrom", "I", false)
  | 6 => ("BellStreet$House", "quietTo", "I", false)
  | 7 => ("BellStreet$House", "score", "I", false)
  | 8 => ("BellStreet$House", "rungSeconds", "I", false)
  | 9 => ("BellStreet$House", "rungQuietSeconds", "I", false)
  | 10 => ("BellStreet$House", "hushedPresses", "I", false)
  | 11 => ("BellStreet$House", "faultsOfTheDay", "I", false)
  | _ => ("BellStreet$House", "keptQuietToday", "Z", false)
def tyX2 : Nat → FieldType := fun k => match k with
  | 0 => .int
  | 1 => .int
  | 2 => .array (.object "BellStreet$Bell")
  | 3 => .array .int
  | 4 => .boolean
  | 5 => .int
  | 6 => .int
  | 7 => .int
  | 8 => .int
  | 9 => .int
  | 10 => .int
  | 11 => .int
  | _ => .boolean
abbrev wsX20 : List Cond := u_ws RX2 TX2 13
theorem nmX2 : ∀ a, a < 13 → ∀ b, b < 13 → a ≠ b → (TX2 a).2.1 ≠ (TX2 b).2.1 := by decide +kernel
theorem tyX2_ok : ∀ k, k < 13 → parseFieldDescriptor (TX2 k).2.2.1 = some (tyX2 k) := by decide +kernel
abbrev cX2_init : ByteArray := prog_4_method_1_code
def yX2_init : MethodName := ⟨RX2, "<init>", "(I)V"⟩
abbrev cX2_isQuietAt : ByteArray := prog_4_method_2_code
def yX2_isQuietAt : MethodName := ⟨RX2, "isQuietAt", "(I)Z"⟩
abbrev cX2_quietSeconds : ByteArray := prog_4_method_3_code
def yX2_quietSeconds : MethodName := ⟨RX2, "quietSeconds", "(II)I"⟩
abbrev cX2_shared : ByteArray := prog_4_method_4_code
def yX2_shared : MethodName := ⟨RX2, "shared", "(IIII)I"⟩
abbrev cX2_mayRing : ByteArray := prog_4_method_5_code
def yX2_mayRing : MethodName := ⟨RX2, "mayRing", "(LBellStreet$Melody;)Z"⟩
abbrev cX2_useRight : ByteArray := prog_4_method_6_code
def yX2_useRight : MethodName := ⟨RX2, "useRight", "(LBellStreet$Melody;)V"⟩
abbrev cX2_ringingSet : ByteArray := prog_4_method_7_code
def yX2_ringingSet : MethodName := ⟨RX2, "ringingSet", "()I"⟩
abbrev cX2_ringingLoad : ByteArray := prog_4_method_8_code
def yX2_ringingLoad : MethodName := ⟨RX2, "ringingLoad", "()I"⟩
abbrev cX2_startBells : ByteArray := prog_4_method_9_code
def yX2_startBells : MethodName := ⟨RX2, "startBells", "(I)I"⟩
abbrev cX2_breakDown : ByteArray := prog_4_method_10_code
def yX2_breakDown : MethodName := ⟨RX2, "breakDown", "()V"⟩
abbrev cX2_firstStop : ByteArray := prog_4_method_11_code
def yX2_firstStop : MethodName := ⟨RX2, "firstStop", "(I)I"⟩
abbrev cX2_stopEndedBells : ByteArray := prog_4_method_12_code
def yX2_stopEndedBells : MethodName := ⟨RX2, "stopEndedBells", "(I)V"⟩
abbrev cX2_spend : ByteArray := prog_4_method_13_code
def yX2_spend : MethodName := ⟨RX2, "spend", "(II)V"⟩
abbrev cX2_closeDay : ByteArray := prog_4_method_14_code
def yX2_closeDay : MethodName := ⟨RX2, "closeDay", "()V"⟩
def RX3 : String := "BellStreet$Melody"
def TX3 : u_T := fun k => match k with
  | 0 => ("BellStreet$Melody", "number", "I", true)
  | 1 => ("BellStreet$Melody", "owner", "I", true)
  | 2 => ("BellStreet$Melody", "count", "I", true)
  | _ => ("BellStreet$Melody", "tones", "J", true)
def tyX3 : Nat → FieldType := fun k => match k with
  | 0 => .int
  | 1 => .int
  | 2 => .int
  | _ => .long
abbrev wsX30 : List Cond := u_ws RX3 TX3 4
theorem nmX3 : ∀ a, a < 4 → ∀ b, b < 4 → a ≠ b → (TX3 a).2.1 ≠ (TX3 b).2.1 := by decide +kernel
theorem tyX3_ok : ∀ k, k < 4 → parseFieldDescriptor (TX3 k).2.2.1 = some (tyX3 k) := by decide +kernel
abbrev cX3_init : ByteArray := prog_5_method_1_code
def yX3_init : MethodName := ⟨RX3, "<init>", "(IIIJ)V"⟩
abbrev cX3_lasts : ByteArray := prog_5_method_2_code
def yX3_lasts : MethodName := ⟨RX3, "lasts", "()I"⟩
abbrev cX3_tone : ByteArray := prog_5_method_3_code
def yX3_tone : MethodName := ⟨RX3, "tone", "(I)I"⟩
abbrev cX3_tonesShifted : ByteArray := prog_5_method_4_code
def yX3_tonesShifted : MethodName := ⟨RX3, "tonesShifted", "(I)J"⟩
abbrev cX3_tonesTurned : ByteArray := prog_5_method_5_code
def yX3_tonesTurned : MethodName := ⟨RX3, "tonesTurned", "()J"⟩
abbrev cX3_isShiftOf : ByteArray := prog_5_method_6_code
def yX3_isShiftOf : MethodName := ⟨RX3, "isShiftOf", "(LBellStreet$Melody;)Z"⟩
def RX4 : String := "BellStreet"
def TX4 : u_T := fun k => match k with
  | 0 => ("BellStreet", "houses", "[LBellStreet$House;", true)
  | 1 => ("BellStreet", "crews", "[LBellStreet$Crew;", true)
  | 2 => ("BellStreet", "melodies", "[LBellStreet$Melody;", true)
  | 3 => ("BellStreet", "toldFaults", "[I", true)
  | 4 => ("BellStreet", "melodyCount", "I", false)
  | 5 => ("BellStreet", "faultCount", "I", false)
  | _ => ("BellStreet", "now", "I", false)
def tyX4 : Nat → FieldType := fun k => match k with
  | 0 => .array (.object "BellStreet$House")
  | 1 => .array (.object "BellStreet$Crew")
  | 2 => .array (.object "BellStreet$Melody")
  | 3 => .array .int
  | 4 => .int
  | 5 => .int
  | _ => .int
abbrev wsX40 : List Cond := u_ws RX4 TX4 7
theorem nmX4 : ∀ a, a < 7 → ∀ b, b < 7 → a ≠ b → (TX4 a).2.1 ≠ (TX4 b).2.1 := by decide +kernel
theorem tyX4_ok : ∀ k, k < 7 → parseFieldDescriptor (TX4 k).2.2.1 = some (tyX4 k) := by decide +kernel
abbrev cX4_init : ByteArray := prog_1_method_1_code
def yX4_init : MethodName := ⟨RX4, "<init>", "()V"⟩
abbrev cX4_addMelody : ByteArray := prog_1_method_2_code
def yX4_addMelody : MethodName := ⟨RX4, "addMelody", "(IIJ)I"⟩
abbrev cX4_toneAt : ByteArray := prog_1_method_3_code
def yX4_toneAt : MethodName := ⟨RX4, "toneAt", "(II)I"⟩
abbrev cX4_shifted : ByteArray := prog_1_method_4_code
def yX4_shifted : MethodName := ⟨RX4, "shifted", "(II)J"⟩
abbrev cX4_turned : ByteArray := prog_1_method_5_code
def yX4_turned : MethodName := ⟨RX4, "turned", "(I)J"⟩
abbrev cX4_areAlike : ByteArray := prog_1_method_6_code
def yX4_areAlike : MethodName := ⟨RX4, "areAlike", "(II)Z"⟩
abbrev cX4_license : ByteArray := prog_1_method_7_code
def yX4_license : MethodName := ⟨RX4, "license", "(III)I"⟩
abbrev cX4_setQuiet : ByteArray := prog_1_method_8_code
def yX4_setQuiet : MethodName := ⟨RX4, "setQuiet", "(III)Z"⟩
abbrev cX4_lay : ByteArray := prog_1_method_9_code
def yX4_lay : MethodName := ⟨RX4, "lay", "(IIII)I"⟩
abbrev cX4_press : ByteArray := prog_1_method_10_code
def yX4_press : MethodName := ⟨RX4, "press", "(II)I"⟩
abbrev cX4_fault : ByteArray := prog_1_method_11_code
def yX4_fault : MethodName := ⟨RX4, "fault", "(I)I"⟩
abbrev cX4_repair : ByteArray := prog_1_method_12_code
def yX4_repair : MethodName := ⟨RX4, "repair", "(I)I"⟩
abbrev cX4_pass : ByteArray := prog_1_method_13_code
def yX4_pass : MethodName := ⟨RX4, "pass", "(I)I"⟩
abbrev cX4_time : ByteArray := prog_1_method_14_code
def yX4_time : MethodName := ⟨RX4, "time", "()I"⟩
abbrev cX4_ringing : ByteArray := prog_1_method_15_code
def yX4_ringing : MethodName := ⟨RX4, "ringing", "(I)I"⟩
abbrev cX4_isSound : ByteArray := prog_1_method_16_code
def yX4_isSound : MethodName := ⟨RX4, "isSound", "(I)Z"⟩
abbrev cX4_ringsLeft : ByteArray := prog_1_method_17_code
def yX4_ringsLeft : MethodName := ⟨RX4, "ringsLeft", "(II)I"⟩
abbrev cX4_points : ByteArray := prog_1_method_18_code
def yX4_points : MethodName := ⟨RX4, "points", "(I)I"⟩
abbrev cX4_secondsRung : ByteArray := prog_1_method_19_code
def yX4_secondsRung : MethodName := ⟨RX4, "secondsRung", "(I)I"⟩
abbrev cX4_quietBroken : ByteArray := prog_1_method_20_code
def yX4_quietBroken : MethodName := ⟨RX4, "quietBroken", "(I)I"⟩
abbrev cX4_hushed : ByteArray := prog_1_method_21_code
def yX4_hushed : MethodName := ⟨RX4, "hushed", "(I)I"⟩
abbrev cX4_faults : ByteArray := prog_1_method_22_code
def yX4_faults : MethodName := ⟨RX4, "faults", "()I"⟩
abbrev cX4_faultAt : ByteArray := prog_1_method_23_code
def yX4_faultAt : MethodName := ⟨RX4, "faultAt", "(I)I"⟩
abbrev cX4_checkHouse : ByteArray := prog_1_method_24_code
def yX4_checkHouse : MethodName := ⟨RX4, "checkHouse", "(I)V"⟩
abbrev cX4_houseAt : ByteArray := prog_1_method_25_code
def yX4_houseAt : MethodName := ⟨RX4, "houseAt", "(I)LBellStreet$House;"⟩
abbrev cX4_bellAt : ByteArray := prog_1_method_26_code
def yX4_bellAt : MethodName := ⟨RX4, "bellAt", "(II)LBellStreet$Bell;"⟩
abbrev cX4_melodyAt : ByteArray := prog_1_method_27_code
def yX4_melodyAt : MethodName := ⟨RX4, "melodyAt", "(I)LBellStreet$Melody;"⟩
abbrev cX4_nextChange : ByteArray := prog_1_method_28_code
def yX4_nextChange : MethodName := ⟨RX4, "nextChange", "(I)I"⟩
abbrev cX4_passStretch : ByteArray := prog_1_method_29_code
def yX4_passStretch : MethodName := ⟨RX4, "passStretch", "(I)V"⟩
def RX5 : String := "BellStreetModel"
def TX5 : u_T := fun k => match k with
  | 0 => ("BellStreetModel", "time", "I", false)
  | 1 => ("BellStreetModel", "melodies", "I", false)
  | 2 => ("BellStreetModel", "owners", "[I", true)
  | 3 => ("BellStreetModel", "counts", "[I", true)
  | 4 => ("BellStreetModel", "tones", "[J", true)
  | 5 => ("BellStreetModel", "laid", "[I", true)
  | 6 => ("BellStreetModel", "loads", "[I", true)
  | 7 => ("BellStreetModel", "ends", "[I", true)
  | 8 => ("BellStreetModel", "left", "[I", true)
  | 9 => ("BellStreetModel", "froms", "[I", true)
  | 10 => ("BellStreetModel", "tos", "[I", true)
  | 11 => ("BellStreetModel", "broken", "[I", true)
  | 12 => ("BellStreetModel", "points", "[I", true)
  | 13 => ("BellStreetModel", "rung", "[I", true)
  | 14 => ("BellStreetModel", "noisy", "[I", true)
  | 15 => ("BellStreetModel", "hushes", "[I", true)
  | 16 => ("BellStreetModel", "loud", "[I", true)
  | 17 => ("BellStreetModel", "faultsOfDay", "[I", true)
  | 18 => ("BellStreetModel", "done", "[I", true)
  | 19 => ("BellStreetModel", "goal", "[I", true)
  | 20 => ("BellStreetModel", "faults", "I", false)
  | 21 => ("BellStreetModel", "told", "[I", true)
  | _ => ("BellStreetModel", "thrown", "I", false)
def tyX5 : Nat → FieldType := fun k => match k with
  | 0 => .int
  | 1 => .int
  | 2 => .array .int
  | 3 => .array .int
  | 4 => .array .long
  | 5 => .array .int
  | 6 => .array .int
  | 7 => .array .int
  | 8 => .array .int
  | 9 => .array .int
  | 10 => .array .int
  | 11 => .array .int
  | 12 => .array .int
  | 13 => .array .int
  | 14 => .array .int
  | 15 => .array .int
  | 16 => .array .int
  | 17 => .array .int
  | 18 => .array .int
  | 19 => .array .int
  | 20 => .int
  | 21 => .array .int
  | _ => .int
abbrev wsX50 : List Cond := u_ws RX5 TX5 23
theorem nmX5 : ∀ a, a < 23 → ∀ b, b < 23 → a ≠ b → (TX5 a).2.1 ≠ (TX5 b).2.1 := by decide +kernel
theorem tyX5_ok : ∀ k, k < 23 → parseFieldDescriptor (TX5 k).2.2.1 = some (tyX5 k) := by decide +kernel
abbrev cX5_init : ByteArray := prog_7_method_1_code
def yX5_init : MethodName := ⟨RX5, "<init>", "()V"⟩
abbrev cX5_thrown : ByteArray := prog_7_method_2_code
def yX5_thrown : MethodName := ⟨RX5, "thrown", "()I"⟩
abbrev cX5_fails : ByteArray := prog_7_method_3_code
def yX5_fails : MethodName := ⟨RX5, "fails", "(I)I"⟩
abbrev cX5_in : ByteArray := prog_7_method_4_code
def yX5_in : MethodName := ⟨RX5, "in", "(III)Z"⟩
abbrev cX5_isHouse : ByteArray := prog_7_method_5_code
def yX5_isHouse : MethodName := ⟨RX5, "isHouse", "(I)Z"⟩
abbrev cX5_isMelody : ByteArray := prog_7_method_6_code
def yX5_isMelody : MethodName := ⟨RX5, "isMelody", "(I)Z"⟩
abbrev cX5_addMelody : ByteArray := prog_7_method_7_code
def yX5_addMelody : MethodName := ⟨RX5, "addMelody", "(IIJ)I"⟩
abbrev cX5_tone : ByteArray := prog_7_method_8_code
def yX5_tone : MethodName := ⟨RX5, "tone", "(II)I"⟩
abbrev cX5_toneAt : ByteArray := prog_7_method_9_code
def yX5_toneAt : MethodName := ⟨RX5, "toneAt", "(II)I"⟩
abbrev cX5_shifted : ByteArray := prog_7_method_10_code
def yX5_shifted : MethodName := ⟨RX5, "shifted", "(II)J"⟩
abbrev cX5_turned : ByteArray := prog_7_method_11_code
def yX5_turned : MethodName := ⟨RX5, "turned", "(I)J"⟩
abbrev cX5_areAlike : ByteArray := prog_7_method_12_code
def yX5_areAlike : MethodName := ⟨RX5, "areAlike", "(II)Z"⟩
abbrev cX5_license : ByteArray := prog_7_method_13_code
def yX5_license : MethodName := ⟨RX5, "license", "(III)I"⟩
abbrev cX5_isQuiet : ByteArray := prog_7_method_14_code
def yX5_isQuiet : MethodName := ⟨RX5, "isQuiet", "(I)Z"⟩
abbrev cX5_setQuiet : ByteArray := prog_7_method_15_code
def yX5_setQuiet : MethodName := ⟨RX5, "setQuiet", "(III)Z"⟩
abbrev cX5_lay : ByteArray := prog_7_method_16_code
def yX5_lay : MethodName := ⟨RX5, "lay", "(IIII)I"⟩
abbrev cX5_breaks : ByteArray := prog_7_method_17_code
def yX5_breaks : MethodName := ⟨RX5, "breaks", "(I)V"⟩
abbrev cX5_begins : ByteArray := prog_7_method_18_code
def yX5_begins : MethodName := ⟨RX5, "begins", "(I)V"⟩
abbrev cX5_press : ByteArray := prog_7_method_19_code
def yX5_press : MethodName := ⟨RX5, "press", "(II)I"⟩
abbrev cX5_fault : ByteArray := prog_7_method_20_code
def yX5_fault : MethodName := ⟨RX5, "fault", "(I)I"⟩
abbrev cX5_repair : ByteArray := prog_7_method_21_code
def yX5_repair : MethodName := ⟨RX5, "repair", "(I)I"⟩
abbrev cX5_rings : ByteArray := prog_7_method_22_code
def yX5_rings : MethodName := ⟨RX5, "rings", "(I)V"⟩
abbrev cX5_second : ByteArray := prog_7_method_23_code
def yX5_second : MethodName := ⟨RX5, "second", "()V"⟩
abbrev cX5_pass : ByteArray := prog_7_method_24_code
def yX5_pass : MethodName := ⟨RX5, "pass", "(I)I"⟩
abbrev cX5_time : ByteArray := prog_7_method_25_code
def yX5_time : MethodName := ⟨RX5, "time", "()I"⟩
abbrev cX5_isSeen : ByteArray := prog_7_method_26_code
def yX5_isSeen : MethodName := ⟨RX5, "isSeen", "(I)Z"⟩
abbrev cX5_ringing : ByteArray := prog_7_method_27_code
def yX5_ringing : MethodName := ⟨RX5, "ringing", "(I)I"⟩
abbrev cX5_isSound : ByteArray := prog_7_method_28_code
def yX5_isSound : MethodName := ⟨RX5, "isSound", "(I)Z"⟩
abbrev cX5_ringsLeft : ByteArray := prog_7_method_29_code
def yX5_ringsLeft : MethodName := ⟨RX5, "ringsLeft", "(II)I"⟩
abbrev cX5_points : ByteArray := prog_7_method_30_code
def yX5_points : MethodName := ⟨RX5, "points", "(I)I"⟩
abbrev cX5_secondsRung : ByteArray := prog_7_method_31_code
def yX5_secondsRung : MethodName := ⟨RX5, "secondsRung", "(I)I"⟩
abbrev cX5_quietBroken : ByteArray := prog_7_method_32_code
def yX5_quietBroken : MethodName := ⟨RX5, "quietBroken", "(I)I"⟩
abbrev cX5_hushed : ByteArray := prog_7_method_33_code
def yX5_hushed : MethodName := ⟨RX5, "hushed", "(I)I"⟩
abbrev cX5_faults : ByteArray := prog_7_method_34_code
def yX5_faults : MethodName := ⟨RX5, "faults", "()I"⟩
abbrev cX5_faultAt : ByteArray := prog_7_method_35_code
def yX5_faultAt : MethodName := ⟨RX5, "faultAt", "(I)I"⟩
def RJ9 : String := "java/lang/Math"
def TJ9 : u_T := fun k => match k with
  | _ => ("", "", "", false)
def tyJ9 : Nat → FieldType := fun k => match k with
  | _ => .int
abbrev wsJ90 : List Cond := u_ws RJ9 TJ9 0
theorem nmJ9 : ∀ a, a < 0 → ∀ b, b < 0 → a ≠ b → (TJ9 a).2.1 ≠ (TJ9 b).2.1 := by decide +kernel
theorem tyJ9_ok : ∀ k, k < 0 → parseFieldDescriptor (TJ9 k).2.2.1 = some (tyJ9 k) := by decide +kernel
abbrev cJ9_max_7cf53 : ByteArray := prog_12_method_65_code
def yJ9_max_7cf53 : MethodName := ⟨RJ9, "max", "(II)I"⟩
abbrev cJ9_min_7cf53 : ByteArray := prog_12_method_69_code
def yJ9_min_7cf53 : MethodName := ⟨RJ9, "min", "(II)I"⟩
def RJ0 : String := "java/lang/String"
def TJ0 : u_T := fun k => match k with
  | _ => ("", "", "", false)
def tyJ0 : Nat → FieldType := fun k => match k with
  | _ => .int
abbrev wsJ00 : List Cond := u_ws RJ0 TJ0 0
theorem nmJ0 : ∀ a, a < 0 → ∀ b, b < 0 → a ≠ b → (TJ0 a).2.1 ≠ (TJ0 b).2.1 := by decide +kernel
theorem tyJ0_ok : ∀ k, k < 0 → parseFieldDescriptor (TJ0 k).2.2.1 = some (tyJ0 k) := by decide +kernel
def RL : String := "BellStreetLaw"
abbrev cL_addMelody : ByteArray := method_3_code
def yL_addMelody : MethodName := ⟨RL, "addMelody", "(LBellStreet;IIJ[J)I"⟩
abbrev cL_toneAt : ByteArray := method_4_code
def yL_toneAt : MethodName := ⟨RL, "toneAt", "(LBellStreet;II[J)I"⟩
abbrev cL_shifted : ByteArray := method_5_code
def yL_shifted : MethodName := ⟨RL, "shifted", "(LBellStreet;II[J)I"⟩
abbrev cL_turned : ByteArray := method_6_code
def yL_turned : MethodName := ⟨RL, "turned", "(LBellStreet;I[J)I"⟩
abbrev cL_areAlike : ByteArray := method_7_code
def yL_areAlike : MethodName := ⟨RL, "areAlike", "(LBellStreet;II[J)I"⟩
abbrev cL_license : ByteArray := method_8_code
def yL_license : MethodName := ⟨RL, "license", "(LBellStreet;III[J)I"⟩
abbrev cL_setQuiet : ByteArray := method_9_code
def yL_setQuiet : MethodName := ⟨RL, "setQuiet", "(LBellStreet;III[J)I"⟩
abbrev cL_lay : ByteArray := method_10_code
def yL_lay : MethodName := ⟨RL, "lay", "(LBellStreet;IIII[J)I"⟩
abbrev cL_press : ByteArray := method_11_code
def yL_press : MethodName := ⟨RL, "press", "(LBellStreet;II[J)I"⟩
abbrev cL_fault : ByteArray := method_12_code
def yL_fault : MethodName := ⟨RL, "fault", "(LBellStreet;I[J)I"⟩
abbrev cL_repair : ByteArray := method_13_code
def yL_repair : MethodName := ⟨RL, "repair", "(LBellStreet;I[J)I"⟩
abbrev cL_pass : ByteArray := method_14_code
def yL_pass : MethodName := ⟨RL, "pass", "(LBellStreet;I[J)I"⟩
abbrev cL_ringing : ByteArray := method_15_code
def yL_ringing : MethodName := ⟨RL, "ringing", "(LBellStreet;I[J)I"⟩
abbrev cL_isSound : ByteArray := method_16_code
def yL_isSound : MethodName := ⟨RL, "isSound", "(LBellStreet;I[J)I"⟩
abbrev cL_ringsLeft : ByteArray := method_17_code
def yL_ringsLeft : MethodName := ⟨RL, "ringsLeft", "(LBellStreet;II[J)I"⟩
abbrev cL_points : ByteArray := method_18_code
def yL_points : MethodName := ⟨RL, "points", "(LBellStreet;I[J)I"⟩
abbrev cL_secondsRung : ByteArray := method_19_code
def yL_secondsRung : MethodName := ⟨RL, "secondsRung", "(LBellStreet;I[J)I"⟩
abbrev cL_quietBroken : ByteArray := method_20_code
def yL_quietBroken : MethodName := ⟨RL, "quietBroken", "(LBellStreet;I[J)I"⟩
abbrev cL_hushed : ByteArray := method_21_code
def yL_hushed : MethodName := ⟨RL, "hushed", "(LBellStreet;I[J)I"⟩
abbrev cL_faultAt : ByteArray := method_22_code
def yL_faultAt : MethodName := ⟨RL, "faultAt", "(LBellStreet;I[J)I"⟩
abbrev cL_law : ByteArray := code
def yL_law : MethodName := ⟨RL, "law", "([I)Z"⟩
def wsX0_init : List Cond := .code yX0_init cX0_init 1 none :: ([.methodLink RX0 1 objectInit, .instanceMethod objectInit, .code objectInit ⟨#[0xb1]⟩ 1 none, .fieldLink RX0 7 "BellStreet$Bell" "melody" "LBellStreet$Melody;", .fieldLink RX0 13 "BellStreet$Bell" "load" "I", .fieldLink RX0 17 "BellStreet$Bell" "isRinging" "Z", .fieldLink RX0 21 "BellStreet$Bell" "stopsAt" "I"] ++ wsX00)
def wsX0_ringUntil : List Cond := .code yX0_ringUntil cX0_ringUntil 2 none :: ([.fieldLink RX0 17 "BellStreet$Bell" "isRinging" "Z", .fieldLink RX0 21 "BellStreet$Bell" "stopsAt" "I"] ++ wsX00)
def wsX1_init : List Cond := .code yX1_init cX1_init 1 none :: ([.methodLink RX1 1 objectInit, .instanceMethod objectInit, .code objectInit ⟨#[0xb1]⟩ 1 none, .fieldLink RX1 7 "BellStreet$Crew" "goal" "LBellStreet$House;", .fieldLink RX1 13 "BellStreet$Crew" "doneAt" "I"] ++ wsX10)
def wsX1_finish : List Cond := .code yX1_finish cX1_finish 2 none :: ([.fieldLink RX1 7 "BellStreet$Crew" "goal" "LBellStreet$House;", .fieldLink RX1 13 "BellStreet$Crew" "doneAt" "I"] ++ wsX10 ++ wsX20)
def wsX2_init_r1 : List Cond := [Cond.methodLink RX2 3 objectInit, Cond.instanceMethod objectInit, Cond.code objectInit ⟨#[0xb1]⟩ 1 none, Cond.classLink RX2 9 RX0, Cond.fieldLink RX2 11 "BellStreet$House" "bells" "[LBellStreet$Bell;", Cond.arrayClass .int, Cond.fieldLink RX2 17 "BellStreet$House" "rights" "[I", Cond.fieldLink RX2 21 "BellStreet$House" "sound" "Z", Cond.fieldLink RX2 25 "BellStreet$House" "quietFrom" "I", Cond.fieldLink RX2 29 "BellStreet$House" "quietTo" "I", Cond.fieldLink RX2 32 "BellStreet$House" "score" "I", Cond.fieldLink RX2 35 "BellStreet$House" "rungSeconds" "I", Cond.fieldLink RX2 38 "BellStreet$House" "rungQuietSeconds" "I", Cond.fieldLink RX2 41 "BellStreet$House" "hushedPresses" "I", Cond.fieldLink RX2 44 "BellStreet$House" "faultsOfTheDay" "I", Cond.fieldLink RX2 47 "BellStreet$House" "keptQuietToday" "Z", Cond.fieldLink RX2 50 "BellStreet$House" "number" "I", Cond.fieldLink RX2 53 "BellStreet$House" "street" "I", Cond.instantiable RX0 4, Cond.initialized RX0, Cond.instanceMethod yX0_init, Cond.code yX0_init cX0_init 1 none, Cond.methodLink RX0 1 objectInit, Cond.fieldLink RX0 7 "BellStreet$Bell" "melody" "LBellStreet$Melody;"]
def wsX2_init_r2 : List Cond := [Cond.fieldLink RX0 13 "BellStreet$Bell" "load" "I", Cond.fieldLink RX0 17 "BellStreet$Bell" "isRinging" "Z", Cond.fieldLink RX0 21 "BellStreet$Bell" "stopsAt" "I"]
def wsX2_init : List Cond := .code yX2_init cX2_init 3 none :: ((wsX2_init_r1 ++ wsX2_init_r2) ++ wsX20 ++ wsX00)
def wsX2_shared : List Cond := .code yX2_shared cX2_shared 4 (some .int) :: ([.methodLink RX2 65 Lib.Math.min.name, .static Lib.Math.min.name, .initialized "java/lang/Math", .code Lib.Math.min.name Lib.Math.min.code 2 (some .int), .methodLink RX2 70 Lib.Math.max.name, .static Lib.Math.max.name, .code Lib.Math.max.name Lib.Math.max.code 2 (some .int)])
def wsX2_quietSeconds : List Cond := .code yX2_quietSeconds cX2_quietSeconds 5 (some .int) :: ([.fieldLink RX2 25 "BellStreet$House" "quietFrom" "I", .fieldLink RX2 29 "BellStreet$House" "quietTo" "I", .methodLink RX2 61 yX2_shared, .static yX2_shared, .initialized RX2, .code yX2_shared cX2_shared 4 (some .int), .methodLink RX2 65 Lib.Math.min.name, .static Lib.Math.min.name, .initialized "java/lang/Math", .code Lib.Math.min.name Lib.Math.min.code 2 (some .int), .methodLink RX2 70 Lib.Math.max.name, .static Lib.Math.max.name, .code Lib.Math.max.name Lib.Math.max.code 2 (some .int)] ++ wsX20)
def wsX2_isQuietAt : List Cond := .code yX2_isQuietAt cX2_isQuietAt 2 (some .boolean) :: ([.methodLink RX2 57 yX2_quietSeconds, .instanceMethod yX2_quietSeconds, .selects RX2 yX2_quietSeconds yX2_quietSeconds, .initialized RX2, .code yX2_quietSeconds cX2_quietSeconds 5 (some .int), .fieldLink RX2 25 "BellStreet$House" "quietFrom" "I", .fieldLink RX2 29 "BellStreet$House" "quietTo" "I", .methodLink RX2 61 yX2_shared, .static yX2_shared, .code yX2_shared cX2_shared 4 (some .int), .methodLink RX2 65 Lib.Math.min.name, .static Lib.Math.min.name, .initialized "java/lang/Math", .code Lib.Math.min.name Lib.Math.min.code 2 (some .int), .methodLink RX2 70 Lib.Math.max.name, .static Lib.Math.max.name, .code Lib.Math.max.name Lib.Math.max.code 2 (some .int)] ++ wsX20)
def wsX2_mayRing : List Cond := .code yX2_mayRing cX2_mayRing 2 (some .boolean) :: ([.fieldLink RX2 50 "BellStreet$House" "number" "I", .fieldLink RX2 17 "BellStreet$House" "rights" "[I"] ++ wsX30 ++ wsX20)
def wsX2_useRight : List Cond := .code yX2_useRight cX2_useRight 2 none :: ([.fieldLink RX2 50 "BellStreet$House" "number" "I", .fieldLink RX2 17 "BellStreet$House" "rights" "[I"] ++ wsX30 ++ wsX20)
def wsX2_ringingSet : List Cond := .code yX2_ringingSet cX2_ringingSet 3 (some .int) :: ([.fieldLink RX2 11 "BellStreet$House" "bells" "[LBellStreet$Bell;"] ++ wsX20 ++ wsX00)
def wsX2_ringingLoad : List Cond := .code yX2_ringingLoad cX2_ringingLoad 6 (some .int) :: ([.fieldLink RX2 11 "BellStreet$House" "bells" "[LBellStreet$Bell;"] ++ wsX20 ++ wsX00)
def wsX3_lasts : List Cond := .code yX3_lasts cX3_lasts 1 (some .int) :: ([.fieldLink RX3 18 "BellStreet$Melody" "count" "I"] ++ wsX30)
def wsX2_startBells : List Cond := .code yX2_startBells cX2_startBells 7 (some .int) :: ([.fieldLink RX2 11 "BellStreet$House" "bells" "[LBellStreet$Bell;", .methodLink RX2 89 yX3_lasts, .instanceMethod yX3_lasts, .selects RX3 yX3_lasts yX3_lasts, .initialized RX3, .code yX3_lasts cX3_lasts 1 (some .int), .fieldLink RX3 18 "BellStreet$Melody" "count" "I", .methodLink RX2 93 yX0_ringUntil, .instanceMethod yX0_ringUntil, .selects RX0 yX0_ringUntil yX0_ringUntil, .initialized RX0, .code yX0_ringUntil cX0_ringUntil 2 none, .fieldLink RX0 17 "BellStreet$Bell" "isRinging" "Z", .fieldLink RX0 21 "BellStreet$Bell" "stopsAt" "I"] ++ wsX20 ++ wsX00 ++ wsX30)
def wsX2_breakDown : List Cond := .code yX2_breakDown cX2_breakDown 5 none :: ([.fieldLink RX2 21 "BellStreet$House" "sound" "Z", .fieldLink RX2 11 "BellStreet$House" "bells" "[LBellStreet$Bell;"] ++ wsX20 ++ wsX00)
def wsX2_firstStop : List Cond := .code yX2_firstStop cX2_firstStop 7 (some .int) :: ([.fieldLink RX2 11 "BellStreet$House" "bells" "[LBellStreet$Bell;"] ++ wsX20 ++ wsX00)
def wsX2_stopEndedBells : List Cond := .code yX2_stopEndedBells cX2_stopEndedBells 6 none :: ([.fieldLink RX2 11 "BellStreet$House" "bells" "[LBellStreet$Bell;"] ++ wsX20 ++ wsX00)
def wsX2_spend_r1 : List Cond := [Cond.fieldLink RX2 35 "BellStreet$House" "rungSeconds" "I", Cond.fieldLink RX2 38 "BellStreet$House" "rungQuietSeconds" "I", Cond.fieldLink RX2 47 "BellStreet$House" "keptQuietToday" "Z", Cond.methodLink RX2 100 yX2_ringingSet, Cond.instanceMethod yX2_ringingSet, Cond.selects RX2 yX2_ringingSet yX2_ringingSet, Cond.initialized RX2, Cond.code yX2_ringingSet cX2_ringingSet 3 (some .int), Cond.fieldLink RX2 11 "BellStreet$House" "bells" "[LBellStreet$Bell;", Cond.methodLink RX2 57 yX2_quietSeconds, Cond.instanceMethod yX2_quietSeconds, Cond.selects RX2 yX2_quietSeconds yX2_quietSeconds, Cond.code yX2_quietSeconds cX2_quietSeconds 5 (some .int), Cond.fieldLink RX2 25 "BellStreet$House" "quietFrom" "I", Cond.fieldLink RX2 29 "BellStreet$House" "quietTo" "I", Cond.methodLink RX2 61 yX2_shared, Cond.static yX2_shared, Cond.code yX2_shared cX2_shared 4 (some .int), Cond.methodLink RX2 65 Lib.Math.min.name, Cond.static Lib.Math.min.name, Cond.initialized "java/lang/Math", Cond.code Lib.Math.min.name Lib.Math.min.code 2 (some .int), Cond.methodLink RX2 70 Lib.Math.max.name, Cond.static Lib.Math.max.name]
def wsX2_spend_r2 : List Cond := [Cond.code Lib.Math.max.name Lib.Math.max.code 2 (some .int)]
def wsX2_spend : List Cond := .code yX2_spend cX2_spend 4 none :: ((wsX2_spend_r1 ++ wsX2_spend_r2) ++ wsX20 ++ wsX00)
def wsX2_closeDay : List Cond := .code yX2_closeDay cX2_closeDay 1 none :: ([.fieldLink RX2 47 "BellStreet$House" "keptQuietToday" "Z", .fieldLink RX2 32 "BellStreet$House" "score" "I", .fieldLink RX2 44 "BellStreet$House" "faultsOfTheDay" "I"] ++ wsX20)
def wsX3_init : List Cond := .code yX3_init cX3_init 6 none :: ([.methodLink RX3 3 objectInit, .instanceMethod objectInit, .code objectInit ⟨#[0xb1]⟩ 1 none, .fieldLink RX3 9 "BellStreet$Melody" "number" "I", .fieldLink RX3 15 "BellStreet$Melody" "owner" "I", .fieldLink RX3 18 "BellStreet$Melody" "count" "I", .fieldLink RX3 21 "BellStreet$Melody" "tones" "J"] ++ wsX30)
def wsX3_tone : List Cond := .code yX3_tone cX3_tone 2 (some .int) :: ([.fieldLink RX3 21 "BellStreet$Melody" "tones" "J"] ++ wsX30)
def wsX3_tonesShifted : List Cond := .code yX3_tonesShifted cX3_tonesShifted 5 (some .long) :: ([.fieldLink RX3 18 "BellStreet$Melody" "count" "I", .methodLink RX3 25 yX3_tone, .instanceMethod yX3_tone, .selects RX3 yX3_tone yX3_tone, .initialized RX3, .code yX3_tone cX3_tone 2 (some .int), .fieldLink RX3 21 "BellStreet$Melody" "tones" "J"] ++ wsX30)
def wsX3_tonesTurned : List Cond := .code yX3_tonesTurned cX3_tonesTurned 4 (some .long) :: ([.fieldLink RX3 18 "BellStreet$Melody" "count" "I", .methodLink RX3 25 yX3_tone, .instanceMethod yX3_tone, .selects RX3 yX3_tone yX3_tone, .initialized RX3, .code yX3_tone cX3_tone 2 (some .int), .fieldLink RX3 21 "BellStreet$Melody" "tones" "J"] ++ wsX30)
def wsX3_isShiftOf : List Cond := .code yX3_isShiftOf cX3_isShiftOf 3 (some .boolean) :: ([.fieldLink RX3 18 "BellStreet$Melody" "count" "I", .fieldLink RX3 21 "BellStreet$Melody" "tones" "J", .methodLink RX3 25 yX3_tone, .instanceMethod yX3_tone, .selects RX3 yX3_tone yX3_tone, .initialized RX3, .code yX3_tone cX3_tone 2 (some .int), .methodLink RX3 29 yX3_tonesShifted, .instanceMethod yX3_tonesShifted, .selects RX3 yX3_tonesShifted yX3_tonesShifted, .code yX3_tonesShifted cX3_tonesShifted 5 (some .long)] ++ wsX30)
def wsX4_init_r1 : List Cond := [Cond.methodLink RX4 1 objectInit, Cond.instanceMethod objectInit, Cond.code objectInit ⟨#[0xb1]⟩ 1 none, Cond.classLink RX4 9 RX2, Cond.fieldLink RX4 11 "BellStreet" "houses" "[LBellStreet$House;", Cond.classLink RX4 15 RX1, Cond.fieldLink RX4 17 "BellStreet" "crews" "[LBellStreet$Crew;", Cond.classLink RX4 21 RX3, Cond.fieldLink RX4 23 "BellStreet" "melodies" "[LBellStreet$Melody;", Cond.arrayClass .int, Cond.fieldLink RX4 27 "BellStreet" "toldFaults" "[I", Cond.fieldLink RX4 31 "BellStreet" "melodyCount" "I", Cond.fieldLink RX4 35 "BellStreet" "faultCount" "I", Cond.fieldLink RX4 38 "BellStreet" "now" "I", Cond.instantiable RX2 13, Cond.initialized RX2, Cond.instantiable RX1 2, Cond.initialized RX1, Cond.methodLink RX4 41 yX2_init, Cond.instanceMethod yX2_init, Cond.code yX2_init cX2_init 3 none, Cond.methodLink RX2 3 objectInit, Cond.classLink RX2 9 RX0, Cond.fieldLink RX2 11 "BellStreet$House" "bells" "[LBellStreet$Bell;"]
def wsX4_init_r2 : List Cond := [Cond.fieldLink RX2 17 "BellStreet$House" "rights" "[I", Cond.fieldLink RX2 21 "BellStreet$House" "sound" "Z", Cond.fieldLink RX2 25 "BellStreet$House" "quietFrom" "I", Cond.fieldLink RX2 29 "BellStreet$House" "quietTo" "I", Cond.fieldLink RX2 32 "BellStreet$House" "score" "I", Cond.fieldLink RX2 35 "BellStreet$House" "rungSeconds" "I", Cond.fieldLink RX2 38 "BellStreet$House" "rungQuietSeconds" "I", Cond.fieldLink RX2 41 "BellStreet$House" "hushedPresses" "I", Cond.fieldLink RX2 44 "BellStreet$House" "faultsOfTheDay" "I", Cond.fieldLink RX2 47 "BellStreet$House" "keptQuietToday" "Z", Cond.fieldLink RX2 50 "BellStreet$House" "number" "I", Cond.fieldLink RX2 53 "BellStreet$House" "street" "I", Cond.instantiable RX0 4, Cond.initialized RX0, Cond.instanceMethod yX0_init, Cond.code yX0_init cX0_init 1 none, Cond.methodLink RX0 1 objectInit, Cond.fieldLink RX0 7 "BellStreet$Bell" "melody" "LBellStreet$Melody;", Cond.fieldLink RX0 13 "BellStreet$Bell" "load" "I", Cond.fieldLink RX0 17 "BellStreet$Bell" "isRinging" "Z", Cond.fieldLink RX0 21 "BellStreet$Bell" "stopsAt" "I", Cond.instanceMethod yX1_init, Cond.code yX1_init cX1_init 1 none, Cond.methodLink RX1 1 objectInit]
def wsX4_init_r3 : List Cond := [Cond.fieldLink RX1 7 "BellStreet$Crew" "goal" "LBellStreet$House;", Cond.fieldLink RX1 13 "BellStreet$Crew" "doneAt" "I"]
def wsX4_init : List Cond := .code yX4_init cX4_init 2 none :: ((wsX4_init_r1 ++ (wsX4_init_r2 ++ wsX4_init_r3)) ++ wsX40 ++ wsX20 ++ wsX10 ++ wsX00)
def wsX4_checkHouse : List Cond := .code yX4_checkHouse cX4_checkHouse 2 none :: ([.classLink RX4 72 "java/lang/IndexOutOfBoundsException", .initialized "java/lang/IndexOutOfBoundsException"] ++ (vx_atS RX4 76 "java/lang/IndexOutOfBoundsException" ["java/lang/RuntimeException", "java/lang/Exception"]).filter goodWord)
def wsX4_addMelody_r1 : List Cond := [Cond.classLink RX4 48 "java/lang/IllegalArgumentException", Cond.initialized "java/lang/IllegalArgumentException", Cond.classLink RX4 57 "java/lang/IllegalStateException", Cond.initialized "java/lang/IllegalStateException", Cond.fieldLink RX4 31 "BellStreet" "melodyCount" "I", Cond.fieldLink RX4 23 "BellStreet" "melodies" "[LBellStreet$Melody;", Cond.classLink RX4 21 RX3, Cond.instantiable RX3 4, Cond.initialized RX3, Cond.methodLink RX4 45 yX4_checkHouse, Cond.instanceMethod yX4_checkHouse, Cond.selects RX4 yX4_checkHouse yX4_checkHouse, Cond.initialized RX4, Cond.code yX4_checkHouse cX4_checkHouse 2 none, Cond.classLink RX4 72 "java/lang/IndexOutOfBoundsException", Cond.initialized "java/lang/IndexOutOfBoundsException", Cond.methodLink RX4 62 yX3_init, Cond.instanceMethod yX3_init, Cond.code yX3_init cX3_init 6 none, Cond.methodLink RX3 3 objectInit, Cond.instanceMethod objectInit, Cond.code objectInit ⟨#[0xb1]⟩ 1 none, Cond.fieldLink RX3 9 "BellStreet$Melody" "number" "I", Cond.fieldLink RX3 15 "BellStreet$Melody" "owner" "I"]
def wsX4_addMelody_r2 : List Cond := [Cond.fieldLink RX3 18 "BellStreet$Melody" "count" "I", Cond.fieldLink RX3 21 "BellStreet$Melody" "tones" "J"]
def wsX4_addMelody : List Cond := .code yX4_addMelody cX4_addMelody 6 (some .int) :: ((wsX4_addMelody_r1 ++ wsX4_addMelody_r2) ++ wsX40 ++ wsX30 ++ (vx_atS RX4 52 "java/lang/IllegalArgumentException" ["java/lang/RuntimeException", "java/lang/Exception"]).filter goodWord ++ (vx_atS RX4 61 "java/lang/IllegalStateException" ["java/lang/RuntimeException", "java/lang/Exception"]).filter goodWord ++ (vx_atS RX4 76 "java/lang/IndexOutOfBoundsException" ["java/lang/RuntimeException", "java/lang/Exception"]).filter goodWord)
def wsX4_melodyAt : List Cond := .code yX4_melodyAt cX4_melodyAt 3 (some (.object "BellStreet$Melody")) :: ([.classLink RX4 72 "java/lang/IndexOutOfBoundsException", .initialized "java/lang/IndexOutOfBoundsException", .fieldLink RX4 23 "BellStreet" "melodies" "[LBellStreet$Melody;"] ++ wsX40 ++ (vx_atS RX4 76 "java/lang/IndexOutOfBoundsException" ["java/lang/RuntimeException", "java/lang/Exception"]).filter goodWord)
def wsX4_toneAt : List Cond := .code yX4_toneAt cX4_toneAt 4 (some .int) :: ([.classLink RX4 72 "java/lang/IndexOutOfBoundsException", .initialized "java/lang/IndexOutOfBoundsException", .methodLink RX4 65 yX4_melodyAt, .instanceMethod yX4_melodyAt, .selects RX4 yX4_melodyAt yX4_melodyAt, .initialized RX4, .code yX4_melodyAt cX4_melodyAt 3 (some (.object "BellStreet$Melody")), .fieldLink RX4 23 "BellStreet" "melodies" "[LBellStreet$Melody;", .methodLink RX4 77 yX3_tone, .instanceMethod yX3_tone, .selects RX3 yX3_tone yX3_tone, .initialized RX3, .code yX3_tone cX3_tone 2 (some .int), .fieldLink RX3 21 "BellStreet$Melody" "tones" "J"] ++ wsX30 ++ wsX40 ++ (vx_atS RX4 76 "java/lang/IndexOutOfBoundsException" ["java/lang/RuntimeException", "java/lang/Exception"]).filter goodWord)
def wsX4_shifted : List Cond := .code yX4_shifted cX4_shifted 4 (some .long) :: ([.classLink RX4 48 "java/lang/IllegalArgumentException", .initialized "java/lang/IllegalArgumentException", .methodLink RX4 65 yX4_melodyAt, .instanceMethod yX4_melodyAt, .selects RX4 yX4_melodyAt yX4_melodyAt, .initialized RX4, .code yX4_melodyAt cX4_melodyAt 3 (some (.object "BellStreet$Melody")), .classLink RX4 72 "java/lang/IndexOutOfBoundsException", .initialized "java/lang/IndexOutOfBoundsException", .fieldLink RX4 23 "BellStreet" "melodies" "[LBellStreet$Melody;", .methodLink RX4 83 yX3_tonesShifted, .instanceMethod yX3_tonesShifted, .selects RX3 yX3_tonesShifted yX3_tonesShifted, .initialized RX3, .code yX3_tonesShifted cX3_tonesShifted 5 (some .long), .fieldLink RX3 18 "BellStreet$Melody" "count" "I", .methodLink RX3 25 yX3_tone, .instanceMethod yX3_tone, .selects RX3 yX3_tone yX3_tone, .code yX3_tone cX3_tone 2 (some .int), .fieldLink RX3 21 "BellStreet$Melody" "tones" "J"] ++ wsX40 ++ wsX30 ++ (vx_atS RX4 52 "java/lang/IllegalArgumentException" ["java/lang/RuntimeException", "java/lang/Exception"]).filter goodWord ++ (vx_atS RX4 76 "java/lang/IndexOutOfBoundsException" ["java/lang/RuntimeException", "java/lang/Exception"]).filter goodWord)
def wsX4_turned : List Cond := .code yX4_turned cX4_turned 2 (some .long) :: ([.methodLink RX4 65 yX4_melodyAt, .instanceMethod yX4_melodyAt, .selects RX4 yX4_melodyAt yX4_melodyAt, .initialized RX4, .code yX4_melodyAt cX4_melodyAt 3 (some (.object "BellStreet$Melody")), .classLink RX4 72 "java/lang/IndexOutOfBoundsException", .initialized "java/lang/IndexOutOfBoundsException", .fieldLink RX4 23 "BellStreet" "melodies" "[LBellStreet$Melody;", .methodLink RX4 87 yX3_tonesTurned, .instanceMethod yX3_tonesTurned, .selects RX3 yX3_tonesTurned yX3_tonesTurned, .initialized RX3, .code yX3_tonesTurned cX3_tonesTurned 4 (some .long), .fieldLink RX3 18 "BellStreet$Melody" "count" "I", .methodLink RX3 25 yX3_tone, .instanceMethod yX3_tone, .selects RX3 yX3_tone yX3_tone, .code yX3_tone cX3_tone 2 (some .int), .fieldLink RX3 21 "BellStreet$Melody" "tones" "J"] ++ wsX40 ++ wsX30 ++ (vx_atS RX4 76 "java/lang/IndexOutOfBoundsException" ["java/lang/RuntimeException", "java/lang/Exception"]).filter goodWord)
def wsX4_areAlike : List Cond := .code yX4_areAlike cX4_areAlike 3 (some .boolean) :: ([.methodLink RX4 65 yX4_melodyAt, .instanceMethod yX4_melodyAt, .selects RX4 yX4_melodyAt yX4_melodyAt, .initialized RX4, .code yX4_melodyAt cX4_melodyAt 3 (some (.object "BellStreet$Melody")), .classLink RX4 72 "java/lang/IndexOutOfBoundsException", .initialized "java/lang/IndexOutOfBoundsException", .fieldLink RX4 23 "BellStreet" "melodies" "[LBellStreet$Melody;", .methodLink RX4 91 yX3_isShiftOf, .instanceMethod yX3_isShiftOf, .selects RX3 yX3_isShiftOf yX3_isShiftOf, .initialized RX3, .code yX3_isShiftOf cX3_isShiftOf 3 (some .boolean), .fieldLink RX3 18 "BellStreet$Melody" "count" "I", .fieldLink RX3 21 "BellStreet$Melody" "tones" "J", .methodLink RX3 25 yX3_tone, .instanceMethod yX3_tone, .selects RX3 yX3_tone yX3_tone, .code yX3_tone cX3_tone 2 (some .int), .methodLink RX3 29 yX3_tonesShifted, .instanceMethod yX3_tonesShifted, .selects RX3 yX3_tonesShifted yX3_tonesShifted, .code yX3_tonesShifted cX3_tonesShifted 5 (some .long)] ++ wsX40 ++ wsX30 ++ (vx_atS RX4 76 "java/lang/IndexOutOfBoundsException" ["java/lang/RuntimeException", "java/lang/Exception"]).filter goodWord)
def wsX4_houseAt : List Cond := .code yX4_houseAt cX4_houseAt 2 (some (.object "BellStreet$House")) :: ([.fieldLink RX4 11 "BellStreet" "houses" "[LBellStreet$House;", .methodLink RX4 45 yX4_checkHouse, .instanceMethod yX4_checkHouse, .selects RX4 yX4_checkHouse yX4_checkHouse, .initialized RX4, .code yX4_checkHouse cX4_checkHouse 2 none, .classLink RX4 72 "java/lang/IndexOutOfBoundsException", .initialized "java/lang/IndexOutOfBoundsException"] ++ wsX40 ++ (vx_atS RX4 76 "java/lang/IndexOutOfBoundsException" ["java/lang/RuntimeException", "java/lang/Exception"]).filter goodWord)
def wsX4_license : List Cond := .code yX4_license cX4_license 6 (some .int) :: ([.classLink RX4 48 "java/lang/IllegalArgumentException", .initialized "java/lang/IllegalArgumentException", .classLink RX4 57 "java/lang/IllegalStateException", .initialized "java/lang/IllegalStateException", .methodLink RX4 95 yX4_houseAt, .instanceMethod yX4_houseAt, .selects RX4 yX4_houseAt yX4_houseAt, .initialized RX4, .code yX4_houseAt cX4_houseAt 2 (some (.object "BellStreet$House")), .fieldLink RX4 11 "BellStreet" "houses" "[LBellStreet$House;", .methodLink RX4 45 yX4_checkHouse, .instanceMethod yX4_checkHouse, .selects RX4 yX4_checkHouse yX4_checkHouse, .code yX4_checkHouse cX4_checkHouse 2 none, .classLink RX4 72 "java/lang/IndexOutOfBoundsException", .initialized "java/lang/IndexOutOfBoundsException", .methodLink RX4 65 yX4_melodyAt, .instanceMethod yX4_melodyAt, .selects RX4 yX4_melodyAt yX4_melodyAt, .code yX4_melodyAt cX4_melodyAt 3 (some (.object "BellStreet$Melody")), .fieldLink RX4 23 "BellStreet" "melodies" "[LBellStreet$Melody;"] ++ wsX30 ++ wsX20 ++ wsX40 ++ (vx_atS RX4 52 "java/lang/IllegalArgumentException" ["java/lang/RuntimeException", "java/lang/Exception"]).filter goodWord ++ (vx_atS RX4 61 "java/lang/IllegalStateException" ["java/lang/RuntimeException", "java/lang/Exception"]).filter goodWord ++ (vx_atS RX4 76 "java/lang/IndexOutOfBoundsException" ["java/lang/RuntimeException", "java/lang/Exception"]).filter goodWord)
def wsX4_setQuiet_r1 : List Cond := [Cond.classLink RX4 48 "java/lang/IllegalArgumentException", Cond.initialized "java/lang/IllegalArgumentException", Cond.fieldLink RX4 38 "BellStreet" "now" "I", Cond.methodLink RX4 95 yX4_houseAt, Cond.instanceMethod yX4_houseAt, Cond.selects RX4 yX4_houseAt yX4_houseAt, Cond.initialized RX4, Cond.code yX4_houseAt cX4_houseAt 2 (some (.object "BellStreet$House")), Cond.fieldLink RX4 11 "BellStreet" "houses" "[LBellStreet$House;", Cond.methodLink RX4 45 yX4_checkHouse, Cond.instanceMethod yX4_checkHouse, Cond.selects RX4 yX4_checkHouse yX4_checkHouse, Cond.code yX4_checkHouse cX4_checkHouse 2 none, Cond.classLink RX4 72 "java/lang/IndexOutOfBoundsException", Cond.initialized "java/lang/IndexOutOfBoundsException", Cond.methodLink RX4 119 yX2_isQuietAt, Cond.instanceMethod yX2_isQuietAt, Cond.selects RX2 yX2_isQuietAt yX2_isQuietAt, Cond.initialized RX2, Cond.code yX2_isQuietAt cX2_isQuietAt 2 (some .boolean), Cond.methodLink RX2 57 yX2_quietSeconds, Cond.instanceMethod yX2_quietSeconds, Cond.selects RX2 yX2_quietSeconds yX2_quietSeconds, Cond.code yX2_quietSeconds cX2_quietSeconds 5 (some .int)]
def wsX4_setQuiet_r2 : List Cond := [Cond.fieldLink RX2 25 "BellStreet$House" "quietFrom" "I", Cond.fieldLink RX2 29 "BellStreet$House" "quietTo" "I", Cond.methodLink RX2 61 yX2_shared, Cond.static yX2_shared, Cond.code yX2_shared cX2_shared 4 (some .int), Cond.methodLink RX2 65 Lib.Math.min.name, Cond.static Lib.Math.min.name, Cond.initialized "java/lang/Math", Cond.code Lib.Math.min.name Lib.Math.min.code 2 (some .int), Cond.methodLink RX2 70 Lib.Math.max.name, Cond.static Lib.Math.max.name, Cond.code Lib.Math.max.name Lib.Math.max.code 2 (some .int)]
def wsX4_setQuiet : List Cond := .code yX4_setQuiet cX4_setQuiet 5 (some .boolean) :: ((wsX4_setQuiet_r1 ++ wsX4_setQuiet_r2) ++ wsX20 ++ wsX40 ++ (vx_atS RX4 52 "java/lang/IllegalArgumentException" ["java/lang/RuntimeException", "java/lang/Exception"]).filter goodWord ++ (vx_atS RX4 76 "java/lang/IndexOutOfBoundsException" ["java/lang/RuntimeException", "java/lang/Exception"]).filter goodWord)
def wsX4_bellAt : List Cond := .code yX4_bellAt cX4_bellAt 4 (some (.object "BellStreet$Bell")) :: ([.classLink RX4 72 "java/lang/IndexOutOfBoundsException", .initialized "java/lang/IndexOutOfBoundsException", .methodLink RX4 95 yX4_houseAt, .instanceMethod yX4_houseAt, .selects RX4 yX4_houseAt yX4_houseAt, .initialized RX4, .code yX4_houseAt cX4_houseAt 2 (some (.object "BellStreet$House")), .fieldLink RX4 11 "BellStreet" "houses" "[LBellStreet$House;", .methodLink RX4 45 yX4_checkHouse, .instanceMethod yX4_checkHouse, .selects RX4 yX4_checkHouse yX4_checkHouse, .code yX4_checkHouse cX4_checkHouse 2 none] ++ wsX20 ++ wsX40 ++ (vx_atS RX4 76 "java/lang/IndexOutOfBoundsException" ["java/lang/RuntimeException", "java/lang/Exception"]).filter goodWord)
def wsX4_lay : List Cond := .code yX4_lay cX4_lay 8 (some .int) :: ([.classLink RX4 48 "java/lang/IllegalArgumentException", .initialized "java/lang/IllegalArgumentException", .methodLink RX4 123 yX4_bellAt, .instanceMethod yX4_bellAt, .selects RX4 yX4_bellAt yX4_bellAt, .initialized RX4, .code yX4_bellAt cX4_bellAt 4 (some (.object "BellStreet$Bell")), .classLink RX4 72 "java/lang/IndexOutOfBoundsException", .initialized "java/lang/IndexOutOfBoundsException", .methodLink RX4 95 yX4_houseAt, .instanceMethod yX4_houseAt, .selects RX4 yX4_houseAt yX4_houseAt, .code yX4_houseAt cX4_houseAt 2 (some (.object "BellStreet$House")), .fieldLink RX4 11 "BellStreet" "houses" "[LBellStreet$House;", .methodLink RX4 45 yX4_checkHouse, .instanceMethod yX4_checkHouse, .selects RX4 yX4_checkHouse yX4_checkHouse, .code yX4_checkHouse cX4_checkHouse 2 none, .methodLink RX4 65 yX4_melodyAt, .instanceMethod yX4_melodyAt, .selects RX4 yX4_melodyAt yX4_melodyAt, .code yX4_melodyAt cX4_melodyAt 3 (some (.object "BellStreet$Melody")), .fieldLink RX4 23 "BellStreet" "melodies" "[LBellStreet$Melody;"] ++ wsX00 ++ wsX30 ++ wsX20 ++ wsX40 ++ (vx_atS RX4 52 "java/lang/IllegalArgumentException" ["java/lang/RuntimeException", "java/lang/Exception"]).filter goodWord ++ (vx_atS RX4 76 "java/lang/IndexOutOfBoundsException" ["java/lang/RuntimeException", "java/lang/Exception"]).filter goodWord)
def wsX4_press_r1 : List Cond := [Cond.classLink RX4 57 "java/lang/IllegalStateException", Cond.initialized "java/lang/IllegalStateException", Cond.fieldLink RX4 38 "BellStreet" "now" "I", Cond.methodLink RX4 95 yX4_houseAt, Cond.instanceMethod yX4_houseAt, Cond.selects RX4 yX4_houseAt yX4_houseAt, Cond.initialized RX4, Cond.code yX4_houseAt cX4_houseAt 2 (some (.object "BellStreet$House")), Cond.fieldLink RX4 11 "BellStreet" "houses" "[LBellStreet$House;", Cond.methodLink RX4 45 yX4_checkHouse, Cond.instanceMethod yX4_checkHouse, Cond.selects RX4 yX4_checkHouse yX4_checkHouse, Cond.code yX4_checkHouse cX4_checkHouse 2 none, Cond.classLink RX4 72 "java/lang/IndexOutOfBoundsException", Cond.initialized "java/lang/IndexOutOfBoundsException", Cond.methodLink RX4 123 yX4_bellAt, Cond.instanceMethod yX4_bellAt, Cond.selects RX4 yX4_bellAt yX4_bellAt, Cond.code yX4_bellAt cX4_bellAt 4 (some (.object "BellStreet$Bell")), Cond.methodLink RX4 119 yX2_isQuietAt, Cond.instanceMethod yX2_isQuietAt, Cond.selects RX2 yX2_isQuietAt yX2_isQuietAt, Cond.initialized RX2, Cond.code yX2_isQuietAt cX2_isQuietAt 2 (some .boolean)]
def wsX4_press_r2 : List Cond := [Cond.methodLink RX2 57 yX2_quietSeconds, Cond.instanceMethod yX2_quietSeconds, Cond.selects RX2 yX2_quietSeconds yX2_quietSeconds, Cond.code yX2_quietSeconds cX2_quietSeconds 5 (some .int), Cond.fieldLink RX2 25 "BellStreet$House" "quietFrom" "I", Cond.fieldLink RX2 29 "BellStreet$House" "quietTo" "I", Cond.methodLink RX2 61 yX2_shared, Cond.static yX2_shared, Cond.code yX2_shared cX2_shared 4 (some .int), Cond.methodLink RX2 65 Lib.Math.min.name, Cond.static Lib.Math.min.name, Cond.initialized "java/lang/Math", Cond.code Lib.Math.min.name Lib.Math.min.code 2 (some .int), Cond.methodLink RX2 70 Lib.Math.max.name, Cond.static Lib.Math.max.name, Cond.code Lib.Math.max.name Lib.Math.max.code 2 (some .int), Cond.methodLink RX4 153 yX2_mayRing, Cond.instanceMethod yX2_mayRing, Cond.selects RX2 yX2_mayRing yX2_mayRing, Cond.code yX2_mayRing cX2_mayRing 2 (some .boolean), Cond.fieldLink RX2 50 "BellStreet$House" "number" "I", Cond.fieldLink RX2 17 "BellStreet$House" "rights" "[I", Cond.methodLink RX4 156 yX2_ringingLoad, Cond.instanceMethod yX2_ringingLoad]
def wsX4_press_r3 : List Cond := [Cond.selects RX2 yX2_ringingLoad yX2_ringingLoad, Cond.code yX2_ringingLoad cX2_ringingLoad 6 (some .int), Cond.fieldLink RX2 11 "BellStreet$House" "bells" "[LBellStreet$Bell;", Cond.methodLink RX4 160 yX2_breakDown, Cond.instanceMethod yX2_breakDown, Cond.selects RX2 yX2_breakDown yX2_breakDown, Cond.code yX2_breakDown cX2_breakDown 5 none, Cond.fieldLink RX2 21 "BellStreet$House" "sound" "Z", Cond.methodLink RX4 163 yX2_useRight, Cond.instanceMethod yX2_useRight, Cond.selects RX2 yX2_useRight yX2_useRight, Cond.code yX2_useRight cX2_useRight 2 none, Cond.methodLink RX4 167 yX3_lasts, Cond.instanceMethod yX3_lasts, Cond.selects RX3 yX3_lasts yX3_lasts, Cond.initialized RX3, Cond.code yX3_lasts cX3_lasts 1 (some .int), Cond.fieldLink RX3 18 "BellStreet$Melody" "count" "I", Cond.methodLink RX4 170 yX0_ringUntil, Cond.instanceMethod yX0_ringUntil, Cond.selects RX0 yX0_ringUntil yX0_ringUntil, Cond.initialized RX0, Cond.code yX0_ringUntil cX0_ringUntil 2 none, Cond.fieldLink RX0 17 "BellStreet$Bell" "isRinging" "Z"]
def wsX4_press_r4 : List Cond := [Cond.fieldLink RX0 21 "BellStreet$Bell" "stopsAt" "I"]
def wsX4_press : List Cond := .code yX4_press cX4_press 6 (some .int) :: ((wsX4_press_r1 ++ (wsX4_press_r2 ++ (wsX4_press_r3 ++ wsX4_press_r4))) ++ wsX00 ++ wsX20 ++ wsX40 ++ wsX30 ++ (vx_atS RX4 61 "java/lang/IllegalStateException" ["java/lang/RuntimeException", "java/lang/Exception"]).filter goodWord ++ (vx_atS RX4 76 "java/lang/IndexOutOfBoundsException" ["java/lang/RuntimeException", "java/lang/Exception"]).filter goodWord)
def wsX4_fault_r1 : List Cond := [Cond.classLink RX4 57 "java/lang/IllegalStateException", Cond.initialized "java/lang/IllegalStateException", Cond.fieldLink RX4 35 "BellStreet" "faultCount" "I", Cond.fieldLink RX4 11 "BellStreet" "houses" "[LBellStreet$House;", Cond.fieldLink RX4 38 "BellStreet" "now" "I", Cond.fieldLink RX4 27 "BellStreet" "toldFaults" "[I", Cond.methodLink RX4 95 yX4_houseAt, Cond.instanceMethod yX4_houseAt, Cond.selects RX4 yX4_houseAt yX4_houseAt, Cond.initialized RX4, Cond.code yX4_houseAt cX4_houseAt 2 (some (.object "BellStreet$House")), Cond.methodLink RX4 45 yX4_checkHouse, Cond.instanceMethod yX4_checkHouse, Cond.selects RX4 yX4_checkHouse yX4_checkHouse, Cond.code yX4_checkHouse cX4_checkHouse 2 none, Cond.classLink RX4 72 "java/lang/IndexOutOfBoundsException", Cond.initialized "java/lang/IndexOutOfBoundsException", Cond.methodLink RX4 180 yX2_startBells, Cond.instanceMethod yX2_startBells, Cond.selects RX2 yX2_startBells yX2_startBells, Cond.initialized RX2, Cond.code yX2_startBells cX2_startBells 7 (some .int), Cond.fieldLink RX2 11 "BellStreet$House" "bells" "[LBellStreet$Bell;", Cond.methodLink RX2 89 yX3_lasts]
def wsX4_fault_r2 : List Cond := [Cond.instanceMethod yX3_lasts, Cond.selects RX3 yX3_lasts yX3_lasts, Cond.initialized RX3, Cond.code yX3_lasts cX3_lasts 1 (some .int), Cond.fieldLink RX3 18 "BellStreet$Melody" "count" "I", Cond.methodLink RX2 93 yX0_ringUntil, Cond.instanceMethod yX0_ringUntil, Cond.selects RX0 yX0_ringUntil yX0_ringUntil, Cond.initialized RX0, Cond.code yX0_ringUntil cX0_ringUntil 2 none, Cond.fieldLink RX0 17 "BellStreet$Bell" "isRinging" "Z", Cond.fieldLink RX0 21 "BellStreet$Bell" "stopsAt" "I", Cond.methodLink RX4 160 yX2_breakDown, Cond.instanceMethod yX2_breakDown, Cond.selects RX2 yX2_breakDown yX2_breakDown, Cond.code yX2_breakDown cX2_breakDown 5 none, Cond.fieldLink RX2 21 "BellStreet$House" "sound" "Z"]
def wsX4_fault : List Cond := .code yX4_fault cX4_fault 8 (some .int) :: ((wsX4_fault_r1 ++ wsX4_fault_r2) ++ wsX20 ++ wsX40 ++ wsX00 ++ wsX30 ++ (vx_atS RX4 61 "java/lang/IllegalStateException" ["java/lang/RuntimeException", "java/lang/Exception"]).filter goodWord ++ (vx_atS RX4 76 "java/lang/IndexOutOfBoundsException" ["java/lang/RuntimeException", "java/lang/Exception"]).filter goodWord)
def wsX4_repair : List Cond := .code yX4_repair cX4_repair 4 (some .int) :: ([.classLink RX4 57 "java/lang/IllegalStateException", .initialized "java/lang/IllegalStateException", .fieldLink RX4 17 "BellStreet" "crews" "[LBellStreet$Crew;", .fieldLink RX4 38 "BellStreet" "now" "I", .methodLink RX4 95 yX4_houseAt, .instanceMethod yX4_houseAt, .selects RX4 yX4_houseAt yX4_houseAt, .initialized RX4, .code yX4_houseAt cX4_houseAt 2 (some (.object "BellStreet$House")), .fieldLink RX4 11 "BellStreet" "houses" "[LBellStreet$House;", .methodLink RX4 45 yX4_checkHouse, .instanceMethod yX4_checkHouse, .selects RX4 yX4_checkHouse yX4_checkHouse, .code yX4_checkHouse cX4_checkHouse 2 none, .classLink RX4 72 "java/lang/IndexOutOfBoundsException", .initialized "java/lang/IndexOutOfBoundsException"] ++ wsX40 ++ wsX20 ++ wsX10 ++ (vx_atS RX4 61 "java/lang/IllegalStateException" ["java/lang/RuntimeException", "java/lang/Exception"]).filter goodWord ++ (vx_atS RX4 76 "java/lang/IndexOutOfBoundsException" ["java/lang/RuntimeException", "java/lang/Exception"]).filter goodWord)
def wsX4_nextChange : List Cond := .code yX4_nextChange cX4_nextChange 7 (some .int) :: ([.fieldLink RX4 38 "BellStreet" "now" "I", .methodLink RX4 232 Lib.Math.min.name, .static Lib.Math.min.name, .initialized "java/lang/Math", .code Lib.Math.min.name Lib.Math.min.code 2 (some .int), .fieldLink RX4 11 "BellStreet" "houses" "[LBellStreet$House;", .fieldLink RX4 17 "BellStreet" "crews" "[LBellStreet$Crew;", .methodLink RX4 238 yX2_firstStop, .instanceMethod yX2_firstStop, .selects RX2 yX2_firstStop yX2_firstStop, .initialized RX2, .code yX2_firstStop cX2_firstStop 7 (some .int), .fieldLink RX2 11 "BellStreet$House" "bells" "[LBellStreet$Bell;"] ++ wsX40 ++ wsX10 ++ wsX20 ++ wsX00)
def wsX4_passStretch_r1 : List Cond := [Cond.fieldLink RX4 11 "BellStreet" "houses" "[LBellStreet$House;", Cond.fieldLink RX4 38 "BellStreet" "now" "I", Cond.fieldLink RX4 17 "BellStreet" "crews" "[LBellStreet$Crew;", Cond.methodLink RX4 241 yX2_spend, Cond.instanceMethod yX2_spend, Cond.selects RX2 yX2_spend yX2_spend, Cond.initialized RX2, Cond.code yX2_spend cX2_spend 4 none, Cond.fieldLink RX2 35 "BellStreet$House" "rungSeconds" "I", Cond.fieldLink RX2 38 "BellStreet$House" "rungQuietSeconds" "I", Cond.fieldLink RX2 47 "BellStreet$House" "keptQuietToday" "Z", Cond.methodLink RX2 100 yX2_ringingSet, Cond.instanceMethod yX2_ringingSet, Cond.selects RX2 yX2_ringingSet yX2_ringingSet, Cond.code yX2_ringingSet cX2_ringingSet 3 (some .int), Cond.fieldLink RX2 11 "BellStreet$House" "bells" "[LBellStreet$Bell;", Cond.methodLink RX2 57 yX2_quietSeconds, Cond.instanceMethod yX2_quietSeconds, Cond.selects RX2 yX2_quietSeconds yX2_quietSeconds, Cond.code yX2_quietSeconds cX2_quietSeconds 5 (some .int), Cond.fieldLink RX2 25 "BellStreet$House" "quietFrom" "I", Cond.fieldLink RX2 29 "BellStreet$House" "quietTo" "I", Cond.methodLink RX2 61 yX2_shared, Cond.static yX2_shared]
def wsX4_passStretch_r2 : List Cond := [Cond.code yX2_shared cX2_shared 4 (some .int), Cond.methodLink RX2 65 Lib.Math.min.name, Cond.static Lib.Math.min.name, Cond.initialized "java/lang/Math", Cond.code Lib.Math.min.name Lib.Math.min.code 2 (some .int), Cond.methodLink RX2 70 Lib.Math.max.name, Cond.static Lib.Math.max.name, Cond.code Lib.Math.max.name Lib.Math.max.code 2 (some .int), Cond.methodLink RX4 245 yX2_stopEndedBells, Cond.instanceMethod yX2_stopEndedBells, Cond.selects RX2 yX2_stopEndedBells yX2_stopEndedBells, Cond.code yX2_stopEndedBells cX2_stopEndedBells 6 none, Cond.methodLink RX4 248 yX1_finish, Cond.instanceMethod yX1_finish, Cond.selects RX1 yX1_finish yX1_finish, Cond.initialized RX1, Cond.code yX1_finish cX1_finish 2 none, Cond.fieldLink RX1 7 "BellStreet$Crew" "goal" "LBellStreet$House;", Cond.fieldLink RX1 13 "BellStreet$Crew" "doneAt" "I", Cond.methodLink RX4 251 yX2_closeDay, Cond.instanceMethod yX2_closeDay, Cond.selects RX2 yX2_closeDay yX2_closeDay, Cond.code yX2_closeDay cX2_closeDay 1 none, Cond.fieldLink RX2 32 "BellStreet$House" "score" "I"]
def wsX4_passStretch_r3 : List Cond := [Cond.fieldLink RX2 44 "BellStreet$House" "faultsOfTheDay" "I"]
def wsX4_passStretch : List Cond := .code yX4_passStretch cX4_passStretch 6 none :: ((wsX4_passStretch_r1 ++ (wsX4_passStretch_r2 ++ wsX4_passStretch_r3)) ++ wsX40 ++ wsX20 ++ wsX00 ++ wsX10)
def wsX4_pass_r1 : List Cond := [Cond.classLink RX4 48 "java/lang/IllegalArgumentException", Cond.initialized "java/lang/IllegalArgumentException", Cond.classLink RX4 57 "java/lang/IllegalStateException", Cond.initialized "java/lang/IllegalStateException", Cond.fieldLink RX4 38 "BellStreet" "now" "I", Cond.constant RX4 199 (1000000), Cond.methodLink RX4 202 yX4_nextChange, Cond.instanceMethod yX4_nextChange, Cond.selects RX4 yX4_nextChange yX4_nextChange, Cond.initialized RX4, Cond.code yX4_nextChange cX4_nextChange 7 (some .int), Cond.methodLink RX4 232 Lib.Math.min.name, Cond.static Lib.Math.min.name, Cond.initialized "java/lang/Math", Cond.code Lib.Math.min.name Lib.Math.min.code 2 (some .int), Cond.fieldLink RX4 11 "BellStreet" "houses" "[LBellStreet$House;", Cond.fieldLink RX4 17 "BellStreet" "crews" "[LBellStreet$Crew;", Cond.methodLink RX4 238 yX2_firstStop, Cond.instanceMethod yX2_firstStop, Cond.selects RX2 yX2_firstStop yX2_firstStop, Cond.initialized RX2, Cond.code yX2_firstStop cX2_firstStop 7 (some .int), Cond.fieldLink RX2 11 "BellStreet$House" "bells" "[LBellStreet$Bell;", Cond.methodLink RX4 205 yX4_passStretch]
def wsX4_pass_r2 : List Cond := [Cond.instanceMethod yX4_passStretch, Cond.selects RX4 yX4_passStretch yX4_passStretch, Cond.code yX4_passStretch cX4_passStretch 6 none, Cond.methodLink RX4 241 yX2_spend, Cond.instanceMethod yX2_spend, Cond.selects RX2 yX2_spend yX2_spend, Cond.code yX2_spend cX2_spend 4 none, Cond.fieldLink RX2 35 "BellStreet$House" "rungSeconds" "I", Cond.fieldLink RX2 38 "BellStreet$House" "rungQuietSeconds" "I", Cond.fieldLink RX2 47 "BellStreet$House" "keptQuietToday" "Z", Cond.methodLink RX2 100 yX2_ringingSet, Cond.instanceMethod yX2_ringingSet, Cond.selects RX2 yX2_ringingSet yX2_ringingSet, Cond.code yX2_ringingSet cX2_ringingSet 3 (some .int), Cond.methodLink RX2 57 yX2_quietSeconds, Cond.instanceMethod yX2_quietSeconds, Cond.selects RX2 yX2_quietSeconds yX2_quietSeconds, Cond.code yX2_quietSeconds cX2_quietSeconds 5 (some .int), Cond.fieldLink RX2 25 "BellStreet$House" "quietFrom" "I", Cond.fieldLink RX2 29 "BellStreet$House" "quietTo" "I", Cond.methodLink RX2 61 yX2_shared, Cond.static yX2_shared, Cond.code yX2_shared cX2_shared 4 (some .int), Cond.methodLink RX2 65 Lib.Math.min.name]
def wsX4_pass_r3 : List Cond := [Cond.methodLink RX2 70 Lib.Math.max.name, Cond.static Lib.Math.max.name, Cond.code Lib.Math.max.name Lib.Math.max.code 2 (some .int), Cond.methodLink RX4 245 yX2_stopEndedBells, Cond.instanceMethod yX2_stopEndedBells, Cond.selects RX2 yX2_stopEndedBells yX2_stopEndedBells, Cond.code yX2_stopEndedBells cX2_stopEndedBells 6 none, Cond.methodLink RX4 248 yX1_finish, Cond.instanceMethod yX1_finish, Cond.selects RX1 yX1_finish yX1_finish, Cond.initialized RX1, Cond.code yX1_finish cX1_finish 2 none, Cond.fieldLink RX1 7 "BellStreet$Crew" "goal" "LBellStreet$House;", Cond.fieldLink RX1 13 "BellStreet$Crew" "doneAt" "I", Cond.methodLink RX4 251 yX2_closeDay, Cond.instanceMethod yX2_closeDay, Cond.selects RX2 yX2_closeDay yX2_closeDay, Cond.code yX2_closeDay cX2_closeDay 1 none, Cond.fieldLink RX2 32 "BellStreet$House" "score" "I", Cond.fieldLink RX2 44 "BellStreet$House" "faultsOfTheDay" "I"]
def wsX4_pass : List Cond := .code yX4_pass cX4_pass 4 (some .int) :: ((wsX4_pass_r1 ++ (wsX4_pass_r2 ++ wsX4_pass_r3)) ++ wsX40 ++ wsX10 ++ wsX20 ++ wsX00 ++ (vx_atS RX4 52 "java/lang/IllegalArgumentException" ["java/lang/RuntimeException", "java/lang/Exception"]).filter goodWord ++ (vx_atS RX4 61 "java/lang/IllegalStateException" ["java/lang/RuntimeException", "java/lang/Exception"]).filter goodWord)
def wsX4_time : List Cond := .code yX4_time cX4_time 1 (some .int) :: ([.fieldLink RX4 38 "BellStreet" "now" "I"] ++ wsX40)
def wsX4_ringing : List Cond := .code yX4_ringing cX4_ringing 2 (some .int) :: ([.methodLink RX4 95 yX4_houseAt, .instanceMethod yX4_houseAt, .selects RX4 yX4_houseAt yX4_houseAt, .initialized RX4, .code yX4_houseAt cX4_houseAt 2 (some (.object "BellStreet$House")), .fieldLink RX4 11 "BellStreet" "houses" "[LBellStreet$House;", .methodLink RX4 45 yX4_checkHouse, .instanceMethod yX4_checkHouse, .selects RX4 yX4_checkHouse yX4_checkHouse, .code yX4_checkHouse cX4_checkHouse 2 none, .classLink RX4 72 "java/lang/IndexOutOfBoundsException", .initialized "java/lang/IndexOutOfBoundsException", .methodLink RX4 208 yX2_ringingSet, .instanceMethod yX2_ringingSet, .selects RX2 yX2_ringingSet yX2_ringingSet, .initialized RX2, .code yX2_ringingSet cX2_ringingSet 3 (some .int), .fieldLink RX2 11 "BellStreet$House" "bells" "[LBellStreet$Bell;"] ++ wsX40 ++ wsX20 ++ wsX00 ++ (vx_atS RX4 76 "java/lang/IndexOutOfBoundsException" ["java/lang/RuntimeException", "java/lang/Exception"]).filter goodWord)
def wsX4_isSound : List Cond := .code yX4_isSound cX4_isSound 2 (some .boolean) :: ([.methodLink RX4 95 yX4_houseAt, .instanceMethod yX4_houseAt, .selects RX4 yX4_houseAt yX4_houseAt, .initialized RX4, .code yX4_houseAt cX4_houseAt 2 (some (.object "BellStreet$House")), .fieldLink RX4 11 "BellStreet" "houses" "[LBellStreet$House;", .methodLink RX4 45 yX4_checkHouse, .instanceMethod yX4_checkHouse, .selects RX4 yX4_checkHouse yX4_checkHouse, .code yX4_checkHouse cX4_checkHouse 2 none, .classLink RX4 72 "java/lang/IndexOutOfBoundsException", .initialized "java/lang/IndexOutOfBoundsException"] ++ wsX20 ++ wsX40 ++ (vx_atS RX4 76 "java/lang/IndexOutOfBoundsException" ["java/lang/RuntimeException", "java/lang/Exception"]).filter goodWord)
def wsX4_ringsLeft : List Cond := .code yX4_ringsLeft cX4_ringsLeft 4 (some .int) :: ([.methodLink RX4 95 yX4_houseAt, .instanceMethod yX4_houseAt, .selects RX4 yX4_houseAt yX4_houseAt, .initialized RX4, .code yX4_houseAt cX4_houseAt 2 (some (.object "BellStreet$House")), .fieldLink RX4 11 "BellStreet" "houses" "[LBellStreet$House;", .methodLink RX4 45 yX4_checkHouse, .instanceMethod yX4_checkHouse, .selects RX4 yX4_checkHouse yX4_checkHouse, .code yX4_checkHouse cX4_checkHouse 2 none, .classLink RX4 72 "java/lang/IndexOutOfBoundsException", .initialized "java/lang/IndexOutOfBoundsException", .methodLink RX4 65 yX4_melodyAt, .instanceMethod yX4_melodyAt, .selects RX4 yX4_melodyAt yX4_melodyAt, .code yX4_melodyAt cX4_melodyAt 3 (some (.object "BellStreet$Melody")), .fieldLink RX4 23 "BellStreet" "melodies" "[LBellStreet$Melody;"] ++ wsX30 ++ wsX20 ++ wsX40 ++ (vx_atS RX4 76 "java/lang/IndexOutOfBoundsException" ["java/lang/RuntimeException", "java/lang/Exception"]).filter goodWord)
def wsX4_points : List Cond := .code yX4_points cX4_points 2 (some .int) :: ([.methodLink RX4 95 yX4_houseAt, .instanceMethod yX4_houseAt, .selects RX4 yX4_houseAt yX4_houseAt, .initialized RX4, .code yX4_houseAt cX4_houseAt 2 (some (.object "BellStreet$House")), .fieldLink RX4 11 "BellStreet" "houses" "[LBellStreet$House;", .methodLink RX4 45 yX4_checkHouse, .instanceMethod yX4_checkHouse, .selects RX4 yX4_checkHouse yX4_checkHouse, .code yX4_checkHouse cX4_checkHouse 2 none, .classLink RX4 72 "java/lang/IndexOutOfBoundsException", .initialized "java/lang/IndexOutOfBoundsException"] ++ wsX20 ++ wsX40 ++ (vx_atS RX4 76 "java/lang/IndexOutOfBoundsException" ["java/lang/RuntimeException", "java/lang/Exception"]).filter goodWord)
def wsX4_secondsRung : List Cond := .code yX4_secondsRung cX4_secondsRung 2 (some .int) :: ([.methodLink RX4 95 yX4_houseAt, .instanceMethod yX4_houseAt, .selects RX4 yX4_houseAt yX4_houseAt, .initialized RX4, .code yX4_houseAt cX4_houseAt 2 (some (.object "BellStreet$House")), .fieldLink RX4 11 "BellStreet" "houses" "[LBellStreet$House;", .methodLink RX4 45 yX4_checkHouse, .instanceMethod yX4_checkHouse, .selects RX4 yX4_checkHouse yX4_checkHouse, .code yX4_checkHouse cX4_checkHouse 2 none, .classLink RX4 72 "java/lang/IndexOutOfBoundsException", .initialized "java/lang/IndexOutOfBoundsException"] ++ wsX20 ++ wsX40 ++ (vx_atS RX4 76 "java/lang/IndexOutOfBoundsException" ["java/lang/RuntimeException", "java/lang/Exception"]).filter goodWord)
def wsX4_quietBroken : List Cond := .code yX4_quietBroken cX4_quietBroken 2 (some .int) :: ([.methodLink RX4 95 yX4_houseAt, .instanceMethod yX4_houseAt, .selects RX4 yX4_houseAt yX4_houseAt, .initialized RX4, .code yX4_houseAt cX4_houseAt 2 (some (.object "BellStreet$House")), .fieldLink RX4 11 "BellStreet" "houses" "[LBellStreet$House;", .methodLink RX4 45 yX4_checkHouse, .instanceMethod yX4_checkHouse, .selects RX4 yX4_checkHouse yX4_checkHouse, .code yX4_checkHouse cX4_checkHouse 2 none, .classLink RX4 72 "java/lang/IndexOutOfBoundsException", .initialized "java/lang/IndexOutOfBoundsException"] ++ wsX20 ++ wsX40 ++ (vx_atS RX4 76 "java/lang/IndexOutOfBoundsException" ["java/lang/RuntimeException", "java/lang/Exception"]).filter goodWord)
def wsX4_hushed : List Cond := .code yX4_hushed cX4_hushed 2 (some .int) :: ([.methodLink RX4 95 yX4_houseAt, .instanceMethod yX4_houseAt, .selects RX4 yX4_houseAt yX4_houseAt, .initialized RX4, .code yX4_houseAt cX4_houseAt 2 (some (.object "BellStreet$House")), .fieldLink RX4 11 "BellStreet" "houses" "[LBellStreet$House;", .methodLink RX4 45 yX4_checkHouse, .instanceMethod yX4_checkHouse, .selects RX4 yX4_checkHouse yX4_checkHouse, .code yX4_checkHouse cX4_checkHouse 2 none, .classLink RX4 72 "java/lang/IndexOutOfBoundsException", .initialized "java/lang/IndexOutOfBoundsException"] ++ wsX20 ++ wsX40 ++ (vx_atS RX4 76 "java/lang/IndexOutOfBoundsException" ["java/lang/RuntimeException", "java/lang/Exception"]).filter goodWord)
def wsX4_faults : List Cond := .code yX4_faults cX4_faults 1 (some .int) :: ([.fieldLink RX4 35 "BellStreet" "faultCount" "I"] ++ wsX40)
def wsX4_faultAt : List Cond := .code yX4_faultAt cX4_faultAt 2 (some .int) :: ([.classLink RX4 72 "java/lang/IndexOutOfBoundsException", .initialized "java/lang/IndexOutOfBoundsException", .fieldLink RX4 35 "BellStreet" "faultCount" "I", .fieldLink RX4 27 "BellStreet" "toldFaults" "[I"] ++ wsX40 ++ (vx_atS RX4 76 "java/lang/IndexOutOfBoundsException" ["java/lang/RuntimeException", "java/lang/Exception"]).filter goodWord)
def wsX5_init : List Cond := .code yX5_init cX5_init 2 none :: ([.methodLink RX5 1 objectInit, .instanceMethod objectInit, .code objectInit ⟨#[0xb1]⟩ 1 none, .arrayClass .int, .fieldLink RX5 7 "BellStreetModel" "owners" "[I", .fieldLink RX5 13 "BellStreetModel" "counts" "[I", .arrayClass .long, .fieldLink RX5 16 "BellStreetModel" "tones" "[J", .fieldLink RX5 20 "BellStreetModel" "laid" "[I", .fieldLink RX5 23 "BellStreetModel" "loads" "[I", .fieldLink RX5 26 "BellStreetModel" "ends" "[I", .fieldLink RX5 29 "BellStreetModel" "left" "[I", .fieldLink RX5 32 "BellStreetModel" "froms" "[I", .fieldLink RX5 35 "BellStreetModel" "tos" "[I", .fieldLink RX5 38 "BellStreetModel" "broken" "[I", .fieldLink RX5 41 "BellStreetModel" "points" "[I", .fieldLink RX5 44 "BellStreetModel" "rung" "[I", .fieldLink RX5 47 "BellStreetModel" "noisy" "[I", .fieldLink RX5 50 "BellStreetModel" "hushes" "[I", .fieldLink RX5 53 "BellStreetModel" "loud" "[I", .fieldLink RX5 56 "BellStreetModel" "faultsOfDay" "[I", .fieldLink RX5 59 "BellStreetModel" "done" "[I", .fieldLink RX5 62 "BellStreetModel" "goal" "[I", .fieldLink RX5 65 "BellStreetModel" "told" "[I"] ++ wsX50)
def wsX5_thrown : List Cond := .code yX5_thrown cX5_thrown 1 (some .int) :: ([.fieldLink RX5 68 "BellStreetModel" "thrown" "I"] ++ wsX50)
def wsX5_fails : List Cond := .code yX5_fails cX5_fails 2 (some .int) :: ([.fieldLink RX5 68 "BellStreetModel" "thrown" "I"] ++ wsX50)
def wsX5_in : List Cond := .code yX5_in cX5_in 3 (some .boolean) :: ([])
def wsX5_isHouse : List Cond := .code yX5_isHouse cX5_isHouse 1 (some .boolean) :: ([.methodLink RX5 72 yX5_in, .static yX5_in, .initialized RX5, .code yX5_in cX5_in 3 (some .boolean)])
def wsX5_isMelody : List Cond := .code yX5_isMelody cX5_isMelody 2 (some .boolean) :: ([.fieldLink RX5 76 "BellStreetModel" "melodies" "I", .fieldLink RX5 68 "BellStreetModel" "thrown" "I", .methodLink RX5 72 yX5_in, .static yX5_in, .initialized RX5, .code yX5_in cX5_in 3 (some .boolean)] ++ wsX50)
def wsX5_addMelody : List Cond := .code yX5_addMelody cX5_addMelody 5 (some .int) :: ([.fieldLink RX5 68 "BellStreetModel" "thrown" "I", .fieldLink RX5 76 "BellStreetModel" "melodies" "I", .fieldLink RX5 7 "BellStreetModel" "owners" "[I", .fieldLink RX5 13 "BellStreetModel" "counts" "[I", .fieldLink RX5 16 "BellStreetModel" "tones" "[J", .methodLink RX5 79 yX5_isHouse, .static yX5_isHouse, .initialized RX5, .code yX5_isHouse cX5_isHouse 1 (some .boolean), .methodLink RX5 72 yX5_in, .static yX5_in, .code yX5_in cX5_in 3 (some .boolean), .methodLink RX5 83 yX5_fails, .instanceMethod yX5_fails, .selects RX5 yX5_fails yX5_fails, .code yX5_fails cX5_fails 2 (some .int)] ++ wsX50)
def wsX5_tone : List Cond := .code yX5_tone cX5_tone 3 (some .int) :: ([.fieldLink RX5 16 "BellStreetModel" "tones" "[J", .constantLong RX5 87 (15)] ++ wsX50)
def wsX5_toneAt : List Cond := .code yX5_toneAt cX5_toneAt 3 (some .int) :: ([.fieldLink RX5 13 "BellStreetModel" "counts" "[I", .methodLink RX5 89 yX5_isMelody, .instanceMethod yX5_isMelody, .selects RX5 yX5_isMelody yX5_isMelody, .initialized RX5, .code yX5_isMelody cX5_isMelody 2 (some .boolean), .fieldLink RX5 76 "BellStreetModel" "melodies" "I", .fieldLink RX5 68 "BellStreetModel" "thrown" "I", .methodLink RX5 72 yX5_in, .static yX5_in, .code yX5_in cX5_in 3 (some .boolean), .methodLink RX5 92 yX5_tone, .instanceMethod yX5_tone, .selects RX5 yX5_tone yX5_tone, .code yX5_tone cX5_tone 3 (some .int), .fieldLink RX5 16 "BellStreetModel" "tones" "[J", .constantLong RX5 87 (15), .methodLink RX5 83 yX5_fails, .instanceMethod yX5_fails, .selects RX5 yX5_fails yX5_fails, .code yX5_fails cX5_fails 2 (some .int)] ++ wsX50)
def wsX5_shifted : List Cond := .code yX5_shifted cX5_shifted 6 (some .long) :: ([.fieldLink RX5 13 "BellStreetModel" "counts" "[I", .methodLink RX5 89 yX5_isMelody, .instanceMethod yX5_isMelody, .selects RX5 yX5_isMelody yX5_isMelody, .initialized RX5, .code yX5_isMelody cX5_isMelody 2 (some .boolean), .fieldLink RX5 76 "BellStreetModel" "melodies" "I", .fieldLink RX5 68 "BellStreetModel" "thrown" "I", .methodLink RX5 72 yX5_in, .static yX5_in, .code yX5_in cX5_in 3 (some .boolean), .methodLink RX5 83 yX5_fails, .instanceMethod yX5_fails, .selects RX5 yX5_fails yX5_fails, .code yX5_fails cX5_fails 2 (some .int), .methodLink RX5 92 yX5_tone, .instanceMethod yX5_tone, .selects RX5 yX5_tone yX5_tone, .code yX5_tone cX5_tone 3 (some .int), .fieldLink RX5 16 "BellStreetModel" "tones" "[J", .constantLong RX5 87 (15)] ++ wsX50)
def wsX5_turned : List Cond := .code yX5_turned cX5_turned 5 (some .long) :: ([.fieldLink RX5 13 "BellStreetModel" "counts" "[I", .methodLink RX5 89 yX5_isMelody, .instanceMethod yX5_isMelody, .selects RX5 yX5_isMelody yX5_isMelody, .initialized RX5, .code yX5_isMelody cX5_isMelody 2 (some .boolean), .fieldLink RX5 76 "BellStreetModel" "melodies" "I", .fieldLink RX5 68 "BellStreetModel" "thrown" "I", .methodLink RX5 72 yX5_in, .static yX5_in, .code yX5_in cX5_in 3 (some .boolean), .methodLink RX5 92 yX5_tone, .instanceMethod yX5_tone, .selects RX5 yX5_tone yX5_tone, .code yX5_tone cX5_tone 3 (some .int), .fieldLink RX5 16 "BellStreetModel" "tones" "[J", .constantLong RX5 87 (15)] ++ wsX50)
def wsX5_areAlike : List Cond := .code yX5_areAlike cX5_areAlike 5 (some .boolean) :: ([.fieldLink RX5 76 "BellStreetModel" "melodies" "I", .fieldLink RX5 68 "BellStreetModel" "thrown" "I", .fieldLink RX5 13 "BellStreetModel" "counts" "[I", .methodLink RX5 72 yX5_in, .static yX5_in, .initialized RX5, .code yX5_in cX5_in 3 (some .boolean), .methodLink RX5 92 yX5_tone, .instanceMethod yX5_tone, .selects RX5 yX5_tone yX5_tone, .code yX5_tone cX5_tone 3 (some .int), .fieldLink RX5 16 "BellStreetModel" "tones" "[J", .constantLong RX5 87 (15)] ++ wsX50)
def wsX5_license : List Cond := .code yX5_license cX5_license 5 (some .int) :: ([.fieldLink RX5 76 "BellStreetModel" "melodies" "I", .fieldLink RX5 68 "BellStreetModel" "thrown" "I", .fieldLink RX5 7 "BellStreetModel" "owners" "[I", .fieldLink RX5 29 "BellStreetModel" "left" "[I", .methodLink RX5 79 yX5_isHouse, .static yX5_isHouse, .initialized RX5, .code yX5_isHouse cX5_isHouse 1 (some .boolean), .methodLink RX5 72 yX5_in, .static yX5_in, .code yX5_in cX5_in 3 (some .boolean), .methodLink RX5 83 yX5_fails, .instanceMethod yX5_fails, .selects RX5 yX5_fails yX5_fails, .code yX5_fails cX5_fails 2 (some .int)] ++ wsX50)
def wsX5_isQuiet : List Cond := .code yX5_isQuiet cX5_isQuiet 3 (some .boolean) :: ([.fieldLink RX5 96 "BellStreetModel" "time" "I", .fieldLink RX5 32 "BellStreetModel" "froms" "[I", .fieldLink RX5 35 "BellStreetModel" "tos" "[I"] ++ wsX50)
def wsX5_setQuiet : List Cond := .code yX5_setQuiet cX5_setQuiet 4 (some .boolean) :: ([.fieldLink RX5 68 "BellStreetModel" "thrown" "I", .fieldLink RX5 32 "BellStreetModel" "froms" "[I", .fieldLink RX5 35 "BellStreetModel" "tos" "[I", .methodLink RX5 79 yX5_isHouse, .static yX5_isHouse, .initialized RX5, .code yX5_isHouse cX5_isHouse 1 (some .boolean), .methodLink RX5 72 yX5_in, .static yX5_in, .code yX5_in cX5_in 3 (some .boolean), .methodLink RX5 99 yX5_isQuiet, .instanceMethod yX5_isQuiet, .selects RX5 yX5_isQuiet yX5_isQuiet, .code yX5_isQuiet cX5_isQuiet 3 (some .boolean), .fieldLink RX5 96 "BellStreetModel" "time" "I"] ++ wsX50)
def wsX5_lay : List Cond := .code yX5_lay cX5_lay 7 (some .int) :: ([.fieldLink RX5 76 "BellStreetModel" "melodies" "I", .fieldLink RX5 68 "BellStreetModel" "thrown" "I", .fieldLink RX5 20 "BellStreetModel" "laid" "[I", .fieldLink RX5 23 "BellStreetModel" "loads" "[I", .fieldLink RX5 26 "BellStreetModel" "ends" "[I", .methodLink RX5 79 yX5_isHouse, .static yX5_isHouse, .initialized RX5, .code yX5_isHouse cX5_isHouse 1 (some .boolean), .methodLink RX5 72 yX5_in, .static yX5_in, .code yX5_in cX5_in 3 (some .boolean)] ++ wsX50)
def wsX5_breaks : List Cond := .code yX5_breaks cX5_breaks 3 none :: ([.fieldLink RX5 38 "BellStreetModel" "broken" "[I", .fieldLink RX5 26 "BellStreetModel" "ends" "[I"] ++ wsX50)
def wsX5_begins : List Cond := .code yX5_begins cX5_begins 2 none :: ([.fieldLink RX5 26 "BellStreetModel" "ends" "[I", .fieldLink RX5 96 "BellStreetModel" "time" "I", .fieldLink RX5 13 "BellStreetModel" "counts" "[I", .fieldLink RX5 20 "BellStreetModel" "laid" "[I"] ++ wsX50)
def wsX5_press_r1 : List Cond := [Cond.fieldLink RX5 68 "BellStreetModel" "thrown" "I", Cond.fieldLink RX5 20 "BellStreetModel" "laid" "[I", Cond.fieldLink RX5 38 "BellStreetModel" "broken" "[I", Cond.fieldLink RX5 26 "BellStreetModel" "ends" "[I", Cond.fieldLink RX5 50 "BellStreetModel" "hushes" "[I", Cond.fieldLink RX5 7 "BellStreetModel" "owners" "[I", Cond.fieldLink RX5 29 "BellStreetModel" "left" "[I", Cond.fieldLink RX5 23 "BellStreetModel" "loads" "[I", Cond.methodLink RX5 79 yX5_isHouse, Cond.static yX5_isHouse, Cond.initialized RX5, Cond.code yX5_isHouse cX5_isHouse 1 (some .boolean), Cond.methodLink RX5 72 yX5_in, Cond.static yX5_in, Cond.code yX5_in cX5_in 3 (some .boolean), Cond.methodLink RX5 83 yX5_fails, Cond.instanceMethod yX5_fails, Cond.selects RX5 yX5_fails yX5_fails, Cond.code yX5_fails cX5_fails 2 (some .int), Cond.methodLink RX5 99 yX5_isQuiet, Cond.instanceMethod yX5_isQuiet, Cond.selects RX5 yX5_isQuiet yX5_isQuiet, Cond.code yX5_isQuiet cX5_isQuiet 3 (some .boolean), Cond.fieldLink RX5 96 "BellStreetModel" "time" "I"]
def wsX5_press_r2 : List Cond := [Cond.fieldLink RX5 32 "BellStreetModel" "froms" "[I", Cond.fieldLink RX5 35 "BellStreetModel" "tos" "[I", Cond.methodLink RX5 102 yX5_breaks, Cond.instanceMethod yX5_breaks, Cond.selects RX5 yX5_breaks yX5_breaks, Cond.code yX5_breaks cX5_breaks 3 none, Cond.methodLink RX5 106 yX5_begins, Cond.instanceMethod yX5_begins, Cond.selects RX5 yX5_begins yX5_begins, Cond.code yX5_begins cX5_begins 2 none, Cond.fieldLink RX5 13 "BellStreetModel" "counts" "[I"]
def wsX5_press : List Cond := .code yX5_press cX5_press 8 (some .int) :: ((wsX5_press_r1 ++ wsX5_press_r2) ++ wsX50)
def wsX5_fault : List Cond := .code yX5_fault cX5_fault 4 (some .int) :: ([.fieldLink RX5 38 "BellStreetModel" "broken" "[I", .fieldLink RX5 109 "BellStreetModel" "faults" "I", .fieldLink RX5 68 "BellStreetModel" "thrown" "I", .fieldLink RX5 20 "BellStreetModel" "laid" "[I", .fieldLink RX5 26 "BellStreetModel" "ends" "[I", .fieldLink RX5 65 "BellStreetModel" "told" "[I", .fieldLink RX5 96 "BellStreetModel" "time" "I", .fieldLink RX5 56 "BellStreetModel" "faultsOfDay" "[I", .methodLink RX5 79 yX5_isHouse, .static yX5_isHouse, .initialized RX5, .code yX5_isHouse cX5_isHouse 1 (some .boolean), .methodLink RX5 72 yX5_in, .static yX5_in, .code yX5_in cX5_in 3 (some .boolean), .methodLink RX5 106 yX5_begins, .instanceMethod yX5_begins, .selects RX5 yX5_begins yX5_begins, .code yX5_begins cX5_begins 2 none, .fieldLink RX5 13 "BellStreetModel" "counts" "[I", .methodLink RX5 102 yX5_breaks, .instanceMethod yX5_breaks, .selects RX5 yX5_breaks yX5_breaks, .code yX5_breaks cX5_breaks 3 none] ++ wsX50)
def wsX5_repair : List Cond := .code yX5_repair cX5_repair 3 (some .int) :: ([.fieldLink RX5 68 "BellStreetModel" "thrown" "I", .fieldLink RX5 38 "BellStreetModel" "broken" "[I", .fieldLink RX5 59 "BellStreetModel" "done" "[I", .fieldLink RX5 96 "BellStreetModel" "time" "I", .fieldLink RX5 62 "BellStreetModel" "goal" "[I", .methodLink RX5 79 yX5_isHouse, .static yX5_isHouse, .initialized RX5, .code yX5_isHouse cX5_isHouse 1 (some .boolean), .methodLink RX5 72 yX5_in, .static yX5_in, .code yX5_in cX5_in 3 (some .boolean), .methodLink RX5 83 yX5_fails, .instanceMethod yX5_fails, .selects RX5 yX5_fails yX5_fails, .code yX5_fails cX5_fails 2 (some .int)] ++ wsX50)
def wsX5_rings : List Cond := .code yX5_rings cX5_rings 4 none :: ([.fieldLink RX5 26 "BellStreetModel" "ends" "[I", .fieldLink RX5 44 "BellStreetModel" "rung" "[I", .fieldLink RX5 47 "BellStreetModel" "noisy" "[I", .fieldLink RX5 53 "BellStreetModel" "loud" "[I", .methodLink RX5 99 yX5_isQuiet, .instanceMethod yX5_isQuiet, .selects RX5 yX5_isQuiet yX5_isQuiet, .initialized RX5, .code yX5_isQuiet cX5_isQuiet 3 (some .boolean), .fieldLink RX5 96 "BellStreetModel" "time" "I", .fieldLink RX5 32 "BellStreetModel" "froms" "[I", .fieldLink RX5 35 "BellStreetModel" "tos" "[I"] ++ wsX50)
def wsX5_second : List Cond := .code yX5_second cX5_second 2 none :: ([.fieldLink RX5 96 "BellStreetModel" "time" "I", .fieldLink RX5 26 "BellStreetModel" "ends" "[I", .fieldLink RX5 59 "BellStreetModel" "done" "[I", .fieldLink RX5 38 "BellStreetModel" "broken" "[I", .fieldLink RX5 62 "BellStreetModel" "goal" "[I", .fieldLink RX5 41 "BellStreetModel" "points" "[I", .fieldLink RX5 53 "BellStreetModel" "loud" "[I", .fieldLink RX5 56 "BellStreetModel" "faultsOfDay" "[I", .methodLink RX5 112 yX5_rings, .instanceMethod yX5_rings, .selects RX5 yX5_rings yX5_rings, .initialized RX5, .code yX5_rings cX5_rings 4 none, .fieldLink RX5 44 "BellStreetModel" "rung" "[I", .fieldLink RX5 47 "BellStreetModel" "noisy" "[I", .methodLink RX5 99 yX5_isQuiet, .instanceMethod yX5_isQuiet, .selects RX5 yX5_isQuiet yX5_isQuiet, .code yX5_isQuiet cX5_isQuiet 3 (some .boolean), .fieldLink RX5 32 "BellStreetModel" "froms" "[I", .fieldLink RX5 35 "BellStreetModel" "tos" "[I"] ++ wsX50)
def wsX5_pass_r1 : List Cond := [Cond.fieldLink RX5 96 "BellStreetModel" "time" "I", Cond.constant RX5 115 (1000000), Cond.fieldLink RX5 68 "BellStreetModel" "thrown" "I", Cond.methodLink RX5 72 yX5_in, Cond.static yX5_in, Cond.initialized RX5, Cond.code yX5_in cX5_in 3 (some .boolean), Cond.methodLink RX5 116 yX5_second, Cond.instanceMethod yX5_second, Cond.selects RX5 yX5_second yX5_second, Cond.code yX5_second cX5_second 2 none, Cond.fieldLink RX5 26 "BellStreetModel" "ends" "[I", Cond.fieldLink RX5 59 "BellStreetModel" "done" "[I", Cond.fieldLink RX5 38 "BellStreetModel" "broken" "[I", Cond.fieldLink RX5 62 "BellStreetModel" "goal" "[I", Cond.fieldLink RX5 41 "BellStreetModel" "points" "[I", Cond.fieldLink RX5 53 "BellStreetModel" "loud" "[I", Cond.fieldLink RX5 56 "BellStreetModel" "faultsOfDay" "[I", Cond.methodLink RX5 112 yX5_rings, Cond.instanceMethod yX5_rings, Cond.selects RX5 yX5_rings yX5_rings, Cond.code yX5_rings cX5_rings 4 none, Cond.fieldLink RX5 44 "BellStreetModel" "rung" "[I", Cond.fieldLink RX5 47 "BellStreetModel" "noisy" "[I"]
def wsX5_pass_r2 : List Cond := [Cond.methodLink RX5 99 yX5_isQuiet, Cond.instanceMethod yX5_isQuiet, Cond.selects RX5 yX5_isQuiet yX5_isQuiet, Cond.code yX5_isQuiet cX5_isQuiet 3 (some .boolean), Cond.fieldLink RX5 32 "BellStreetModel" "froms" "[I", Cond.fieldLink RX5 35 "BellStreetModel" "tos" "[I"]
def wsX5_pass : List Cond := .code yX5_pass cX5_pass 3 (some .int) :: ((wsX5_pass_r1 ++ wsX5_pass_r2) ++ wsX50)
def wsX5_time : List Cond := .code yX5_time cX5_time 1 (some .int) :: ([.fieldLink RX5 68 "BellStreetModel" "thrown" "I", .fieldLink RX5 96 "BellStreetModel" "time" "I"] ++ wsX50)
def wsX5_isSeen : List Cond := .code yX5_isSeen cX5_isSeen 2 (some .boolean) :: ([.fieldLink RX5 68 "BellStreetModel" "thrown" "I", .methodLink RX5 79 yX5_isHouse, .static yX5_isHouse, .initialized RX5, .code yX5_isHouse cX5_isHouse 1 (some .boolean), .methodLink RX5 72 yX5_in, .static yX5_in, .code yX5_in cX5_in 3 (some .boolean)] ++ wsX50)
def wsX5_ringing : List Cond := .code yX5_ringing cX5_ringing 4 (some .int) :: ([.fieldLink RX5 26 "BellStreetModel" "ends" "[I", .methodLink RX5 119 yX5_isSeen, .instanceMethod yX5_isSeen, .selects RX5 yX5_isSeen yX5_isSeen, .initialized RX5, .code yX5_isSeen cX5_isSeen 2 (some .boolean), .fieldLink RX5 68 "BellStreetModel" "thrown" "I", .methodLink RX5 79 yX5_isHouse, .static yX5_isHouse, .code yX5_isHouse cX5_isHouse 1 (some .boolean), .methodLink RX5 72 yX5_in, .static yX5_in, .code yX5_in cX5_in 3 (some .boolean)] ++ wsX50)
def wsX5_isSound : List Cond := .code yX5_isSound cX5_isSound 2 (some .boolean) :: ([.fieldLink RX5 38 "BellStreetModel" "broken" "[I", .methodLink RX5 119 yX5_isSeen, .instanceMethod yX5_isSeen, .selects RX5 yX5_isSeen yX5_isSeen, .initialized RX5, .code yX5_isSeen cX5_isSeen 2 (some .boolean), .fieldLink RX5 68 "BellStreetModel" "thrown" "I", .methodLink RX5 79 yX5_isHouse, .static yX5_isHouse, .code yX5_isHouse cX5_isHouse 1 (some .boolean), .methodLink RX5 72 yX5_in, .static yX5_in, .code yX5_in cX5_in 3 (some .boolean)] ++ wsX50)
def wsX5_ringsLeft : List Cond := .code yX5_ringsLeft cX5_ringsLeft 3 (some .int) :: ([.fieldLink RX5 76 "BellStreetModel" "melodies" "I", .fieldLink RX5 68 "BellStreetModel" "thrown" "I", .fieldLink RX5 7 "BellStreetModel" "owners" "[I", .fieldLink RX5 29 "BellStreetModel" "left" "[I", .methodLink RX5 79 yX5_isHouse, .static yX5_isHouse, .initialized RX5, .code yX5_isHouse cX5_isHouse 1 (some .boolean), .methodLink RX5 72 yX5_in, .static yX5_in, .code yX5_in cX5_in 3 (some .boolean)] ++ wsX50)
def wsX5_points : List Cond := .code yX5_points cX5_points 2 (some .int) :: ([.fieldLink RX5 41 "BellStreetModel" "points" "[I", .methodLink RX5 119 yX5_isSeen, .instanceMethod yX5_isSeen, .selects RX5 yX5_isSeen yX5_isSeen, .initialized RX5, .code yX5_isSeen cX5_isSeen 2 (some .boolean), .fieldLink RX5 68 "BellStreetModel" "thrown" "I", .methodLink RX5 79 yX5_isHouse, .static yX5_isHouse, .code yX5_isHouse cX5_isHouse 1 (some .boolean), .methodLink RX5 72 yX5_in, .static yX5_in, .code yX5_in cX5_in 3 (some .boolean)] ++ wsX50)
def wsX5_secondsRung : List Cond := .code yX5_secondsRung cX5_secondsRung 2 (some .int) :: ([.fieldLink RX5 44 "BellStreetModel" "rung" "[I", .methodLink RX5 119 yX5_isSeen, .instanceMethod yX5_isSeen, .selects RX5 yX5_isSeen yX5_isSeen, .initialized RX5, .code yX5_isSeen cX5_isSeen 2 (some .boolean), .fieldLink RX5 68 "BellStreetModel" "thrown" "I", .methodLink RX5 79 yX5_isHouse, .static yX5_isHouse, .code yX5_isHouse cX5_isHouse 1 (some .boolean), .methodLink RX5 72 yX5_in, .static yX5_in, .code yX5_in cX5_in 3 (some .boolean)] ++ wsX50)
def wsX5_quietBroken : List Cond := .code yX5_quietBroken cX5_quietBroken 2 (some .int) :: ([.fieldLink RX5 47 "BellStreetModel" "noisy" "[I", .methodLink RX5 119 yX5_isSeen, .instanceMethod yX5_isSeen, .selects RX5 yX5_isSeen yX5_isSeen, .initialized RX5, .code yX5_isSeen cX5_isSeen 2 (some .boolean), .fieldLink RX5 68 "BellStreetModel" "thrown" "I", .methodLink RX5 79 yX5_isHouse, .static yX5_isHouse, .code yX5_isHouse cX5_isHouse 1 (some .boolean), .methodLink RX5 72 yX5_in, .static yX5_in, .code yX5_in cX5_in 3 (some .boolean)] ++ wsX50)
def wsX5_hushed : List Cond := .code yX5_hushed cX5_hushed 2 (some .int) :: ([.fieldLink RX5 50 "BellStreetModel" "hushes" "[I", .methodLink RX5 119 yX5_isSeen, .instanceMethod yX5_isSeen, .selects RX5 yX5_isSeen yX5_isSeen, .initialized RX5, .code yX5_isSeen cX5_isSeen 2 (some .boolean), .fieldLink RX5 68 "BellStreetModel" "thrown" "I", .methodLink RX5 79 yX5_isHouse, .static yX5_isHouse, .code yX5_isHouse cX5_isHouse 1 (some .boolean), .methodLink RX5 72 yX5_in, .static yX5_in, .code yX5_in cX5_in 3 (some .boolean)] ++ wsX50)
def wsX5_faults : List Cond := .code yX5_faults cX5_faults 1 (some .int) :: ([.fieldLink RX5 68 "BellStreetModel" "thrown" "I", .fieldLink RX5 109 "BellStreetModel" "faults" "I"] ++ wsX50)
def wsX5_faultAt : List Cond := .code yX5_faultAt cX5_faultAt 2 (some .int) :: ([.fieldLink RX5 109 "BellStreetModel" "faults" "I", .fieldLink RX5 68 "BellStreetModel" "thrown" "I", .fieldLink RX5 65 "BellStreetModel" "told" "[I", .methodLink RX5 72 yX5_in, .static yX5_in, .initialized RX5, .code yX5_in cX5_in 3 (some .boolean)] ++ wsX50)
def wsJ9_max_7cf53 : List Cond := .code yJ9_max_7cf53 cJ9_max_7cf53 2 (some .int) :: ([])
def wsJ9_min_7cf53 : List Cond := .code yJ9_min_7cf53 cJ9_min_7cf53 2 (some .int) :: ([])
def wsL_addMelody_r1 : List Cond := [Cond.classLink RL 13 "java/lang/IndexOutOfBoundsException", Cond.classLink RL 15 "java/lang/IllegalArgumentException", Cond.classLink RL 17 "java/lang/IllegalStateException", Cond.methodLink RL 7 yX4_addMelody, Cond.instanceMethod yX4_addMelody, Cond.selects RX4 yX4_addMelody yX4_addMelody, Cond.initialized RX4, Cond.code yX4_addMelody cX4_addMelody 6 (some .int), Cond.classLink RX4 48 "java/lang/IllegalArgumentException", Cond.initialized "java/lang/IllegalArgumentException", Cond.classLink RX4 57 "java/lang/IllegalStateException", Cond.initialized "java/lang/IllegalStateException", Cond.fieldLink RX4 31 "BellStreet" "melodyCount" "I", Cond.fieldLink RX4 23 "BellStreet" "melodies" "[LBellStreet$Melody;", Cond.classLink RX4 21 RX3, Cond.instantiable RX3 4, Cond.initialized RX3, Cond.methodLink RX4 45 yX4_checkHouse, Cond.instanceMethod yX4_checkHouse, Cond.selects RX4 yX4_checkHouse yX4_checkHouse, Cond.code yX4_checkHouse cX4_checkHouse 2 none, Cond.classLink RX4 72 "java/lang/IndexOutOfBoundsException", Cond.initialized "java/lang/IndexOutOfBoundsException", Cond.methodLink RX4 62 yX3_init]
def wsL_addMelody_r2 : List Cond := [Cond.instanceMethod yX3_init, Cond.code yX3_init cX3_init 6 none, Cond.methodLink RX3 3 objectInit, Cond.instanceMethod objectInit, Cond.code objectInit ⟨#[0xb1]⟩ 1 none, Cond.fieldLink RX3 9 "BellStreet$Melody" "number" "I", Cond.fieldLink RX3 15 "BellStreet$Melody" "owner" "I", Cond.fieldLink RX3 18 "BellStreet$Melody" "count" "I", Cond.fieldLink RX3 21 "BellStreet$Melody" "tones" "J"]
def wsL_addMelody : List Cond := .codeWith yL_addMelody cL_addMelody 7 (some .int) [(0, 12, 15, 13), (0, 12, 19, 15), (0, 12, 23, 17)] :: ((wsL_addMelody_r1 ++ wsL_addMelody_r2) ++ wsX40 ++ wsX30 ++ (vx_atS RX4 52 "java/lang/IllegalArgumentException" ["java/lang/RuntimeException", "java/lang/Exception"]).filter goodWord ++ (vx_atS RX4 61 "java/lang/IllegalStateException" ["java/lang/RuntimeException", "java/lang/Exception"]).filter goodWord ++ (vx_atS RX4 76 "java/lang/IndexOutOfBoundsException" ["java/lang/RuntimeException", "java/lang/Exception"]).filter goodWord)
def wsL_toneAt : List Cond := .codeWith yL_toneAt cL_toneAt 5 (some .int) [(0, 10, 13, 13)] :: ([.classLink RL 13 "java/lang/IndexOutOfBoundsException", .methodLink RL 19 yX4_toneAt, .instanceMethod yX4_toneAt, .selects RX4 yX4_toneAt yX4_toneAt, .initialized RX4, .code yX4_toneAt cX4_toneAt 4 (some .int), .classLink RX4 72 "java/lang/IndexOutOfBoundsException", .initialized "java/lang/IndexOutOfBoundsException", .methodLink RX4 65 yX4_melodyAt, .instanceMethod yX4_melodyAt, .selects RX4 yX4_melodyAt yX4_melodyAt, .code yX4_melodyAt cX4_melodyAt 3 (some (.object "BellStreet$Melody")), .fieldLink RX4 23 "BellStreet" "melodies" "[LBellStreet$Melody;", .methodLink RX4 77 yX3_tone, .instanceMethod yX3_tone, .selects RX3 yX3_tone yX3_tone, .initialized RX3, .code yX3_tone cX3_tone 2 (some .int), .fieldLink RX3 21 "BellStreet$Melody" "tones" "J"] ++ wsX30 ++ wsX40 ++ (vx_atS RX4 76 "java/lang/IndexOutOfBoundsException" ["java/lang/RuntimeException", "java/lang/Exception"]).filter goodWord)
def wsL_shifted_r1 : List Cond := [Cond.classLink RL 13 "java/lang/IndexOutOfBoundsException", Cond.classLink RL 15 "java/lang/IllegalArgumentException", Cond.methodLink RL 23 yX4_shifted, Cond.instanceMethod yX4_shifted, Cond.selects RX4 yX4_shifted yX4_shifted, Cond.initialized RX4, Cond.code yX4_shifted cX4_shifted 4 (some .long), Cond.classLink RX4 48 "java/lang/IllegalArgumentException", Cond.initialized "java/lang/IllegalArgumentException", Cond.methodLink RX4 65 yX4_melodyAt, Cond.instanceMethod yX4_melodyAt, Cond.selects RX4 yX4_melodyAt yX4_melodyAt, Cond.code yX4_melodyAt cX4_melodyAt 3 (some (.object "BellStreet$Melody")), Cond.classLink RX4 72 "java/lang/IndexOutOfBoundsException", Cond.initialized "java/lang/IndexOutOfBoundsException", Cond.fieldLink RX4 23 "BellStreet" "melodies" "[LBellStreet$Melody;", Cond.methodLink RX4 83 yX3_tonesShifted, Cond.instanceMethod yX3_tonesShifted, Cond.selects RX3 yX3_tonesShifted yX3_tonesShifted, Cond.initialized RX3, Cond.code yX3_tonesShifted cX3_tonesShifted 5 (some .long), Cond.fieldLink RX3 18 "BellStreet$Melody" "count" "I", Cond.methodLink RX3 25 yX3_tone, Cond.instanceMethod yX3_tone]
def wsL_shifted_r2 : List Cond := [Cond.selects RX3 yX3_tone yX3_tone, Cond.code yX3_tone cX3_tone 2 (some .int), Cond.fieldLink RX3 21 "BellStreet$Melody" "tones" "J"]
def wsL_shifted : List Cond := .codeWith yL_shifted cL_shifted 5 (some .int) [(0, 9, 12, 13), (0, 9, 16, 15)] :: ((wsL_shifted_r1 ++ wsL_shifted_r2) ++ wsX40 ++ wsX30 ++ (vx_atS RX4 52 "java/lang/IllegalArgumentException" ["java/lang/RuntimeException", "java/lang/Exception"]).filter goodWord ++ (vx_atS RX4 76 "java/lang/IndexOutOfBoundsException" ["java/lang/RuntimeException", "java/lang/Exception"]).filter goodWord)
def wsL_turned : List Cond := .codeWith yL_turned cL_turned 4 (some .int) [(0, 8, 11, 13)] :: ([.classLink RL 13 "java/lang/IndexOutOfBoundsException", .methodLink RL 27 yX4_turned, .instanceMethod yX4_turned, .selects RX4 yX4_turned yX4_turned, .initialized RX4, .code yX4_turned cX4_turned 2 (some .long), .methodLink RX4 65 yX4_melodyAt, .instanceMethod yX4_melodyAt, .selects RX4 yX4_melodyAt yX4_melodyAt, .code yX4_melodyAt cX4_melodyAt 3 (some (.object "BellStreet$Melody")), .classLink RX4 72 "java/lang/IndexOutOfBoundsException", .initialized "java/lang/IndexOutOfBoundsException", .fieldLink RX4 23 "BellStreet" "melodies" "[LBellStreet$Melody;", .methodLink RX4 87 yX3_tonesTurned, .instanceMethod yX3_tonesTurned, .selects RX3 yX3_tonesTurned yX3_tonesTurned, .initialized RX3, .code yX3_tonesTurned cX3_tonesTurned 4 (some .long), .fieldLink RX3 18 "BellStreet$Melody" "count" "I", .methodLink RX3 25 yX3_tone, .instanceMethod yX3_tone, .selects RX3 yX3_tone yX3_tone, .code yX3_tone cX3_tone 2 (some .int), .fieldLink RX3 21 "BellStreet$Melody" "tones" "J"] ++ wsX40 ++ wsX30 ++ (vx_atS RX4 76 "java/lang/IndexOutOfBoundsException" ["java/lang/RuntimeException", "java/lang/Exception"]).filter goodWord)
def wsL_areAlike_r1 : List Cond := [Cond.classLink RL 13 "java/lang/IndexOutOfBoundsException", Cond.methodLink RL 31 yX4_areAlike, Cond.instanceMethod yX4_areAlike, Cond.selects RX4 yX4_areAlike yX4_areAlike, Cond.initialized RX4, Cond.code yX4_areAlike cX4_areAlike 3 (some .boolean), Cond.methodLink RX4 65 yX4_melodyAt, Cond.instanceMethod yX4_melodyAt, Cond.selects RX4 yX4_melodyAt yX4_melodyAt, Cond.code yX4_melodyAt cX4_melodyAt 3 (some (.object "BellStreet$Melody")), Cond.classLink RX4 72 "java/lang/IndexOutOfBoundsException", Cond.initialized "java/lang/IndexOutOfBoundsException", Cond.fieldLink RX4 23 "BellStreet" "melodies" "[LBellStreet$Melody;", Cond.methodLink RX4 91 yX3_isShiftOf, Cond.instanceMethod yX3_isShiftOf, Cond.selects RX3 yX3_isShiftOf yX3_isShiftOf, Cond.initialized RX3, Cond.code yX3_isShiftOf cX3_isShiftOf 3 (some .boolean), Cond.fieldLink RX3 18 "BellStreet$Melody" "count" "I", Cond.fieldLink RX3 21 "BellStreet$Melody" "tones" "J", Cond.methodLink RX3 25 yX3_tone, Cond.instanceMethod yX3_tone, Cond.selects RX3 yX3_tone yX3_tone, Cond.code yX3_tone cX3_tone 2 (some .int)]
def wsL_areAlike_r2 : List Cond := [Cond.methodLink RX3 29 yX3_tonesShifted, Cond.instanceMethod yX3_tonesShifted, Cond.selects RX3 yX3_tonesShifted yX3_tonesShifted, Cond.code yX3_tonesShifted cX3_tonesShifted 5 (some .long)]
def wsL_areAlike : List Cond := .codeWith yL_areAlike cL_areAlike 5 (some .int) [(0, 17, 20, 13)] :: ((wsL_areAlike_r1 ++ wsL_areAlike_r2) ++ wsX40 ++ wsX30 ++ (vx_atS RX4 76 "java/lang/IndexOutOfBoundsException" ["java/lang/RuntimeException", "java/lang/Exception"]).filter goodWord)
def wsL_license_r1 : List Cond := [Cond.classLink RL 13 "java/lang/IndexOutOfBoundsException", Cond.classLink RL 15 "java/lang/IllegalArgumentException", Cond.classLink RL 17 "java/lang/IllegalStateException", Cond.methodLink RL 35 yX4_license, Cond.instanceMethod yX4_license, Cond.selects RX4 yX4_license yX4_license, Cond.initialized RX4, Cond.code yX4_license cX4_license 6 (some .int), Cond.classLink RX4 48 "java/lang/IllegalArgumentException", Cond.initialized "java/lang/IllegalArgumentException", Cond.classLink RX4 57 "java/lang/IllegalStateException", Cond.initialized "java/lang/IllegalStateException", Cond.methodLink RX4 95 yX4_houseAt, Cond.instanceMethod yX4_houseAt, Cond.selects RX4 yX4_houseAt yX4_houseAt, Cond.code yX4_houseAt cX4_houseAt 2 (some (.object "BellStreet$House")), Cond.fieldLink RX4 11 "BellStreet" "houses" "[LBellStreet$House;", Cond.methodLink RX4 45 yX4_checkHouse, Cond.instanceMethod yX4_checkHouse, Cond.selects RX4 yX4_checkHouse yX4_checkHouse, Cond.code yX4_checkHouse cX4_checkHouse 2 none, Cond.classLink RX4 72 "java/lang/IndexOutOfBoundsException", Cond.initialized "java/lang/IndexOutOfBoundsException", Cond.methodLink RX4 65 yX4_melodyAt]
def wsL_license_r2 : List Cond := [Cond.instanceMethod yX4_melodyAt, Cond.selects RX4 yX4_melodyAt yX4_melodyAt, Cond.code yX4_melodyAt cX4_melodyAt 3 (some (.object "BellStreet$Melody")), Cond.fieldLink RX4 23 "BellStreet" "melodies" "[LBellStreet$Melody;"]
def wsL_license : List Cond := .codeWith yL_license cL_license 6 (some .int) [(0, 12, 15, 13), (0, 12, 19, 15), (0, 12, 23, 17)] :: ((wsL_license_r1 ++ wsL_license_r2) ++ wsX30 ++ wsX20 ++ wsX40 ++ (vx_atS RX4 52 "java/lang/IllegalArgumentException" ["java/lang/RuntimeException", "java/lang/Exception"]).filter goodWord ++ (vx_atS RX4 61 "java/lang/IllegalStateException" ["java/lang/RuntimeException", "java/lang/Exception"]).filter goodWord ++ (vx_atS RX4 76 "java/lang/IndexOutOfBoundsException" ["java/lang/RuntimeException", "java/lang/Exception"]).filter goodWord)
def wsL_setQuiet_r1 : List Cond := [Cond.classLink RL 13 "java/lang/IndexOutOfBoundsException", Cond.classLink RL 15 "java/lang/IllegalArgumentException", Cond.methodLink RL 39 yX4_setQuiet, Cond.instanceMethod yX4_setQuiet, Cond.selects RX4 yX4_setQuiet yX4_setQuiet, Cond.initialized RX4, Cond.code yX4_setQuiet cX4_setQuiet 5 (some .boolean), Cond.classLink RX4 48 "java/lang/IllegalArgumentException", Cond.initialized "java/lang/IllegalArgumentException", Cond.fieldLink RX4 38 "BellStreet" "now" "I", Cond.methodLink RX4 95 yX4_houseAt, Cond.instanceMethod yX4_houseAt, Cond.selects RX4 yX4_houseAt yX4_houseAt, Cond.code yX4_houseAt cX4_houseAt 2 (some (.object "BellStreet$House")), Cond.fieldLink RX4 11 "BellStreet" "houses" "[LBellStreet$House;", Cond.methodLink RX4 45 yX4_checkHouse, Cond.instanceMethod yX4_checkHouse, Cond.selects RX4 yX4_checkHouse yX4_checkHouse, Cond.code yX4_checkHouse cX4_checkHouse 2 none, Cond.classLink RX4 72 "java/lang/IndexOutOfBoundsException", Cond.initialized "java/lang/IndexOutOfBoundsException", Cond.methodLink RX4 119 yX2_isQuietAt, Cond.instanceMethod yX2_isQuietAt, Cond.selects RX2 yX2_isQuietAt yX2_isQuietAt]
def wsL_setQuiet_r2 : List Cond := [Cond.initialized RX2, Cond.code yX2_isQuietAt cX2_isQuietAt 2 (some .boolean), Cond.methodLink RX2 57 yX2_quietSeconds, Cond.instanceMethod yX2_quietSeconds, Cond.selects RX2 yX2_quietSeconds yX2_quietSeconds, Cond.code yX2_quietSeconds cX2_quietSeconds 5 (some .int), Cond.fieldLink RX2 25 "BellStreet$House" "quietFrom" "I", Cond.fieldLink RX2 29 "BellStreet$House" "quietTo" "I", Cond.methodLink RX2 61 yX2_shared, Cond.static yX2_shared, Cond.code yX2_shared cX2_shared 4 (some .int), Cond.methodLink RX2 65 Lib.Math.min.name, Cond.static Lib.Math.min.name, Cond.initialized "java/lang/Math", Cond.code Lib.Math.min.name Lib.Math.min.code 2 (some .int), Cond.methodLink RX2 70 Lib.Math.max.name, Cond.static Lib.Math.max.name, Cond.code Lib.Math.max.name Lib.Math.max.code 2 (some .int)]
def wsL_setQuiet : List Cond := .codeWith yL_setQuiet cL_setQuiet 6 (some .int) [(0, 19, 22, 13), (0, 19, 26, 15)] :: ((wsL_setQuiet_r1 ++ wsL_setQuiet_r2) ++ wsX20 ++ wsX40 ++ (vx_atS RX4 52 "java/lang/IllegalArgumentException" ["java/lang/RuntimeException", "java/lang/Exception"]).filter goodWord ++ (vx_atS RX4 76 "java/lang/IndexOutOfBoundsException" ["java/lang/RuntimeException", "java/lang/Exception"]).filter goodWord)
def wsL_lay_r1 : List Cond := [Cond.classLink RL 13 "java/lang/IndexOutOfBoundsException", Cond.classLink RL 15 "java/lang/IllegalArgumentException", Cond.methodLink RL 43 yX4_lay, Cond.instanceMethod yX4_lay, Cond.selects RX4 yX4_lay yX4_lay, Cond.initialized RX4, Cond.code yX4_lay cX4_lay 8 (some .int), Cond.classLink RX4 48 "java/lang/IllegalArgumentException", Cond.initialized "java/lang/IllegalArgumentException", Cond.methodLink RX4 123 yX4_bellAt, Cond.instanceMethod yX4_bellAt, Cond.selects RX4 yX4_bellAt yX4_bellAt, Cond.code yX4_bellAt cX4_bellAt 4 (some (.object "BellStreet$Bell")), Cond.classLink RX4 72 "java/lang/IndexOutOfBoundsException", Cond.initialized "java/lang/IndexOutOfBoundsException", Cond.methodLink RX4 95 yX4_houseAt, Cond.instanceMethod yX4_houseAt, Cond.selects RX4 yX4_houseAt yX4_houseAt, Cond.code yX4_houseAt cX4_houseAt 2 (some (.object "BellStreet$House")), Cond.fieldLink RX4 11 "BellStreet" "houses" "[LBellStreet$House;", Cond.methodLink RX4 45 yX4_checkHouse, Cond.instanceMethod yX4_checkHouse, Cond.selects RX4 yX4_checkHouse yX4_checkHouse, Cond.code yX4_checkHouse cX4_checkHouse 2 none]
def wsL_lay_r2 : List Cond := [Cond.methodLink RX4 65 yX4_melodyAt, Cond.instanceMethod yX4_melodyAt, Cond.selects RX4 yX4_melodyAt yX4_melodyAt, Cond.code yX4_melodyAt cX4_melodyAt 3 (some (.object "BellStreet$Melody")), Cond.fieldLink RX4 23 "BellStreet" "melodies" "[LBellStreet$Melody;"]
def wsL_lay : List Cond := .codeWith yL_lay cL_lay 7 (some .int) [(0, 14, 17, 13), (0, 14, 21, 15)] :: ((wsL_lay_r1 ++ wsL_lay_r2) ++ wsX00 ++ wsX30 ++ wsX20 ++ wsX40 ++ (vx_atS RX4 52 "java/lang/IllegalArgumentException" ["java/lang/RuntimeException", "java/lang/Exception"]).filter goodWord ++ (vx_atS RX4 76 "java/lang/IndexOutOfBoundsException" ["java/lang/RuntimeException", "java/lang/Exception"]).filter goodWord)
def wsL_press_r1 : List Cond := [Cond.classLink RL 13 "java/lang/IndexOutOfBoundsException", Cond.classLink RL 17 "java/lang/IllegalStateException", Cond.methodLink RL 47 yX4_press, Cond.instanceMethod yX4_press, Cond.selects RX4 yX4_press yX4_press, Cond.initialized RX4, Cond.code yX4_press cX4_press 6 (some .int), Cond.classLink RX4 57 "java/lang/IllegalStateException", Cond.initialized "java/lang/IllegalStateException", Cond.fieldLink RX4 38 "BellStreet" "now" "I", Cond.methodLink RX4 95 yX4_houseAt, Cond.instanceMethod yX4_houseAt, Cond.selects RX4 yX4_houseAt yX4_houseAt, Cond.code yX4_houseAt cX4_houseAt 2 (some (.object "BellStreet$House")), Cond.fieldLink RX4 11 "BellStreet" "houses" "[LBellStreet$House;", Cond.methodLink RX4 45 yX4_checkHouse, Cond.instanceMethod yX4_checkHouse, Cond.selects RX4 yX4_checkHouse yX4_checkHouse, Cond.code yX4_checkHouse cX4_checkHouse 2 none, Cond.classLink RX4 72 "java/lang/IndexOutOfBoundsException", Cond.initialized "java/lang/IndexOutOfBoundsException", Cond.methodLink RX4 123 yX4_bellAt, Cond.instanceMethod yX4_bellAt, Cond.selects RX4 yX4_bellAt yX4_bellAt]
def wsL_press_r2 : List Cond := [Cond.code yX4_bellAt cX4_bellAt 4 (some (.object "BellStreet$Bell")), Cond.methodLink RX4 119 yX2_isQuietAt, Cond.instanceMethod yX2_isQuietAt, Cond.selects RX2 yX2_isQuietAt yX2_isQuietAt, Cond.initialized RX2, Cond.code yX2_isQuietAt cX2_isQuietAt 2 (some .boolean), Cond.methodLink RX2 57 yX2_quietSeconds, Cond.instanceMethod yX2_quietSeconds, Cond.selects RX2 yX2_quietSeconds yX2_quietSeconds, Cond.code yX2_quietSeconds cX2_quietSeconds 5 (some .int), Cond.fieldLink RX2 25 "BellStreet$House" "quietFrom" "I", Cond.fieldLink RX2 29 "BellStreet$House" "quietTo" "I", Cond.methodLink RX2 61 yX2_shared, Cond.static yX2_shared, Cond.code yX2_shared cX2_shared 4 (some .int), Cond.methodLink RX2 65 Lib.Math.min.name, Cond.static Lib.Math.min.name, Cond.initialized "java/lang/Math", Cond.code Lib.Math.min.name Lib.Math.min.code 2 (some .int), Cond.methodLink RX2 70 Lib.Math.max.name, Cond.static Lib.Math.max.name, Cond.code Lib.Math.max.name Lib.Math.max.code 2 (some .int), Cond.methodLink RX4 153 yX2_mayRing, Cond.instanceMethod yX2_mayRing]
def wsL_press_r3 : List Cond := [Cond.selects RX2 yX2_mayRing yX2_mayRing, Cond.code yX2_mayRing cX2_mayRing 2 (some .boolean), Cond.fieldLink RX2 50 "BellStreet$House" "number" "I", Cond.fieldLink RX2 17 "BellStreet$House" "rights" "[I", Cond.methodLink RX4 156 yX2_ringingLoad, Cond.instanceMethod yX2_ringingLoad, Cond.selects RX2 yX2_ringingLoad yX2_ringingLoad, Cond.code yX2_ringingLoad cX2_ringingLoad 6 (some .int), Cond.fieldLink RX2 11 "BellStreet$House" "bells" "[LBellStreet$Bell;", Cond.methodLink RX4 160 yX2_breakDown, Cond.instanceMethod yX2_breakDown, Cond.selects RX2 yX2_breakDown yX2_breakDown, Cond.code yX2_breakDown cX2_breakDown 5 none, Cond.fieldLink RX2 21 "BellStreet$House" "sound" "Z", Cond.methodLink RX4 163 yX2_useRight, Cond.instanceMethod yX2_useRight, Cond.selects RX2 yX2_useRight yX2_useRight, Cond.code yX2_useRight cX2_useRight 2 none, Cond.methodLink RX4 167 yX3_lasts, Cond.instanceMethod yX3_lasts, Cond.selects RX3 yX3_lasts yX3_lasts, Cond.initialized RX3, Cond.code yX3_lasts cX3_lasts 1 (some .int), Cond.fieldLink RX3 18 "BellStreet$Melody" "count" "I"]
def wsL_press_r4 : List Cond := [Cond.methodLink RX4 170 yX0_ringUntil, Cond.instanceMethod yX0_ringUntil, Cond.selects RX0 yX0_ringUntil yX0_ringUntil, Cond.initialized RX0, Cond.code yX0_ringUntil cX0_ringUntil 2 none, Cond.fieldLink RX0 17 "BellStreet$Bell" "isRinging" "Z", Cond.fieldLink RX0 21 "BellStreet$Bell" "stopsAt" "I"]
def wsL_press : List Cond := .codeWith yL_press cL_press 5 (some .int) [(0, 10, 13, 13), (0, 10, 17, 17)] :: ((wsL_press_r1 ++ (wsL_press_r2 ++ (wsL_press_r3 ++ wsL_press_r4))) ++ wsX00 ++ wsX20 ++ wsX40 ++ wsX30 ++ (vx_atS RX4 61 "java/lang/IllegalStateException" ["java/lang/RuntimeException", "java/lang/Exception"]).filter goodWord ++ (vx_atS RX4 76 "java/lang/IndexOutOfBoundsException" ["java/lang/RuntimeException", "java/lang/Exception"]).filter goodWord)
def wsL_fault_r1 : List Cond := [Cond.classLink RL 13 "java/lang/IndexOutOfBoundsException", Cond.classLink RL 17 "java/lang/IllegalStateException", Cond.methodLink RL 50 yX4_fault, Cond.instanceMethod yX4_fault, Cond.selects RX4 yX4_fault yX4_fault, Cond.initialized RX4, Cond.code yX4_fault cX4_fault 8 (some .int), Cond.classLink RX4 57 "java/lang/IllegalStateException", Cond.initialized "java/lang/IllegalStateException", Cond.fieldLink RX4 35 "BellStreet" "faultCount" "I", Cond.fieldLink RX4 11 "BellStreet" "houses" "[LBellStreet$House;", Cond.fieldLink RX4 38 "BellStreet" "now" "I", Cond.fieldLink RX4 27 "BellStreet" "toldFaults" "[I", Cond.methodLink RX4 95 yX4_houseAt, Cond.instanceMethod yX4_houseAt, Cond.selects RX4 yX4_houseAt yX4_houseAt, Cond.code yX4_houseAt cX4_houseAt 2 (some (.object "BellStreet$House")), Cond.methodLink RX4 45 yX4_checkHouse, Cond.instanceMethod yX4_checkHouse, Cond.selects RX4 yX4_checkHouse yX4_checkHouse, Cond.code yX4_checkHouse cX4_checkHouse 2 none, Cond.classLink RX4 72 "java/lang/IndexOutOfBoundsException", Cond.initialized "java/lang/IndexOutOfBoundsException", Cond.methodLink RX4 180 yX2_startBells]
def wsL_fault_r2 : List Cond := [Cond.instanceMethod yX2_startBells, Cond.selects RX2 yX2_startBells yX2_startBells, Cond.initialized RX2, Cond.code yX2_startBells cX2_startBells 7 (some .int), Cond.fieldLink RX2 11 "BellStreet$House" "bells" "[LBellStreet$Bell;", Cond.methodLink RX2 89 yX3_lasts, Cond.instanceMethod yX3_lasts, Cond.selects RX3 yX3_lasts yX3_lasts, Cond.initialized RX3, Cond.code yX3_lasts cX3_lasts 1 (some .int), Cond.fieldLink RX3 18 "BellStreet$Melody" "count" "I", Cond.methodLink RX2 93 yX0_ringUntil, Cond.instanceMethod yX0_ringUntil, Cond.selects RX0 yX0_ringUntil yX0_ringUntil, Cond.initialized RX0, Cond.code yX0_ringUntil cX0_ringUntil 2 none, Cond.fieldLink RX0 17 "BellStreet$Bell" "isRinging" "Z", Cond.fieldLink RX0 21 "BellStreet$Bell" "stopsAt" "I", Cond.methodLink RX4 160 yX2_breakDown, Cond.instanceMethod yX2_breakDown, Cond.selects RX2 yX2_breakDown yX2_breakDown, Cond.code yX2_breakDown cX2_breakDown 5 none, Cond.fieldLink RX2 21 "BellStreet$House" "sound" "Z"]
def wsL_fault : List Cond := .codeWith yL_fault cL_fault 4 (some .int) [(0, 9, 12, 13), (0, 9, 15, 17)] :: ((wsL_fault_r1 ++ wsL_fault_r2) ++ wsX20 ++ wsX40 ++ wsX00 ++ wsX30 ++ (vx_atS RX4 61 "java/lang/IllegalStateException" ["java/lang/RuntimeException", "java/lang/Exception"]).filter goodWord ++ (vx_atS RX4 76 "java/lang/IndexOutOfBoundsException" ["java/lang/RuntimeException", "java/lang/Exception"]).filter goodWord)
def wsL_repair : List Cond := .codeWith yL_repair cL_repair 4 (some .int) [(0, 9, 12, 13), (0, 9, 15, 17)] :: ([.classLink RL 13 "java/lang/IndexOutOfBoundsException", .classLink RL 17 "java/lang/IllegalStateException", .methodLink RL 54 yX4_repair, .instanceMethod yX4_repair, .selects RX4 yX4_repair yX4_repair, .initialized RX4, .code yX4_repair cX4_repair 4 (some .int), .classLink RX4 57 "java/lang/IllegalStateException", .initialized "java/lang/IllegalStateException", .fieldLink RX4 17 "BellStreet" "crews" "[LBellStreet$Crew;", .fieldLink RX4 38 "BellStreet" "now" "I", .methodLink RX4 95 yX4_houseAt, .instanceMethod yX4_houseAt, .selects RX4 yX4_houseAt yX4_houseAt, .code yX4_houseAt cX4_houseAt 2 (some (.object "BellStreet$House")), .fieldLink RX4 11 "BellStreet" "houses" "[LBellStreet$House;", .methodLink RX4 45 yX4_checkHouse, .instanceMethod yX4_checkHouse, .selects RX4 yX4_checkHouse yX4_checkHouse, .code yX4_checkHouse cX4_checkHouse 2 none, .classLink RX4 72 "java/lang/IndexOutOfBoundsException", .initialized "java/lang/IndexOutOfBoundsException"] ++ wsX40 ++ wsX20 ++ wsX10 ++ (vx_atS RX4 61 "java/lang/IllegalStateException" ["java/lang/RuntimeException", "java/lang/Exception"]).filter goodWord ++ (vx_atS RX4 76 "java/lang/IndexOutOfBoundsException" ["java/lang/RuntimeException", "java/lang/Exception"]).filter goodWord)
def wsL_pass_r1 : List Cond := [Cond.classLink RL 15 "java/lang/IllegalArgumentException", Cond.classLink RL 17 "java/lang/IllegalStateException", Cond.methodLink RL 57 yX4_pass, Cond.instanceMethod yX4_pass, Cond.selects RX4 yX4_pass yX4_pass, Cond.initialized RX4, Cond.code yX4_pass cX4_pass 4 (some .int), Cond.classLink RX4 48 "java/lang/IllegalArgumentException", Cond.initialized "java/lang/IllegalArgumentException", Cond.classLink RX4 57 "java/lang/IllegalStateException", Cond.initialized "java/lang/IllegalStateException", Cond.fieldLink RX4 38 "BellStreet" "now" "I", Cond.constant RX4 199 (1000000), Cond.methodLink RX4 202 yX4_nextChange, Cond.instanceMethod yX4_nextChange, Cond.selects RX4 yX4_nextChange yX4_nextChange, Cond.code yX4_nextChange cX4_nextChange 7 (some .int), Cond.methodLink RX4 232 Lib.Math.min.name, Cond.static Lib.Math.min.name, Cond.initialized "java/lang/Math", Cond.code Lib.Math.min.name Lib.Math.min.code 2 (some .int), Cond.fieldLink RX4 11 "BellStreet" "houses" "[LBellStreet$House;", Cond.fieldLink RX4 17 "BellStreet" "crews" "[LBellStreet$Crew;", Cond.methodLink RX4 238 yX2_firstStop]
def wsL_pass_r2 : List Cond := [Cond.instanceMethod yX2_firstStop, Cond.selects RX2 yX2_firstStop yX2_firstStop, Cond.initialized RX2, Cond.code yX2_firstStop cX2_firstStop 7 (some .int), Cond.fieldLink RX2 11 "BellStreet$House" "bells" "[LBellStreet$Bell;", Cond.methodLink RX4 205 yX4_passStretch, Cond.instanceMethod yX4_passStretch, Cond.selects RX4 yX4_passStretch yX4_passStretch, Cond.code yX4_passStretch cX4_passStretch 6 none, Cond.methodLink RX4 241 yX2_spend, Cond.instanceMethod yX2_spend, Cond.selects RX2 yX2_spend yX2_spend, Cond.code yX2_spend cX2_spend 4 none, Cond.fieldLink RX2 35 "BellStreet$House" "rungSeconds" "I", Cond.fieldLink RX2 38 "BellStreet$House" "rungQuietSeconds" "I", Cond.fieldLink RX2 47 "BellStreet$House" "keptQuietToday" "Z", Cond.methodLink RX2 100 yX2_ringingSet, Cond.instanceMethod yX2_ringingSet, Cond.selects RX2 yX2_ringingSet yX2_ringingSet, Cond.code yX2_ringingSet cX2_ringingSet 3 (some .int), Cond.methodLink RX2 57 yX2_quietSeconds, Cond.instanceMethod yX2_quietSeconds, Cond.selects RX2 yX2_quietSeconds yX2_quietSeconds, Cond.code yX2_quietSeconds cX2_quietSeconds 5 (some .int)]
def wsL_pass_r3 : List Cond := [Cond.fieldLink RX2 25 "BellStreet$House" "quietFrom" "I", Cond.fieldLink RX2 29 "BellStreet$House" "quietTo" "I", Cond.methodLink RX2 61 yX2_shared, Cond.static yX2_shared, Cond.code yX2_shared cX2_shared 4 (some .int), Cond.methodLink RX2 65 Lib.Math.min.name, Cond.methodLink RX2 70 Lib.Math.max.name, Cond.static Lib.Math.max.name, Cond.code Lib.Math.max.name Lib.Math.max.code 2 (some .int), Cond.methodLink RX4 245 yX2_stopEndedBells, Cond.instanceMethod yX2_stopEndedBells, Cond.selects RX2 yX2_stopEndedBells yX2_stopEndedBells, Cond.code yX2_stopEndedBells cX2_stopEndedBells 6 none, Cond.methodLink RX4 248 yX1_finish, Cond.instanceMethod yX1_finish, Cond.selects RX1 yX1_finish yX1_finish, Cond.initialized RX1, Cond.code yX1_finish cX1_finish 2 none, Cond.fieldLink RX1 7 "BellStreet$Crew" "goal" "LBellStreet$House;", Cond.fieldLink RX1 13 "BellStreet$Crew" "doneAt" "I", Cond.methodLink RX4 251 yX2_closeDay, Cond.instanceMethod yX2_closeDay, Cond.selects RX2 yX2_closeDay yX2_closeDay, Cond.code yX2_closeDay cX2_closeDay 1 none]
def wsL_pass_r4 : List Cond := [Cond.fieldLink RX2 32 "BellStreet$House" "score" "I", Cond.fieldLink RX2 44 "BellStreet$House" "faultsOfTheDay" "I"]
def wsL_pass : List Cond := .codeWith yL_pass cL_pass 4 (some .int) [(0, 9, 12, 15), (0, 9, 15, 17)] :: ((wsL_pass_r1 ++ (wsL_pass_r2 ++ (wsL_pass_r3 ++ wsL_pass_r4))) ++ wsX40 ++ wsX10 ++ wsX20 ++ wsX00 ++ (vx_atS RX4 52 "java/lang/IllegalArgumentException" ["java/lang/RuntimeException", "java/lang/Exception"]).filter goodWord ++ (vx_atS RX4 61 "java/lang/IllegalStateException" ["java/lang/RuntimeException", "java/lang/Exception"]).filter goodWord)
def wsL_ringing : List Cond := .codeWith yL_ringing cL_ringing 4 (some .int) [(0, 9, 12, 13)] :: ([.classLink RL 13 "java/lang/IndexOutOfBoundsException", .methodLink RL 60 yX4_ringing, .instanceMethod yX4_ringing, .selects RX4 yX4_ringing yX4_ringing, .initialized RX4, .code yX4_ringing cX4_ringing 2 (some .int), .methodLink RX4 95 yX4_houseAt, .instanceMethod yX4_houseAt, .selects RX4 yX4_houseAt yX4_houseAt, .code yX4_houseAt cX4_houseAt 2 (some (.object "BellStreet$House")), .fieldLink RX4 11 "BellStreet" "houses" "[LBellStreet$House;", .methodLink RX4 45 yX4_checkHouse, .instanceMethod yX4_checkHouse, .selects RX4 yX4_checkHouse yX4_checkHouse, .code yX4_checkHouse cX4_checkHouse 2 none, .classLink RX4 72 "java/lang/IndexOutOfBoundsException", .initialized "java/lang/IndexOutOfBoundsException", .methodLink RX4 208 yX2_ringingSet, .instanceMethod yX2_ringingSet, .selects RX2 yX2_ringingSet yX2_ringingSet, .initialized RX2, .code yX2_ringingSet cX2_ringingSet 3 (some .int), .fieldLink RX2 11 "BellStreet$House" "bells" "[LBellStreet$Bell;"] ++ wsX40 ++ wsX20 ++ wsX00 ++ (vx_atS RX4 76 "java/lang/IndexOutOfBoundsException" ["java/lang/RuntimeException", "java/lang/Exception"]).filter goodWord)
def wsL_isSound : List Cond := .codeWith yL_isSound cL_isSound 4 (some .int) [(0, 16, 19, 13)] :: ([.classLink RL 13 "java/lang/IndexOutOfBoundsException", .methodLink RL 63 yX4_isSound, .instanceMethod yX4_isSound, .selects RX4 yX4_isSound yX4_isSound, .initialized RX4, .code yX4_isSound cX4_isSound 2 (some .boolean), .methodLink RX4 95 yX4_houseAt, .instanceMethod yX4_houseAt, .selects RX4 yX4_houseAt yX4_houseAt, .code yX4_houseAt cX4_houseAt 2 (some (.object "BellStreet$House")), .fieldLink RX4 11 "BellStreet" "houses" "[LBellStreet$House;", .methodLink RX4 45 yX4_checkHouse, .instanceMethod yX4_checkHouse, .selects RX4 yX4_checkHouse yX4_checkHouse, .code yX4_checkHouse cX4_checkHouse 2 none, .classLink RX4 72 "java/lang/IndexOutOfBoundsException", .initialized "java/lang/IndexOutOfBoundsException"] ++ wsX20 ++ wsX40 ++ (vx_atS RX4 76 "java/lang/IndexOutOfBoundsException" ["java/lang/RuntimeException", "java/lang/Exception"]).filter goodWord)
def wsL_ringsLeft : List Cond := .codeWith yL_ringsLeft cL_ringsLeft 5 (some .int) [(0, 10, 13, 13)] :: ([.classLink RL 13 "java/lang/IndexOutOfBoundsException", .methodLink RL 67 yX4_ringsLeft, .instanceMethod yX4_ringsLeft, .selects RX4 yX4_ringsLeft yX4_ringsLeft, .initialized RX4, .code yX4_ringsLeft cX4_ringsLeft 4 (some .int), .methodLink RX4 95 yX4_houseAt, .instanceMethod yX4_houseAt, .selects RX4 yX4_houseAt yX4_houseAt, .code yX4_houseAt cX4_houseAt 2 (some (.object "BellStreet$House")), .fieldLink RX4 11 "BellStreet" "houses" "[LBellStreet$House;", .methodLink RX4 45 yX4_checkHouse, .instanceMethod yX4_checkHouse, .selects RX4 yX4_checkHouse yX4_checkHouse, .code yX4_checkHouse cX4_checkHouse 2 none, .classLink RX4 72 "java/lang/IndexOutOfBoundsException", .initialized "java/lang/IndexOutOfBoundsException", .methodLink RX4 65 yX4_melodyAt, .instanceMethod yX4_melodyAt, .selects RX4 yX4_melodyAt yX4_melodyAt, .code yX4_melodyAt cX4_melodyAt 3 (some (.object "BellStreet$Melody")), .fieldLink RX4 23 "BellStreet" "melodies" "[LBellStreet$Melody;"] ++ wsX30 ++ wsX20 ++ wsX40 ++ (vx_atS RX4 76 "java/lang/IndexOutOfBoundsException" ["java/lang/RuntimeException", "java/lang/Exception"]).filter goodWord)
def wsL_points : List Cond := .codeWith yL_points cL_points 4 (some .int) [(0, 9, 12, 13)] :: ([.classLink RL 13 "java/lang/IndexOutOfBoundsException", .methodLink RL 70 yX4_points, .instanceMethod yX4_points, .selects RX4 yX4_points yX4_points, .initialized RX4, .code yX4_points cX4_points 2 (some .int), .methodLink RX4 95 yX4_houseAt, .instanceMethod yX4_houseAt, .selects RX4 yX4_houseAt yX4_houseAt, .code yX4_houseAt cX4_houseAt 2 (some (.object "BellStreet$House")), .fieldLink RX4 11 "BellStreet" "houses" "[LBellStreet$House;", .methodLink RX4 45 yX4_checkHouse, .instanceMethod yX4_checkHouse, .selects RX4 yX4_checkHouse yX4_checkHouse, .code yX4_checkHouse cX4_checkHouse 2 none, .classLink RX4 72 "java/lang/IndexOutOfBoundsException", .initialized "java/lang/IndexOutOfBoundsException"] ++ wsX20 ++ wsX40 ++ (vx_atS RX4 76 "java/lang/IndexOutOfBoundsException" ["java/lang/RuntimeException", "java/lang/Exception"]).filter goodWord)
def wsL_secondsRung : List Cond := .codeWith yL_secondsRung cL_secondsRung 4 (some .int) [(0, 9, 12, 13)] :: ([.classLink RL 13 "java/lang/IndexOutOfBoundsException", .methodLink RL 73 yX4_secondsRung, .instanceMethod yX4_secondsRung, .selects RX4 yX4_secondsRung yX4_secondsRung, .initialized RX4, .code yX4_secondsRung cX4_secondsRung 2 (some .int), .methodLink RX4 95 yX4_houseAt, .instanceMethod yX4_houseAt, .selects RX4 yX4_houseAt yX4_houseAt, .code yX4_houseAt cX4_houseAt 2 (some (.object "BellStreet$House")), .fieldLink RX4 11 "BellStreet" "houses" "[LBellStreet$House;", .methodLink RX4 45 yX4_checkHouse, .instanceMethod yX4_checkHouse, .selects RX4 yX4_checkHouse yX4_checkHouse, .code yX4_checkHouse cX4_checkHouse 2 none, .classLink RX4 72 "java/lang/IndexOutOfBoundsException", .initialized "java/lang/IndexOutOfBoundsException"] ++ wsX20 ++ wsX40 ++ (vx_atS RX4 76 "java/lang/IndexOutOfBoundsException" ["java/lang/RuntimeException", "java/lang/Exception"]).filter goodWord)
def wsL_quietBroken : List Cond := .codeWith yL_quietBroken cL_quietBroken 4 (some .int) [(0, 9, 12, 13)] :: ([.classLink RL 13 "java/lang/IndexOutOfBoundsException", .methodLink RL 76 yX4_quietBroken, .instanceMethod yX4_quietBroken, .selects RX4 yX4_quietBroken yX4_quietBroken, .initialized RX4, .code yX4_quietBroken cX4_quietBroken 2 (some .int), .methodLink RX4 95 yX4_houseAt, .instanceMethod yX4_houseAt, .selects RX4 yX4_houseAt yX4_houseAt, .code yX4_houseAt cX4_houseAt 2 (some (.object "BellStreet$House")), .fieldLink RX4 11 "BellStreet" "houses" "[LBellStreet$House;", .methodLink RX4 45 yX4_checkHouse, .instanceMethod yX4_checkHouse, .selects RX4 yX4_checkHouse yX4_checkHouse, .code yX4_checkHouse cX4_checkHouse 2 none, .classLink RX4 72 "java/lang/IndexOutOfBoundsException", .initialized "java/lang/IndexOutOfBoundsException"] ++ wsX20 ++ wsX40 ++ (vx_atS RX4 76 "java/lang/IndexOutOfBoundsException" ["java/lang/RuntimeException", "java/lang/Exception"]).filter goodWord)
def wsL_hushed : List Cond := .codeWith yL_hushed cL_hushed 4 (some .int) [(0, 9, 12, 13)] :: ([.classLink RL 13 "java/lang/IndexOutOfBoundsException", .methodLink RL 79 yX4_hushed, .instanceMethod yX4_hushed, .selects RX4 yX4_hushed yX4_hushed, .initialized RX4, .code yX4_hushed cX4_hushed 2 (some .int), .methodLink RX4 95 yX4_houseAt, .instanceMethod yX4_houseAt, .selects RX4 yX4_houseAt yX4_houseAt, .code yX4_houseAt cX4_houseAt 2 (some (.object "BellStreet$House")), .fieldLink RX4 11 "BellStreet" "houses" "[LBellStreet$House;", .methodLink RX4 45 yX4_checkHouse, .instanceMethod yX4_checkHouse, .selects RX4 yX4_checkHouse yX4_checkHouse, .code yX4_checkHouse cX4_checkHouse 2 none, .classLink RX4 72 "java/lang/IndexOutOfBoundsException", .initialized "java/lang/IndexOutOfBoundsException"] ++ wsX20 ++ wsX40 ++ (vx_atS RX4 76 "java/lang/IndexOutOfBoundsException" ["java/lang/RuntimeException", "java/lang/Exception"]).filter goodWord)
def wsL_faultAt : List Cond := .codeWith yL_faultAt cL_faultAt 4 (some .int) [(0, 9, 12, 13)] :: ([.classLink RL 13 "java/lang/IndexOutOfBoundsException", .methodLink RL 82 yX4_faultAt, .instanceMethod yX4_faultAt, .selects RX4 yX4_faultAt yX4_faultAt, .initialized RX4, .code yX4_faultAt cX4_faultAt 2 (some .int), .classLink RX4 72 "java/lang/IndexOutOfBoundsException", .initialized "java/lang/IndexOutOfBoundsException", .fieldLink RX4 35 "BellStreet" "faultCount" "I", .fieldLink RX4 27 "BellStreet" "toldFaults" "[I"] ++ wsX40 ++ (vx_atS RX4 76 "java/lang/IndexOutOfBoundsException" ["java/lang/RuntimeException", "java/lang/Exception"]).filter goodWord)
def wsL_law0_r1 : List Cond := [Cond.classLink RL 8 RX4, Cond.instantiable RX4 7, Cond.initialized RX4, Cond.classLink RL 86 RX5, Cond.instantiable RX5 23, Cond.initialized RX5, Cond.arrayClass .long, Cond.constantLong RL 89 (4294967295), Cond.methodLink RL 85 yX4_init, Cond.instanceMethod yX4_init, Cond.code yX4_init cX4_init 2 none, Cond.methodLink RX4 1 objectInit, Cond.instanceMethod objectInit, Cond.code objectInit ⟨#[0xb1]⟩ 1 none, Cond.classLink RX4 9 RX2, Cond.fieldLink RX4 11 "BellStreet" "houses" "[LBellStreet$House;", Cond.classLink RX4 15 RX1, Cond.fieldLink RX4 17 "BellStreet" "crews" "[LBellStreet$Crew;", Cond.classLink RX4 21 RX3, Cond.fieldLink RX4 23 "BellStreet" "melodies" "[LBellStreet$Melody;", Cond.arrayClass .int, Cond.fieldLink RX4 27 "BellStreet" "toldFaults" "[I", Cond.fieldLink RX4 31 "BellStreet" "melodyCount" "I", Cond.fieldLink RX4 35 "BellStreet" "faultCount" "I"]
def wsL_law0_r2 : List Cond := [Cond.fieldLink RX4 38 "BellStreet" "now" "I", Cond.instantiable RX2 13, Cond.initialized RX2, Cond.instantiable RX1 2, Cond.initialized RX1, Cond.methodLink RX4 41 yX2_init, Cond.instanceMethod yX2_init, Cond.code yX2_init cX2_init 3 none, Cond.methodLink RX2 3 objectInit, Cond.classLink RX2 9 RX0, Cond.fieldLink RX2 11 "BellStreet$House" "bells" "[LBellStreet$Bell;", Cond.fieldLink RX2 17 "BellStreet$House" "rights" "[I", Cond.fieldLink RX2 21 "BellStreet$House" "sound" "Z", Cond.fieldLink RX2 25 "BellStreet$House" "quietFrom" "I", Cond.fieldLink RX2 29 "BellStreet$House" "quietTo" "I", Cond.fieldLink RX2 32 "BellStreet$House" "score" "I", Cond.fieldLink RX2 35 "BellStreet$House" "rungSeconds" "I", Cond.fieldLink RX2 38 "BellStreet$House" "rungQuietSeconds" "I", Cond.fieldLink RX2 41 "BellStreet$House" "hushedPresses" "I", Cond.fieldLink RX2 44 "BellStreet$House" "faultsOfTheDay" "I", Cond.fieldLink RX2 47 "BellStreet$House" "keptQuietToday" "Z", Cond.fieldLink RX2 50 "BellStreet$House" "number" "I", Cond.fieldLink RX2 53 "BellStreet$House" "street" "I", Cond.instantiable RX0 4]
def wsL_law0_r3 : List Cond := [Cond.initialized RX0, Cond.instanceMethod yX0_init, Cond.code yX0_init cX0_init 1 none, Cond.methodLink RX0 1 objectInit, Cond.fieldLink RX0 7 "BellStreet$Bell" "melody" "LBellStreet$Melody;", Cond.fieldLink RX0 13 "BellStreet$Bell" "load" "I", Cond.fieldLink RX0 17 "BellStreet$Bell" "isRinging" "Z", Cond.fieldLink RX0 21 "BellStreet$Bell" "stopsAt" "I", Cond.instanceMethod yX1_init, Cond.code yX1_init cX1_init 1 none, Cond.methodLink RX1 1 objectInit, Cond.fieldLink RX1 7 "BellStreet$Crew" "goal" "LBellStreet$House;", Cond.fieldLink RX1 13 "BellStreet$Crew" "doneAt" "I", Cond.methodLink RL 88 yX5_init, Cond.instanceMethod yX5_init, Cond.code yX5_init cX5_init 2 none, Cond.methodLink RX5 1 objectInit, Cond.fieldLink RX5 7 "BellStreetModel" "owners" "[I", Cond.fieldLink RX5 13 "BellStreetModel" "counts" "[I", Cond.fieldLink RX5 16 "BellStreetModel" "tones" "[J", Cond.fieldLink RX5 20 "BellStreetModel" "laid" "[I", Cond.fieldLink RX5 23 "BellStreetModel" "loads" "[I", Cond.fieldLink RX5 26 "BellStreetModel" "ends" "[I", Cond.fieldLink RX5 29 "BellStreetModel" "left" "[I"]
def wsL_law0_r4 : List Cond := [Cond.fieldLink RX5 32 "BellStreetModel" "froms" "[I", Cond.fieldLink RX5 35 "BellStreetModel" "tos" "[I", Cond.fieldLink RX5 38 "BellStreetModel" "broken" "[I", Cond.fieldLink RX5 41 "BellStreetModel" "points" "[I", Cond.fieldLink RX5 44 "BellStreetModel" "rung" "[I", Cond.fieldLink RX5 47 "BellStreetModel" "noisy" "[I", Cond.fieldLink RX5 50 "BellStreetModel" "hushes" "[I", Cond.fieldLink RX5 53 "BellStreetModel" "loud" "[I", Cond.fieldLink RX5 56 "BellStreetModel" "faultsOfDay" "[I", Cond.fieldLink RX5 59 "BellStreetModel" "done" "[I", Cond.fieldLink RX5 62 "BellStreetModel" "goal" "[I", Cond.fieldLink RX5 65 "BellStreetModel" "told" "[I", Cond.methodLink RL 91 yL_addMelody, Cond.static yL_addMelody, Cond.initialized RL, Cond.codeWith yL_addMelody cL_addMelody 7 (some .int) [(0, 12, 15, 13), (0, 12, 19, 15), (0, 12, 23, 17)], Cond.classLink RL 13 "java/lang/IndexOutOfBoundsException", Cond.classLink RL 15 "java/lang/IllegalArgumentException", Cond.classLink RL 17 "java/lang/IllegalStateException", Cond.methodLink RL 7 yX4_addMelody, Cond.instanceMethod yX4_addMelody, Cond.selects RX4 yX4_addMelody yX4_addMelody, Cond.code yX4_addMelody cX4_addMelody 6 (some .int), Cond.classLink RX4 48 "java/lang/IllegalArgumentException"]
def wsL_law0_r5 : List Cond := [Cond.initialized "java/lang/IllegalArgumentException", Cond.classLink RX4 57 "java/lang/IllegalStateException", Cond.initialized "java/lang/IllegalStateException", Cond.instantiable RX3 4, Cond.initialized RX3, Cond.methodLink RX4 45 yX4_checkHouse, Cond.instanceMethod yX4_checkHouse, Cond.selects RX4 yX4_checkHouse yX4_checkHouse, Cond.code yX4_checkHouse cX4_checkHouse 2 none, Cond.classLink RX4 72 "java/lang/IndexOutOfBoundsException", Cond.initialized "java/lang/IndexOutOfBoundsException", Cond.methodLink RX4 62 yX3_init, Cond.instanceMethod yX3_init, Cond.code yX3_init cX3_init 6 none, Cond.methodLink RX3 3 objectInit, Cond.fieldLink RX3 9 "BellStreet$Melody" "number" "I", Cond.fieldLink RX3 15 "BellStreet$Melody" "owner" "I", Cond.fieldLink RX3 18 "BellStreet$Melody" "count" "I", Cond.fieldLink RX3 21 "BellStreet$Melody" "tones" "J", Cond.methodLink RL 96 yX5_addMelody, Cond.instanceMethod yX5_addMelody, Cond.selects RX5 yX5_addMelody yX5_addMelody, Cond.code yX5_addMelody cX5_addMelody 5 (some .int), Cond.fieldLink RX5 68 "BellStreetModel" "thrown" "I"]
def wsL_law0_r6 : List Cond := [Cond.fieldLink RX5 76 "BellStreetModel" "melodies" "I", Cond.methodLink RX5 79 yX5_isHouse, Cond.static yX5_isHouse, Cond.code yX5_isHouse cX5_isHouse 1 (some .boolean), Cond.methodLink RX5 72 yX5_in, Cond.static yX5_in, Cond.code yX5_in cX5_in 3 (some .boolean), Cond.methodLink RX5 83 yX5_fails, Cond.instanceMethod yX5_fails, Cond.selects RX5 yX5_fails yX5_fails, Cond.code yX5_fails cX5_fails 2 (some .int), Cond.methodLink RL 97 yX5_thrown, Cond.instanceMethod yX5_thrown, Cond.selects RX5 yX5_thrown yX5_thrown, Cond.code yX5_thrown cX5_thrown 1 (some .int), Cond.methodLink RL 101 yL_toneAt, Cond.static yL_toneAt, Cond.codeWith yL_toneAt cL_toneAt 5 (some .int) [(0, 10, 13, 13)], Cond.methodLink RL 19 yX4_toneAt, Cond.instanceMethod yX4_toneAt, Cond.selects RX4 yX4_toneAt yX4_toneAt, Cond.code yX4_toneAt cX4_toneAt 4 (some .int), Cond.methodLink RX4 65 yX4_melodyAt, Cond.instanceMethod yX4_melodyAt]
def wsL_law0_r7 : List Cond := [Cond.selects RX4 yX4_melodyAt yX4_melodyAt, Cond.code yX4_melodyAt cX4_melodyAt 3 (some (.object "BellStreet$Melody")), Cond.methodLink RX4 77 yX3_tone, Cond.instanceMethod yX3_tone, Cond.selects RX3 yX3_tone yX3_tone, Cond.code yX3_tone cX3_tone 2 (some .int), Cond.methodLink RL 104 yX5_toneAt, Cond.instanceMethod yX5_toneAt, Cond.selects RX5 yX5_toneAt yX5_toneAt, Cond.code yX5_toneAt cX5_toneAt 3 (some .int), Cond.methodLink RX5 89 yX5_isMelody, Cond.instanceMethod yX5_isMelody, Cond.selects RX5 yX5_isMelody yX5_isMelody, Cond.code yX5_isMelody cX5_isMelody 2 (some .boolean), Cond.methodLink RX5 92 yX5_tone, Cond.instanceMethod yX5_tone, Cond.selects RX5 yX5_tone yX5_tone, Cond.code yX5_tone cX5_tone 3 (some .int), Cond.constantLong RX5 87 (15), Cond.methodLink RL 105 yL_shifted, Cond.static yL_shifted, Cond.codeWith yL_shifted cL_shifted 5 (some .int) [(0, 9, 12, 13), (0, 9, 16, 15)], Cond.methodLink RL 23 yX4_shifted, Cond.instanceMethod yX4_shifted]
def wsL_law0_r8 : List Cond := [Cond.selects RX4 yX4_shifted yX4_shifted, Cond.code yX4_shifted cX4_shifted 4 (some .long), Cond.methodLink RX4 83 yX3_tonesShifted, Cond.instanceMethod yX3_tonesShifted, Cond.selects RX3 yX3_tonesShifted yX3_tonesShifted, Cond.code yX3_tonesShifted cX3_tonesShifted 5 (some .long), Cond.methodLink RX3 25 yX3_tone, Cond.methodLink RL 107 yX5_shifted, Cond.instanceMethod yX5_shifted, Cond.selects RX5 yX5_shifted yX5_shifted, Cond.code yX5_shifted cX5_shifted 6 (some .long), Cond.methodLink RL 108 yL_turned, Cond.static yL_turned, Cond.codeWith yL_turned cL_turned 4 (some .int) [(0, 8, 11, 13)], Cond.methodLink RL 27 yX4_turned, Cond.instanceMethod yX4_turned, Cond.selects RX4 yX4_turned yX4_turned, Cond.code yX4_turned cX4_turned 2 (some .long), Cond.methodLink RX4 87 yX3_tonesTurned, Cond.instanceMethod yX3_tonesTurned, Cond.selects RX3 yX3_tonesTurned yX3_tonesTurned, Cond.code yX3_tonesTurned cX3_tonesTurned 4 (some .long), Cond.methodLink RL 111 yX5_turned, Cond.instanceMethod yX5_turned]
def wsL_law0_r9 : List Cond := [Cond.selects RX5 yX5_turned yX5_turned, Cond.code yX5_turned cX5_turned 5 (some .long), Cond.methodLink RL 112 yL_areAlike, Cond.static yL_areAlike, Cond.codeWith yL_areAlike cL_areAlike 5 (some .int) [(0, 17, 20, 13)], Cond.methodLink RL 31 yX4_areAlike, Cond.instanceMethod yX4_areAlike, Cond.selects RX4 yX4_areAlike yX4_areAlike, Cond.code yX4_areAlike cX4_areAlike 3 (some .boolean), Cond.methodLink RX4 91 yX3_isShiftOf, Cond.instanceMethod yX3_isShiftOf, Cond.selects RX3 yX3_isShiftOf yX3_isShiftOf, Cond.code yX3_isShiftOf cX3_isShiftOf 3 (some .boolean), Cond.methodLink RX3 29 yX3_tonesShifted, Cond.methodLink RL 114 yX5_areAlike, Cond.instanceMethod yX5_areAlike, Cond.selects RX5 yX5_areAlike yX5_areAlike, Cond.code yX5_areAlike cX5_areAlike 5 (some .boolean), Cond.methodLink RL 115 yL_license, Cond.static yL_license, Cond.codeWith yL_license cL_license 6 (some .int) [(0, 12, 15, 13), (0, 12, 19, 15), (0, 12, 23, 17)], Cond.methodLink RL 35 yX4_license, Cond.instanceMethod yX4_license, Cond.selects RX4 yX4_license yX4_license]
def wsL_law0_r10 : List Cond := [Cond.code yX4_license cX4_license 6 (some .int), Cond.methodLink RX4 95 yX4_houseAt, Cond.instanceMethod yX4_houseAt, Cond.selects RX4 yX4_houseAt yX4_houseAt, Cond.code yX4_houseAt cX4_houseAt 2 (some (.object "BellStreet$House")), Cond.methodLink RL 118 yX5_license, Cond.instanceMethod yX5_license, Cond.selects RX5 yX5_license yX5_license, Cond.code yX5_license cX5_license 5 (some .int), Cond.methodLink RL 119 yL_setQuiet, Cond.static yL_setQuiet, Cond.codeWith yL_setQuiet cL_setQuiet 6 (some .int) [(0, 19, 22, 13), (0, 19, 26, 15)], Cond.methodLink RL 39 yX4_setQuiet, Cond.instanceMethod yX4_setQuiet, Cond.selects RX4 yX4_setQuiet yX4_setQuiet, Cond.code yX4_setQuiet cX4_setQuiet 5 (some .boolean), Cond.methodLink RX4 119 yX2_isQuietAt, Cond.instanceMethod yX2_isQuietAt, Cond.selects RX2 yX2_isQuietAt yX2_isQuietAt, Cond.code yX2_isQuietAt cX2_isQuietAt 2 (some .boolean), Cond.methodLink RX2 57 yX2_quietSeconds, Cond.instanceMethod yX2_quietSeconds, Cond.selects RX2 yX2_quietSeconds yX2_quietSeconds, Cond.code yX2_quietSeconds cX2_quietSeconds 5 (some .int)]
def wsL_law0_r11 : List Cond := [Cond.methodLink RX2 61 yX2_shared, Cond.static yX2_shared, Cond.code yX2_shared cX2_shared 4 (some .int), Cond.methodLink RX2 65 Lib.Math.min.name, Cond.static Lib.Math.min.name, Cond.initialized "java/lang/Math", Cond.code Lib.Math.min.name Lib.Math.min.code 2 (some .int), Cond.methodLink RX2 70 Lib.Math.max.name, Cond.static Lib.Math.max.name, Cond.code Lib.Math.max.name Lib.Math.max.code 2 (some .int), Cond.methodLink RL 121 yX5_setQuiet, Cond.instanceMethod yX5_setQuiet, Cond.selects RX5 yX5_setQuiet yX5_setQuiet, Cond.code yX5_setQuiet cX5_setQuiet 4 (some .boolean), Cond.methodLink RX5 99 yX5_isQuiet, Cond.instanceMethod yX5_isQuiet, Cond.selects RX5 yX5_isQuiet yX5_isQuiet, Cond.code yX5_isQuiet cX5_isQuiet 3 (some .boolean), Cond.fieldLink RX5 96 "BellStreetModel" "time" "I", Cond.methodLink RL 122 yL_lay, Cond.static yL_lay, Cond.codeWith yL_lay cL_lay 7 (some .int) [(0, 14, 17, 13), (0, 14, 21, 15)], Cond.methodLink RL 43 yX4_lay, Cond.instanceMethod yX4_lay]
def wsL_law0_r12 : List Cond := [Cond.selects RX4 yX4_lay yX4_lay, Cond.code yX4_lay cX4_lay 8 (some .int), Cond.methodLink RX4 123 yX4_bellAt, Cond.instanceMethod yX4_bellAt, Cond.selects RX4 yX4_bellAt yX4_bellAt, Cond.code yX4_bellAt cX4_bellAt 4 (some (.object "BellStreet$Bell")), Cond.methodLink RL 125 yX5_lay, Cond.instanceMethod yX5_lay, Cond.selects RX5 yX5_lay yX5_lay, Cond.code yX5_lay cX5_lay 7 (some .int), Cond.methodLink RL 126 yL_press, Cond.static yL_press, Cond.codeWith yL_press cL_press 5 (some .int) [(0, 10, 13, 13), (0, 10, 17, 17)], Cond.methodLink RL 47 yX4_press, Cond.instanceMethod yX4_press, Cond.selects RX4 yX4_press yX4_press, Cond.code yX4_press cX4_press 6 (some .int), Cond.methodLink RX4 153 yX2_mayRing, Cond.instanceMethod yX2_mayRing, Cond.selects RX2 yX2_mayRing yX2_mayRing, Cond.code yX2_mayRing cX2_mayRing 2 (some .boolean), Cond.methodLink RX4 156 yX2_ringingLoad, Cond.instanceMethod yX2_ringingLoad, Cond.selects RX2 yX2_ringingLoad yX2_ringingLoad]
def wsL_law0_r13 : List Cond := [Cond.code yX2_ringingLoad cX2_ringingLoad 6 (some .int), Cond.methodLink RX4 160 yX2_breakDown, Cond.instanceMethod yX2_breakDown, Cond.selects RX2 yX2_breakDown yX2_breakDown, Cond.code yX2_breakDown cX2_breakDown 5 none, Cond.methodLink RX4 163 yX2_useRight, Cond.instanceMethod yX2_useRight, Cond.selects RX2 yX2_useRight yX2_useRight, Cond.code yX2_useRight cX2_useRight 2 none, Cond.methodLink RX4 167 yX3_lasts, Cond.instanceMethod yX3_lasts, Cond.selects RX3 yX3_lasts yX3_lasts, Cond.code yX3_lasts cX3_lasts 1 (some .int), Cond.methodLink RX4 170 yX0_ringUntil, Cond.instanceMethod yX0_ringUntil, Cond.selects RX0 yX0_ringUntil yX0_ringUntil, Cond.code yX0_ringUntil cX0_ringUntil 2 none, Cond.methodLink RL 128 yX5_press, Cond.instanceMethod yX5_press, Cond.selects RX5 yX5_press yX5_press, Cond.code yX5_press cX5_press 8 (some .int), Cond.methodLink RX5 102 yX5_breaks, Cond.instanceMethod yX5_breaks, Cond.selects RX5 yX5_breaks yX5_breaks]
def wsL_law0_r14 : List Cond := [Cond.code yX5_breaks cX5_breaks 3 none, Cond.methodLink RX5 106 yX5_begins, Cond.instanceMethod yX5_begins, Cond.selects RX5 yX5_begins yX5_begins, Cond.code yX5_begins cX5_begins 2 none, Cond.methodLink RL 129 yL_fault, Cond.static yL_fault, Cond.codeWith yL_fault cL_fault 4 (some .int) [(0, 9, 12, 13), (0, 9, 15, 17)], Cond.methodLink RL 50 yX4_fault, Cond.instanceMethod yX4_fault, Cond.selects RX4 yX4_fault yX4_fault, Cond.code yX4_fault cX4_fault 8 (some .int), Cond.methodLink RX4 180 yX2_startBells, Cond.instanceMethod yX2_startBells, Cond.selects RX2 yX2_startBells yX2_startBells, Cond.code yX2_startBells cX2_startBells 7 (some .int), Cond.methodLink RX2 89 yX3_lasts, Cond.methodLink RX2 93 yX0_ringUntil, Cond.methodLink RL 131 yX5_fault, Cond.instanceMethod yX5_fault, Cond.selects RX5 yX5_fault yX5_fault, Cond.code yX5_fault cX5_fault 4 (some .int), Cond.fieldLink RX5 109 "BellStreetModel" "faults" "I", Cond.methodLink RL 132 yL_repair]
def wsL_law0_r15 : List Cond := [Cond.static yL_repair, Cond.codeWith yL_repair cL_repair 4 (some .int) [(0, 9, 12, 13), (0, 9, 15, 17)], Cond.methodLink RL 54 yX4_repair, Cond.instanceMethod yX4_repair, Cond.selects RX4 yX4_repair yX4_repair, Cond.code yX4_repair cX4_repair 4 (some .int), Cond.methodLink RL 134 yX5_repair, Cond.instanceMethod yX5_repair, Cond.selects RX5 yX5_repair yX5_repair, Cond.code yX5_repair cX5_repair 3 (some .int), Cond.methodLink RL 135 yL_pass, Cond.static yL_pass, Cond.codeWith yL_pass cL_pass 4 (some .int) [(0, 9, 12, 15), (0, 9, 15, 17)], Cond.methodLink RL 57 yX4_pass, Cond.instanceMethod yX4_pass, Cond.selects RX4 yX4_pass yX4_pass, Cond.code yX4_pass cX4_pass 4 (some .int), Cond.constant RX4 199 (1000000), Cond.methodLink RX4 202 yX4_nextChange, Cond.instanceMethod yX4_nextChange, Cond.selects RX4 yX4_nextChange yX4_nextChange, Cond.code yX4_nextChange cX4_nextChange 7 (some .int), Cond.methodLink RX4 232 Lib.Math.min.name, Cond.methodLink RX4 238 yX2_firstStop]
def wsL_law0_r16 : List Cond := [Cond.instanceMethod yX2_firstStop, Cond.selects RX2 yX2_firstStop yX2_firstStop, Cond.code yX2_firstStop cX2_firstStop 7 (some .int), Cond.methodLink RX4 205 yX4_passStretch, Cond.instanceMethod yX4_passStretch, Cond.selects RX4 yX4_passStretch yX4_passStretch, Cond.code yX4_passStretch cX4_passStretch 6 none, Cond.methodLink RX4 241 yX2_spend, Cond.instanceMethod yX2_spend, Cond.selects RX2 yX2_spend yX2_spend, Cond.code yX2_spend cX2_spend 4 none, Cond.methodLink RX2 100 yX2_ringingSet, Cond.instanceMethod yX2_ringingSet, Cond.selects RX2 yX2_ringingSet yX2_ringingSet, Cond.code yX2_ringingSet cX2_ringingSet 3 (some .int), Cond.methodLink RX4 245 yX2_stopEndedBells, Cond.instanceMethod yX2_stopEndedBells, Cond.selects RX2 yX2_stopEndedBells yX2_stopEndedBells, Cond.code yX2_stopEndedBells cX2_stopEndedBells 6 none, Cond.methodLink RX4 248 yX1_finish, Cond.instanceMethod yX1_finish, Cond.selects RX1 yX1_finish yX1_finish, Cond.code yX1_finish cX1_finish 2 none, Cond.methodLink RX4 251 yX2_closeDay]
def wsL_law0_r17 : List Cond := [Cond.instanceMethod yX2_closeDay, Cond.selects RX2 yX2_closeDay yX2_closeDay, Cond.code yX2_closeDay cX2_closeDay 1 none, Cond.methodLink RL 137 yX5_pass, Cond.instanceMethod yX5_pass, Cond.selects RX5 yX5_pass yX5_pass, Cond.code yX5_pass cX5_pass 3 (some .int), Cond.constant RX5 115 (1000000), Cond.methodLink RX5 116 yX5_second, Cond.instanceMethod yX5_second, Cond.selects RX5 yX5_second yX5_second, Cond.code yX5_second cX5_second 2 none, Cond.methodLink RX5 112 yX5_rings, Cond.instanceMethod yX5_rings, Cond.selects RX5 yX5_rings yX5_rings, Cond.code yX5_rings cX5_rings 4 none, Cond.methodLink RL 138 yX4_time, Cond.instanceMethod yX4_time, Cond.selects RX4 yX4_time yX4_time, Cond.code yX4_time cX4_time 1 (some .int), Cond.methodLink RL 141 yX5_time, Cond.instanceMethod yX5_time, Cond.selects RX5 yX5_time yX5_time, Cond.code yX5_time cX5_time 1 (some .int)]
def wsL_law0_r18 : List Cond := [Cond.methodLink RL 142 yL_ringing, Cond.static yL_ringing, Cond.codeWith yL_ringing cL_ringing 4 (some .int) [(0, 9, 12, 13)], Cond.methodLink RL 60 yX4_ringing, Cond.instanceMethod yX4_ringing, Cond.selects RX4 yX4_ringing yX4_ringing, Cond.code yX4_ringing cX4_ringing 2 (some .int), Cond.methodLink RX4 208 yX2_ringingSet, Cond.methodLink RL 144 yX5_ringing, Cond.instanceMethod yX5_ringing, Cond.selects RX5 yX5_ringing yX5_ringing, Cond.code yX5_ringing cX5_ringing 4 (some .int), Cond.methodLink RX5 119 yX5_isSeen, Cond.instanceMethod yX5_isSeen, Cond.selects RX5 yX5_isSeen yX5_isSeen, Cond.code yX5_isSeen cX5_isSeen 2 (some .boolean), Cond.methodLink RL 145 yL_isSound, Cond.static yL_isSound, Cond.codeWith yL_isSound cL_isSound 4 (some .int) [(0, 16, 19, 13)], Cond.methodLink RL 63 yX4_isSound, Cond.instanceMethod yX4_isSound, Cond.selects RX4 yX4_isSound yX4_isSound, Cond.code yX4_isSound cX4_isSound 2 (some .boolean), Cond.methodLink RL 147 yX5_isSound]
def wsL_law0_r19 : List Cond := [Cond.instanceMethod yX5_isSound, Cond.selects RX5 yX5_isSound yX5_isSound, Cond.code yX5_isSound cX5_isSound 2 (some .boolean), Cond.methodLink RL 148 yL_ringsLeft, Cond.static yL_ringsLeft, Cond.codeWith yL_ringsLeft cL_ringsLeft 5 (some .int) [(0, 10, 13, 13)], Cond.methodLink RL 67 yX4_ringsLeft, Cond.instanceMethod yX4_ringsLeft, Cond.selects RX4 yX4_ringsLeft yX4_ringsLeft, Cond.code yX4_ringsLeft cX4_ringsLeft 4 (some .int), Cond.methodLink RL 150 yX5_ringsLeft, Cond.instanceMethod yX5_ringsLeft, Cond.selects RX5 yX5_ringsLeft yX5_ringsLeft, Cond.code yX5_ringsLeft cX5_ringsLeft 3 (some .int), Cond.methodLink RL 151 yL_points, Cond.static yL_points, Cond.codeWith yL_points cL_points 4 (some .int) [(0, 9, 12, 13)], Cond.methodLink RL 70 yX4_points, Cond.instanceMethod yX4_points, Cond.selects RX4 yX4_points yX4_points, Cond.code yX4_points cX4_points 2 (some .int), Cond.methodLink RL 153 yX5_points, Cond.instanceMethod yX5_points, Cond.selects RX5 yX5_points yX5_points]
def wsL_law0_r20 : List Cond := [Cond.code yX5_points cX5_points 2 (some .int), Cond.methodLink RL 154 yL_secondsRung, Cond.static yL_secondsRung, Cond.codeWith yL_secondsRung cL_secondsRung 4 (some .int) [(0, 9, 12, 13)], Cond.methodLink RL 73 yX4_secondsRung, Cond.instanceMethod yX4_secondsRung, Cond.selects RX4 yX4_secondsRung yX4_secondsRung, Cond.code yX4_secondsRung cX4_secondsRung 2 (some .int), Cond.methodLink RL 156 yX5_secondsRung, Cond.instanceMethod yX5_secondsRung, Cond.selects RX5 yX5_secondsRung yX5_secondsRung, Cond.code yX5_secondsRung cX5_secondsRung 2 (some .int), Cond.methodLink RL 157 yL_quietBroken, Cond.static yL_quietBroken, Cond.codeWith yL_quietBroken cL_quietBroken 4 (some .int) [(0, 9, 12, 13)], Cond.methodLink RL 76 yX4_quietBroken, Cond.instanceMethod yX4_quietBroken, Cond.selects RX4 yX4_quietBroken yX4_quietBroken, Cond.code yX4_quietBroken cX4_quietBroken 2 (some .int), Cond.methodLink RL 159 yX5_quietBroken, Cond.instanceMethod yX5_quietBroken, Cond.selects RX5 yX5_quietBroken yX5_quietBroken, Cond.code yX5_quietBroken cX5_quietBroken 2 (some .int), Cond.methodLink RL 160 yL_hushed]
def wsL_law0_r21 : List Cond := [Cond.static yL_hushed, Cond.codeWith yL_hushed cL_hushed 4 (some .int) [(0, 9, 12, 13)], Cond.methodLink RL 79 yX4_hushed, Cond.instanceMethod yX4_hushed, Cond.selects RX4 yX4_hushed yX4_hushed, Cond.code yX4_hushed cX4_hushed 2 (some .int), Cond.methodLink RL 162 yX5_hushed, Cond.instanceMethod yX5_hushed, Cond.selects RX5 yX5_hushed yX5_hushed, Cond.code yX5_hushed cX5_hushed 2 (some .int), Cond.methodLink RL 163 yX4_faults, Cond.instanceMethod yX4_faults, Cond.selects RX4 yX4_faults yX4_faults, Cond.code yX4_faults cX4_faults 1 (some .int), Cond.methodLink RL 166 yX5_faults, Cond.instanceMethod yX5_faults, Cond.selects RX5 yX5_faults yX5_faults, Cond.code yX5_faults cX5_faults 1 (some .int), Cond.methodLink RL 167 yL_faultAt, Cond.static yL_faultAt, Cond.codeWith yL_faultAt cL_faultAt 4 (some .int) [(0, 9, 12, 13)], Cond.methodLink RL 82 yX4_faultAt, Cond.instanceMethod yX4_faultAt, Cond.selects RX4 yX4_faultAt yX4_faultAt]
end
section
def wsL_law0_r22 : List Cond := [Cond.code yX4_faultAt cX4_faultAt 2 (some .int), Cond.methodLink RL 169 yX5_faultAt, Cond.instanceMethod yX5_faultAt, Cond.selects RX5 yX5_faultAt yX5_faultAt, Cond.code yX5_faultAt cX5_faultAt 2 (some .int)]
def wsL_law0 : List Cond := (wsL_law0_r1 ++ (wsL_law0_r2 ++ (wsL_law0_r3 ++ (wsL_law0_r4 ++ (wsL_law0_r5 ++ (wsL_law0_r6 ++ (wsL_law0_r7 ++ (wsL_law0_r8 ++ (wsL_law0_r9 ++ (wsL_law0_r10 ++ (wsL_law0_r11 ++ (wsL_law0_r12 ++ (wsL_law0_r13 ++ (wsL_law0_r14 ++ (wsL_law0_r15 ++ (wsL_law0_r16 ++ (wsL_law0_r17 ++ (wsL_law0_r18 ++ (wsL_law0_r19 ++ (wsL_law0_r20 ++ (wsL_law0_r21 ++ wsL_law0_r22))))))))))))))))))))) ++ wsX40 ++ wsX50 ++ wsX20 ++ wsX10 ++ wsX00 ++ wsX30 ++ ([] : List Cond)
def wsL_law : List Cond := wsL_law0 ++ (vx_atS RX4 52 "java/lang/IllegalArgumentException" ["java/lang/RuntimeException", "java/lang/Exception"]).filter goodWord ++ (vx_atS RX4 61 "java/lang/IllegalStateException" ["java/lang/RuntimeException", "java/lang/Exception"]).filter goodWord ++ (vx_atS RX4 76 "java/lang/IndexOutOfBoundsException" ["java/lang/RuntimeException", "java/lang/Exception"]).filter goodWord
theorem wsL_in_r1 : ∀ w ∈ wsL_law0_r1, w ∈ lw_tbl := fun w h => (goodIn_p wsL_law0_r1 [35, 38] (by decide +kernel) (by decide +kernel) w h).1
theorem wsL_in_r2 : ∀ w ∈ wsL_law0_r2, w ∈ lw_tbl := fun w h => (goodIn_p wsL_law0_r2 [48] (by decide +kernel) (by decide +kernel) w h).1
theorem wsL_in_r3 : ∀ w ∈ wsL_law0_r3, w ∈ lw_tbl := fun w h => (goodIn_p wsL_law0_r3 [55, 133, 578] (by decide +kernel) (by decide +kernel) w h).1
theorem wsL_in_r4 : ∀ w ∈ wsL_law0_r4, w ∈ lw_tbl := fun w h => (goodIn_p wsL_law0_r4 [183] (by decide +kernel) (by decide +kernel) w h).1
theorem wsL_in_r5 : ∀ w ∈ wsL_law0_r5, w ∈ lw_tbl := fun w h => (goodIn_p wsL_law0_r5 [187, 292, 658] (by decide +kernel) (by decide +kernel) w h).1
theorem wsL_in_r6 : ∀ w ∈ wsL_law0_r6, w ∈ lw_tbl := fun w h => (goodIn_p wsL_law0_r6 [661, 664, 668, 654, 318] (by decide +kernel) (by decide +kernel) w h).1
theorem wsL_in_r7 : ∀ w ∈ wsL_law0_r7, w ∈ lw_tbl := fun w h => (goodIn_p wsL_law0_r7 [322, 328, 672, 676, 680] (by decide +kernel) (by decide +kernel) w h).1
theorem wsL_in_r8 : ∀ w ∈ wsL_law0_r8, w ∈ lw_tbl := fun w h => (goodIn_p wsL_law0_r8 [335, 340, 685, 348, 352] (by decide +kernel) (by decide +kernel) w h).1
theorem wsL_in_r9 : ∀ w ∈ wsL_law0_r9, w ∈ lw_tbl := fun w h => (goodIn_p wsL_law0_r9 [689, 359, 363, 693] (by decide +kernel) (by decide +kernel) w h).1
theorem wsL_in_r10 : ∀ w ∈ wsL_law0_r10, w ∈ lw_tbl := fun w h => (goodIn_p wsL_law0_r10 [371, 375, 697, 385, 390, 394] (by decide +kernel) (by decide +kernel) w h).1
theorem wsL_in_r11 : ∀ w ∈ wsL_law0_r11, w ∈ lw_tbl := fun w h => (goodIn_p wsL_law0_r11 [397, 400, 403, 701, 705] (by decide +kernel) (by decide +kernel) w h).1
theorem wsL_in_r12 : ∀ w ∈ wsL_law0_r12, w ∈ lw_tbl := fun w h => (goodIn_p wsL_law0_r12 [410, 414, 709, 423, 428] (by decide +kernel) (by decide +kernel) w h).1
theorem wsL_in_r13 : ∀ w ∈ wsL_law0_r13, w ∈ lw_tbl := fun w h => (goodIn_p wsL_law0_r13 [432, 436, 440, 444, 448, 713] (by decide +kernel) (by decide +kernel) w h).1
theorem wsL_in_r14 : ∀ w ∈ wsL_law0_r14, w ∈ lw_tbl := fun w h => (goodIn_p wsL_law0_r14 [717, 721, 455, 461, 725] (by decide +kernel) (by decide +kernel) w h).1
theorem wsL_in_r15 : ∀ w ∈ wsL_law0_r15, w ∈ lw_tbl := fun w h => (goodIn_p wsL_law0_r15 [470, 729, 479, 486] (by decide +kernel) (by decide +kernel) w h).1
theorem wsL_in_r16 : ∀ w ∈ wsL_law0_r16, w ∈ lw_tbl := fun w h => (goodIn_p wsL_law0_r16 [491, 495, 499, 503, 507, 511] (by decide +kernel) (by decide +kernel) w h).1
theorem wsL_in_r17 : ∀ w ∈ wsL_law0_r17, w ∈ lw_tbl := fun w h => (goodIn_p wsL_law0_r17 [515, 733, 738, 742, 169, 746] (by decide +kernel) (by decide +kernel) w h).1
theorem wsL_in_r18 : ∀ w ∈ wsL_law0_r18, w ∈ lw_tbl := fun w h => (goodIn_p wsL_law0_r18 [522, 750, 754, 530] (by decide +kernel) (by decide +kernel) w h).1
theorem wsL_in_r19 : ∀ w ∈ wsL_law0_r19, w ∈ lw_tbl := fun w h => (goodIn_p wsL_law0_r19 [758, 537, 762, 544] (by decide +kernel) (by decide +kernel) w h).1
theorem wsL_in_r20 : ∀ w ∈ wsL_law0_r20, w ∈ lw_tbl := fun w h => (goodIn_p wsL_law0_r20 [766, 551, 770, 558, 774] (by decide +kernel) (by decide +kernel) w h).1
theorem wsL_in_r21 : ∀ w ∈ wsL_law0_r21, w ∈ lw_tbl := fun w h => (goodIn_p wsL_law0_r21 [565, 778, 173, 782] (by decide +kernel) (by decide +kernel) w h).1
theorem wsL_in_r22 : ∀ w ∈ wsL_law0_r22, w ∈ lw_tbl := fun w h => (goodIn_p wsL_law0_r22 [572, 786] (by decide +kernel) (by decide +kernel) w h).1
theorem in_ap {a b T : List Cond} (ha : ∀ w ∈ a, w ∈ T) (hb : ∀ w ∈ b, w ∈ T) : ∀ w ∈ a ++ b, w ∈ T := fun w h => (List.mem_append.mp h).elim (ha w) (hb w)
theorem wsL_in_x4 : ∀ w ∈ wsX40, w ∈ lw_tbl := by decide +kernel
theorem wsL_in_x5 : ∀ w ∈ wsX50, w ∈ lw_tbl := by decide +kernel
theorem wsL_in_x2 : ∀ w ∈ wsX20, w ∈ lw_tbl := by decide +kernel
theorem wsL_in_x1 : ∀ w ∈ wsX10, w ∈ lw_tbl := by decide +kernel
theorem wsL_in_x0 : ∀ w ∈ wsX00, w ∈ lw_tbl := by decide +kernel
theorem wsL_in_x3 : ∀ w ∈ wsX30, w ∈ lw_tbl := by decide +kernel
theorem wsL_law_in0 : ∀ w ∈ wsL_law0, w ∈ lw_tbl := in_ap (in_ap (in_ap (in_ap (in_ap (in_ap (in_ap (in_ap wsL_in_r1 (in_ap wsL_in_r2 (in_ap wsL_in_r3 (in_ap wsL_in_r4 (in_ap wsL_in_r5 (in_ap wsL_in_r6 (in_ap wsL_in_r7 (in_ap wsL_in_r8 (in_ap wsL_in_r9 (in_ap wsL_in_r10 (in_ap wsL_in_r11 (in_ap wsL_in_r12 (in_ap wsL_in_r13 (in_ap wsL_in_r14 (in_ap wsL_in_r15 (in_ap wsL_in_r16 (in_ap wsL_in_r17 (in_ap wsL_in_r18 (in_ap wsL_in_r19 (in_ap wsL_in_r20 (in_ap wsL_in_r21 (wsL_in_r22)))))))))))))))))))))) wsL_in_x4) wsL_in_x5) wsL_in_x2) wsL_in_x1) wsL_in_x0) wsL_in_x3) (fun _ h => absurd h List.not_mem_nil)
theorem wsL_law_x0 : ∀ w ∈ (vx_atS RX4 52 "java/lang/IllegalArgumentException" ["java/lang/RuntimeException", "java/lang/Exception"]).filter goodWord, w ∈ lw_tbl := by decide +kernel
theorem wsL_law_x1 : ∀ w ∈ (vx_atS RX4 61 "java/lang/IllegalStateException" ["java/lang/RuntimeException", "java/lang/Exception"]).filter goodWord, w ∈ lw_tbl := by decide +kernel
theorem wsL_law_x2 : ∀ w ∈ (vx_atS RX4 76 "java/lang/IndexOutOfBoundsException" ["java/lang/RuntimeException", "java/lang/Exception"]).filter goodWord, w ∈ lw_tbl := by decide +kernel
theorem wsL_law_in : ∀ w ∈ wsL_law, w ∈ lw_tbl := fun w h => (List.mem_append.mp h).elim (fun h => (List.mem_append.mp h).elim (fun h => (List.mem_append.mp h).elim (fun h => wsL_law_in0 w h) (fun h => wsL_law_x0 w h)) (fun h => wsL_law_x1 w h)) (fun h => wsL_law_x2 w h)
theorem inlX0 : ∀ w ∈ wsX00, w ∈ wsL_law := fun _ h => List.mem_append_left _ (List.mem_append_left _ (List.mem_append_left _ (List.mem_append_left _ (List.mem_append_left _ (List.mem_append_right _ h)))))
theorem inX0 : ∀ w ∈ wsX00, w ∈ lw_tbl := fun w h => wsL_law_in w (inlX0 w h)
theorem inlX1 : ∀ w ∈ wsX10, w ∈ wsL_law := fun _ h => List.mem_append_left _ (List.mem_append_left _ (List.mem_append_left _ (List.mem_append_left _ (List.mem_append_left _ (List.mem_append_left _ (List.mem_append_right _ h))))))
theorem inX1 : ∀ w ∈ wsX10, w ∈ lw_tbl := fun w h => wsL_law_in w (inlX1 w h)
theorem inlX2 : ∀ w ∈ wsX20, w ∈ wsL_law := fun _ h => List.mem_append_left _ (List.mem_append_left _ (List.mem_append_left _ (List.mem_append_left _ (List.mem_append_left _ (List.mem_append_left _ (List.mem_append_left _ (List.mem_append_right _ h)))))))
theorem inX2 : ∀ w ∈ wsX20, w ∈ lw_tbl := fun w h => wsL_law_in w (inlX2 w h)
theorem inlX3 : ∀ w ∈ wsX30, w ∈ wsL_law := fun _ h => List.mem_append_left _ (List.mem_append_left _ (List.mem_append_left _ (List.mem_append_left _ (List.mem_append_right _ h))))
theorem inX3 : ∀ w ∈ wsX30, w ∈ lw_tbl := fun w h => wsL_law_in w (inlX3 w h)
theorem inlX4 : ∀ w ∈ wsX40, w ∈ wsL_law := fun _ h => List.mem_append_left _ (List.mem_append_left _ (List.mem_append_left _ (List.mem_append_left _ (List.mem_append_left _ (List.mem_append_left _ (List.mem_append_left _ (List.mem_append_left _ (List.mem_append_left _ (List.mem_append_right _ h)))))))))
theorem inX4 : ∀ w ∈ wsX40, w ∈ lw_tbl := fun w h => wsL_law_in w (inlX4 w h)
theorem inlX5 : ∀ w ∈ wsX50, w ∈ wsL_law := fun _ h => List.mem_append_left _ (List.mem_append_left _ (List.mem_append_left _ (List.mem_append_left _ (List.mem_append_left _ (List.mem_append_left _ (List.mem_append_left _ (List.mem_append_left _ (List.mem_append_right _ h))))))))
theorem inX5 : ∀ w ∈ wsX50, w ∈ lw_tbl := fun w h => wsL_law_in w (inlX5 w h)
theorem inJ9 : ∀ w ∈ wsJ90, w ∈ lw_tbl := by decide +kernel
theorem inJ0 : ∀ w ∈ wsJ00, w ∈ lw_tbl := by decide +kernel
theorem dX0_init_0 : decode cX0_init 0 = .ok (.aload_n 0, 1) := by decide +kernel
theorem dX0_init_1 : decode cX0_init 1 = .ok (.invokespecial 1, 3) := by decide +kernel
theorem dX0_init_4 : decode cX0_init 4 = .ok (.aload_n 0, 1) := by decide +kernel
theorem dX0_init_5 : decode cX0_init 5 = .ok (.aconst_null, 1) := by decide +kernel
theorem dX0_init_6 : decode cX0_init 6 = .ok (.putfield 7, 3) := by decide +kernel
theorem dX0_init_9 : decode cX0_init 9 = .ok (.aload_n 0, 1) := by decide +kernel
theorem dX0_init_10 : decode cX0_init 10 = .ok (.iconst 1, 1) := by decide +kernel
theorem dX0_init_11 : decode cX0_init 11 = .ok (.putfield 13, 3) := by decide +kernel
theorem dX0_init_14 : decode cX0_init 14 = .ok (.aload_n 0, 1) := by decide +kernel
theorem dX0_init_15 : decode cX0_init 15 = .ok (.iconst 0, 1) := by decide +kernel
theorem dX0_init_16 : decode cX0_init 16 = .ok (.putfield 17, 3) := by decide +kernel
theorem dX0_init_19 : decode cX0_init 19 = .ok (.aload_n 0, 1) := by decide +kernel
theorem dX0_init_20 : decode cX0_init 20 = .ok (.iconst 0, 1) := by decide +kernel
theorem dX0_init_21 : decode cX0_init 21 = .ok (.putfield 21, 3) := by decide +kernel
theorem dX0_init_24 : decode cX0_init 24 = .ok (.return_, 1) := by decide +kernel
theorem dX0_ringUntil_0 : decode cX0_ringUntil 0 = .ok (.aload_n 0, 1) := by decide +kernel
theorem dX0_ringUntil_1 : decode cX0_ringUntil 1 = .ok (.iconst 1, 1) := by decide +kernel
theorem dX0_ringUntil_2 : decode cX0_ringUntil 2 = .ok (.putfield 17, 3) := by decide +kernel
theorem dX0_ringUntil_5 : decode cX0_ringUntil 5 = .ok (.aload_n 0, 1) := by decide +kernel
theorem dX0_ringUntil_6 : decode cX0_ringUntil 6 = .ok (.iload_n 1, 1) := by decide +kernel
theorem dX0_ringUntil_7 : decode cX0_ringUntil 7 = .ok (.putfield 21, 3) := by decide +kernel
theorem dX0_ringUntil_10 : decode cX0_ringUntil 10 = .ok (.return_, 1) := by decide +kernel
theorem dX1_init_0 : decode cX1_init 0 = .ok (.aload_n 0, 1) := by decide +kernel
theorem dX1_init_1 : decode cX1_init 1 = .ok (.invokespecial 1, 3) := by decide +kernel
theorem dX1_init_4 : decode cX1_init 4 = .ok (.aload_n 0, 1) := by decide +kernel
theorem dX1_init_5 : decode cX1_init 5 = .ok (.aconst_null, 1) := by decide +kernel
theorem dX1_init_6 : decode cX1_init 6 = .ok (.putfield 7, 3) := by decide +kernel
theorem dX1_init_9 : decode cX1_init 9 = .ok (.aload_n 0, 1) := by decide +kernel
theorem dX1_init_10 : decode cX1_init 10 = .ok (.iconst 0, 1) := by decide +kernel
theorem dX1_init_11 : decode cX1_init 11 = .ok (.putfield 13, 3) := by decide +kernel
theorem dX1_init_14 : decode cX1_init 14 = .ok (.return_, 1) := by decide +kernel
theorem dX1_finish_0 : decode cX1_finish 0 = .ok (.aload_n 0, 1) := by decide +kernel
theorem dX1_finish_1 : decode cX1_finish 1 = .ok (.getfield 7, 3) := by decide +kernel
theorem dX1_finish_4 : decode cX1_finish 4 = .ok (.ifnull 24, 3) := by decide +kernel
theorem dX1_finish_7 : decode cX1_finish 7 = .ok (.aload_n 0, 1) := by decide +kernel
theorem dX1_finish_8 : decode cX1_finish 8 = .ok (.getfield 13, 3) := by decide +kernel
theorem dX1_finish_11 : decode cX1_finish 11 = .ok (.iload_n 1, 1) := by decide +kernel
theorem dX1_finish_12 : decode cX1_finish 12 = .ok (.if_icmp .gt 16, 3) := by decide +kernel
theorem dX1_finish_15 : decode cX1_finish 15 = .ok (.aload_n 0, 1) := by decide +kernel
theorem dX1_finish_16 : decode cX1_finish 16 = .ok (.getfield 7, 3) := by decide +kernel
theorem dX1_finish_19 : decode cX1_finish 19 = .ok (.iconst 1, 1) := by decide +kernel
theorem dX1_finish_20 : decode cX1_finish 20 = .ok (.putfield 17, 3) := by decide +kernel
theorem dX1_finish_23 : decode cX1_finish 23 = .ok (.aload_n 0, 1) := by decide +kernel
theorem dX1_finish_24 : decode cX1_finish 24 = .ok (.aconst_null, 1) := by decide +kernel
theorem dX1_finish_25 : decode cX1_finish 25 = .ok (.putfield 7, 3) := by decide +kernel
theorem dX1_finish_28 : decode cX1_finish 28 = .ok (.return_, 1) := by decide +kernel
set_option maxRecDepth 20000 in
theorem ggX2_init_X0_init : GoodIn wsX2_init wsX0_init := goodIn_r _ [22, 23, 2, 3, 24, 25, 26, 27, 41, 42, 43, 44] (by decide +kernel) (by decide +kernel)
set_option maxRecDepth 20000 in
theorem gX2_init_X0_init_n56 : GoodIn wsX2_init (wsX0_init) := ggX2_init_X0_init
theorem dX2_init_0 : decode cX2_init 0 = .ok (.aload_n 0, 1) := by decide +kernel
theorem dX2_init_1 : decode cX2_init 1 = .ok (.invokespecial 3, 3) := by decide +kernel
theorem dX2_init_4 : decode cX2_init 4 = .ok (.aload_n 0, 1) := by decide +kernel
theorem dX2_init_5 : decode cX2_init 5 = .ok (.iconst 3, 1) := by decide +kernel
theorem dX2_init_6 : decode cX2_init 6 = .ok (.anewarray 9, 3) := by decide +kernel
theorem dX2_init_9 : decode cX2_init 9 = .ok (.putfield 11, 3) := by decide +kernel
theorem dX2_init_12 : decode cX2_init 12 = .ok (.aload_n 0, 1) := by decide +kernel
theorem dX2_init_13 : decode cX2_init 13 = .ok (.bipush 12, 2) := by decide +kernel
theorem dX2_init_15 : decode cX2_init 15 = .ok (.newarray .int, 2) := by decide +kernel
theorem dX2_init_17 : decode cX2_init 17 = .ok (.putfield 17, 3) := by decide +kernel
theorem dX2_init_20 : decode cX2_init 20 = .ok (.aload_n 0, 1) := by decide +kernel
theorem dX2_init_21 : decode cX2_init 21 = .ok (.iconst 1, 1) := by decide +kernel
theorem dX2_init_22 : decode cX2_init 22 = .ok (.putfield 21, 3) := by decide +kernel
theorem dX2_init_25 : decode cX2_init 25 = .ok (.aload_n 0, 1) := by decide +kernel
theorem dX2_init_26 : decode cX2_init 26 = .ok (.iconst 0, 1) := by decide +kernel
theorem dX2_init_27 : decode cX2_init 27 = .ok (.putfield 25, 3) := by decide +kernel
theorem dX2_init_30 : decode cX2_init 30 = .ok (.aload_n 0, 1) := by decide +kernel
theorem dX2_init_31 : decode cX2_init 31 = .ok (.iconst 0, 1) := by decide +kernel
theorem dX2_init_32 : decode cX2_init 32 = .ok (.putfield 29, 3) := by decide +kernel
theorem dX2_init_35 : decode cX2_init 35 = .ok (.aload_n 0, 1) := by decide +kernel
theorem dX2_init_36 : decode cX2_init 36 = .ok (.iconst 0, 1) := by decide +kernel
theorem dX2_init_37 : decode cX2_init 37 = .ok (.putfield 32, 3) := by decide +kernel
theorem dX2_init_40 : decode cX2_init 40 = .ok (.aload_n 0, 1) := by decide +kernel
theorem dX2_init_41 : decode cX2_init 41 = .ok (.iconst 0, 1) := by decide +kernel
theorem dX2_init_42 : decode cX2_init 42 = .ok (.putfield 35, 3) := by decide +kernel
theorem dX2_init_45 : decode cX2_init 45 = .ok (.aload_n 0, 1) := by decide +kernel
theorem dX2_init_46 : decode cX2_init 46 = .ok (.iconst 0, 1) := by decide +kernel
theorem dX2_init_47 : decode cX2_init 47 = .ok (.putfield 38, 3) := by decide +kernel
theorem dX2_init_50 : decode cX2_init 50 = .ok (.aload_n 0, 1) := by decide +kernel
theorem dX2_init_51 : decode cX2_init 51 = .ok (.iconst 0, 1) := by decide +kernel
theorem dX2_init_52 : decode cX2_init 52 = .ok (.putfield 41, 3) := by decide +kernel
theorem dX2_init_55 : decode cX2_init 55 = .ok (.aload_n 0, 1) := by decide +kernel
theorem dX2_init_56 : decode cX2_init 56 = .ok (.iconst 0, 1) := by decide +kernel
theorem dX2_init_57 : decode cX2_init 57 = .ok (.putfield 44, 3) := by decide +kernel
theorem dX2_init_60 : decode cX2_init 60 = .ok (.aload_n 0, 1) := by decide +kernel
theorem dX2_init_61 : decode cX2_init 61 = .ok (.iconst 1, 1) := by decide +kernel
theorem dX2_init_62 : decode cX2_init 62 = .ok (.putfield 47, 3) := by decide +kernel
theorem dX2_init_65 : decode cX2_init 65 = .ok (.aload_n 0, 1) := by decide +kernel
theorem dX2_init_66 : decode cX2_init 66 = .ok (.iload_n 1, 1) := by decide +kernel
theorem dX2_init_67 : decode cX2_init 67 = .ok (.putfield 50, 3) := by decide +kernel
theorem dX2_init_70 : decode cX2_init 70 = .ok (.aload_n 0, 1) := by decide +kernel
theorem dX2_init_71 : decode cX2_init 71 = .ok (.iload_n 1, 1) := by decide +kernel
theorem dX2_init_72 : decode cX2_init 72 = .ok (.iconst 4, 1) := by decide +kernel
theorem dX2_init_73 : decode cX2_init 73 = .ok (.idiv, 1) := by decide +kernel
theorem dX2_init_74 : decode cX2_init 74 = .ok (.putfield 53, 3) := by decide +kernel
theorem dX2_init_77 : decode cX2_init 77 = .ok (.iconst 0, 1) := by decide +kernel
theorem dX2_init_78 : decode cX2_init 78 = .ok (.istore_n 2, 1) := by decide +kernel
theorem dX2_init_79 : decode cX2_init 79 = .ok (.iload_n 2, 1) := by decide +kernel
theorem dX2_init_80 : decode cX2_init 80 = .ok (.iconst 3, 1) := by decide +kernel
theorem dX2_init_81 : decode cX2_init 81 = .ok (.if_icmp .ge 22, 3) := by decide +kernel
theorem dX2_init_84 : decode cX2_init 84 = .ok (.aload_n 0, 1) := by decide +kernel
theorem dX2_init_85 : decode cX2_init 85 = .ok (.getfield 11, 3) := by decide +kernel
theorem dX2_init_88 : decode cX2_init 88 = .ok (.iload_n 2, 1) := by decide +kernel
theorem dX2_init_89 : decode cX2_init 89 = .ok (.new 9, 3) := by decide +kernel
theorem dX2_init_92 : decode cX2_init 92 = .ok (.dup, 1) := by decide +kernel
theorem dX2_init_93 : decode cX2_init 93 = .ok (.invokespecial 56, 3) := by decide +kernel
theorem dX2_init_96 : decode cX2_init 96 = .ok (.aastore, 1) := by decide +kernel
theorem dX2_init_97 : decode cX2_init 97 = .ok (.iinc 2 1, 3) := by decide +kernel
theorem dX2_init_100 : decode cX2_init 100 = .ok (.goto (-21), 3) := by decide +kernel
theorem dX2_init_103 : decode cX2_init 103 = .ok (.return_, 1) := by decide +kernel
set_option maxRecDepth 20000 in
theorem ggX2_isQuietAt_X2_quietSeconds : GoodIn wsX2_isQuietAt wsX2_quietSeconds := goodIn_r _ [5, 6, 7, 8, 9, 4, 10, 11, 12, 13, 14, 15, 16, 17, 18, 19, 20, 21, 22, 23, 24, 25, 26, 27, 28, 29, 30] (by decide +kernel) (by decide +kernel)
set_option maxRecDepth 20000 in
theorem gX2_isQuietAt_X2_quietSeconds : GoodIn wsX2_isQuietAt (wsV RX2 57 RX2 yX2_quietSeconds wsX2_quietSeconds) := goodIn_app (goodIn_of _ (by decide +kernel)) ggX2_isQuietAt_X2_quietSeconds
theorem dX2_isQuietAt_0 : decode cX2_isQuietAt 0 = .ok (.aload_n 0, 1) := by decide +kernel
theorem dX2_isQuietAt_1 : decode cX2_isQuietAt 1 = .ok (.iload_n 1, 1) := by decide +kernel
theorem dX2_isQuietAt_2 : decode cX2_isQuietAt 2 = .ok (.iload_n 1, 1) := by decide +kernel
theorem dX2_isQuietAt_3 : decode cX2_isQuietAt 3 = .ok (.iconst 1, 1) := by decide +kernel
theorem dX2_isQuietAt_4 : decode cX2_isQuietAt 4 = .ok (.iadd, 1) := by decide +kernel
theorem dX2_isQuietAt_5 : decode cX2_isQuietAt 5 = .ok (.invokevirtual 57, 3) := by decide +kernel
theorem dX2_isQuietAt_8 : decode cX2_isQuietAt 8 = .ok (.ifCond .le 7, 3) := by decide +kernel
theorem dX2_isQuietAt_11 : decode cX2_isQuietAt 11 = .ok (.iconst 1, 1) := by decide +kernel
theorem dX2_isQuietAt_12 : decode cX2_isQuietAt 12 = .ok (.goto 4, 3) := by decide +kernel
theorem dX2_isQuietAt_15 : decode cX2_isQuietAt 15 = .ok (.iconst 0, 1) := by decide +kernel
theorem dX2_isQuietAt_16 : decode cX2_isQuietAt 16 = .ok (.ireturn, 1) := by decide +kernel
set_option maxRecDepth 20000 in
theorem ggX2_quietSeconds_X2_shared : GoodIn wsX2_quietSeconds wsX2_shared := goodIn_r _ [6, 7, 8, 9, 10, 11, 12, 13] (by decide +kernel) (by decide +kernel)
set_option maxRecDepth 20000 in
theorem gX2_quietSeconds_X2_shared : GoodIn wsX2_quietSeconds (va_wsS RX2 61 yX2_shared wsX2_shared) := goodIn_app (goodIn_of _ (by decide +kernel)) ggX2_quietSeconds_X2_shared
theorem dX2_quietSeconds_0 : decode cX2_quietSeconds 0 = .ok (.iload_n 1, 1) := by decide +kernel
theorem dX2_quietSeconds_1 : decode cX2_quietSeconds 1 = .ok (.sipush 1000, 3) := by decide +kernel
theorem dX2_quietSeconds_4 : decode cX2_quietSeconds 4 = .ok (.irem, 1) := by decide +kernel
theorem dX2_quietSeconds_5 : decode cX2_quietSeconds 5 = .ok (.istore_n 3, 1) := by decide +kernel
theorem dX2_quietSeconds_6 : decode cX2_quietSeconds 6 = .ok (.iload_n 3, 1) := by decide +kernel
theorem dX2_quietSeconds_7 : decode cX2_quietSeconds 7 = .ok (.iload_n 2, 1) := by decide +kernel
theorem dX2_quietSeconds_8 : decode cX2_quietSeconds 8 = .ok (.iadd, 1) := by decide +kernel
theorem dX2_quietSeconds_9 : decode cX2_quietSeconds 9 = .ok (.iload_n 1, 1) := by decide +kernel
theorem dX2_quietSeconds_10 : decode cX2_quietSeconds 10 = .ok (.isub, 1) := by decide +kernel
theorem dX2_quietSeconds_11 : decode cX2_quietSeconds 11 = .ok (.istore 4, 2) := by decide +kernel
theorem dX2_quietSeconds_13 : decode cX2_quietSeconds 13 = .ok (.aload_n 0, 1) := by decide +kernel
theorem dX2_quietSeconds_14 : decode cX2_quietSeconds 14 = .ok (.getfield 25, 3) := by decide +kernel
theorem dX2_quietSeconds_17 : decode cX2_quietSeconds 17 = .ok (.aload_n 0, 1) := by decide +kernel
theorem dX2_quietSeconds_18 : decode cX2_quietSeconds 18 = .ok (.getfield 29, 3) := by decide +kernel
theorem dX2_quietSeconds_21 : decode cX2_quietSeconds 21 = .ok (.if_icmp .gt 18, 3) := by decide +kernel
theorem dX2_quietSeconds_24 : decode cX2_quietSeconds 24 = .ok (.iload_n 3, 1) := by decide +kernel
theorem dX2_quietSeconds_25 : decode cX2_quietSeconds 25 = .ok (.iload 4, 2) := by decide +kernel
theorem dX2_quietSeconds_27 : decode cX2_quietSeconds 27 = .ok (.aload_n 0, 1) := by decide +kernel
theorem dX2_quietSeconds_28 : decode cX2_quietSeconds 28 = .ok (.getfield 25, 3) := by decide +kernel
theorem dX2_quietSeconds_31 : decode cX2_quietSeconds 31 = .ok (.aload_n 0, 1) := by decide +kernel
theorem dX2_quietSeconds_32 : decode cX2_quietSeconds 32 = .ok (.getfield 29, 3) := by decide +kernel
theorem dX2_quietSeconds_35 : decode cX2_quietSeconds 35 = .ok (.invokestatic 61, 3) := by decide +kernel
theorem dX2_quietSeconds_38 : decode cX2_quietSeconds 38 = .ok (.ireturn, 1) := by decide +kernel
theorem dX2_quietSeconds_39 : decode cX2_quietSeconds 39 = .ok (.iload_n 3, 1) := by decide +kernel
theorem dX2_quietSeconds_40 : decode cX2_quietSeconds 40 = .ok (.iload 4, 2) := by decide +kernel
theorem dX2_quietSeconds_42 : decode cX2_quietSeconds 42 = .ok (.iconst 0, 1) := by decide +kernel
theorem dX2_quietSeconds_43 : decode cX2_quietSeconds 43 = .ok (.aload_n 0, 1) := by decide +kernel
theorem dX2_quietSeconds_44 : decode cX2_quietSeconds 44 = .ok (.getfield 29, 3) := by decide +kernel
theorem dX2_quietSeconds_47 : decode cX2_quietSeconds 47 = .ok (.invokestatic 61, 3) := by decide +kernel
theorem dX2_quietSeconds_50 : decode cX2_quietSeconds 50 = .ok (.iload_n 3, 1) := by decide +kernel
theorem dX2_quietSeconds_51 : decode cX2_quietSeconds 51 = .ok (.iload 4, 2) := by decide +kernel
theorem dX2_quietSeconds_53 : decode cX2_quietSeconds 53 = .ok (.aload_n 0, 1) := by decide +kernel
theorem dX2_quietSeconds_54 : decode cX2_quietSeconds 54 = .ok (.getfield 25, 3) := by decide +kernel
theorem dX2_quietSeconds_57 : decode cX2_quietSeconds 57 = .ok (.sipush 1000, 3) := by decide +kernel
theorem dX2_quietSeconds_60 : decode cX2_quietSeconds 60 = .ok (.invokestatic 61, 3) := by decide +kernel
theorem dX2_quietSeconds_63 : decode cX2_quietSeconds 63 = .ok (.iadd, 1) := by decide +kernel
theorem dX2_quietSeconds_64 : decode cX2_quietSeconds 64 = .ok (.ireturn, 1) := by decide +kernel
theorem dX2_shared_0 : decode cX2_shared 0 = .ok (.iconst 0, 1) := by decide +kernel
theorem dX2_shared_1 : decode cX2_shared 1 = .ok (.iload_n 1, 1) := by decide +kernel
theorem dX2_shared_2 : decode cX2_shared 2 = .ok (.iload_n 3, 1) := by decide +kernel
theorem dX2_shared_3 : decode cX2_shared 3 = .ok (.invokestatic 65, 3) := by decide +kernel
theorem dX2_shared_6 : decode cX2_shared 6 = .ok (.iload_n 0, 1) := by decide +kernel
theorem dX2_shared_7 : decode cX2_shared 7 = .ok (.iload_n 2, 1) := by decide +kernel
theorem dX2_shared_8 : decode cX2_shared 8 = .ok (.invokestatic 70, 3) := by decide +kernel
theorem dX2_shared_11 : decode cX2_shared 11 = .ok (.isub, 1) := by decide +kernel
theorem dX2_shared_12 : decode cX2_shared 12 = .ok (.invokestatic 70, 3) := by decide +kernel
theorem dX2_shared_15 : decode cX2_shared 15 = .ok (.ireturn, 1) := by decide +kernel
theorem dX2_mayRing_0 : decode cX2_mayRing 0 = .ok (.aload_n 1, 1) := by decide +kernel
theorem dX2_mayRing_1 : decode cX2_mayRing 1 = .ok (.getfield 73, 3) := by decide +kernel
theorem dX2_mayRing_4 : decode cX2_mayRing 4 = .ok (.aload_n 0, 1) := by decide +kernel
theorem dX2_mayRing_5 : decode cX2_mayRing 5 = .ok (.getfield 50, 3) := by decide +kernel
theorem dX2_mayRing_8 : decode cX2_mayRing 8 = .ok (.if_icmp .eq 15, 3) := by decide +kernel
theorem dX2_mayRing_11 : decode cX2_mayRing 11 = .ok (.aload_n 0, 1) := by decide +kernel
theorem dX2_mayRing_12 : decode cX2_mayRing 12 = .ok (.getfield 17, 3) := by decide +kernel
theorem dX2_mayRing_15 : decode cX2_mayRing 15 = .ok (.aload_n 1, 1) := by decide +kernel
theorem dX2_mayRing_16 : decode cX2_mayRing 16 = .ok (.getfield 78, 3) := by decide +kernel
theorem dX2_mayRing_19 : decode cX2_mayRing 19 = .ok (.iaload, 1) := by decide +kernel
theorem dX2_mayRing_20 : decode cX2_mayRing 20 = .ok (.ifCond .le 7, 3) := by decide +kernel
theorem dX2_mayRing_23 : decode cX2_mayRing 23 = .ok (.iconst 1, 1) := by decide +kernel
theorem dX2_mayRing_24 : decode cX2_mayRing 24 = .ok (.goto 4, 3) := by decide +kernel
theorem dX2_mayRing_27 : decode cX2_mayRing 27 = .ok (.iconst 0, 1) := by decide +kernel
theorem dX2_mayRing_28 : decode cX2_mayRing 28 = .ok (.ireturn, 1) := by decide +kernel
theorem dX2_useRight_0 : decode cX2_useRight 0 = .ok (.aload_n 1, 1) := by decide +kernel
theorem dX2_useRight_1 : decode cX2_useRight 1 = .ok (.getfield 73, 3) := by decide +kernel
theorem dX2_useRight_4 : decode cX2_useRight 4 = .ok (.aload_n 0, 1) := by decide +kernel
theorem dX2_useRight_5 : decode cX2_useRight 5 = .ok (.getfield 50, 3) := by decide +kernel
theorem dX2_useRight_8 : decode cX2_useRight 8 = .ok (.if_icmp .eq 16, 3) := by decide +kernel
theorem dX2_useRight_11 : decode cX2_useRight 11 = .ok (.aload_n 0, 1) := by decide +kernel
theorem dX2_useRight_12 : decode cX2_useRight 12 = .ok (.getfield 17, 3) := by decide +kernel
theorem dX2_useRight_15 : decode cX2_useRight 15 = .ok (.aload_n 1, 1) := by decide +kernel
theorem dX2_useRight_16 : decode cX2_useRight 16 = .ok (.getfield 78, 3) := by decide +kernel
theorem dX2_useRight_19 : decode cX2_useRight 19 = .ok (.dup2, 1) := by decide +kernel
theorem dX2_useRight_20 : decode cX2_useRight 20 = .ok (.iaload, 1) := by decide +kernel
theorem dX2_useRight_21 : decode cX2_useRight 21 = .ok (.iconst 1, 1) := by decide +kernel
theorem dX2_useRight_22 : decode cX2_useRight 22 = .ok (.isub, 1) := by decide +kernel
theorem dX2_useRight_23 : decode cX2_useRight 23 = .ok (.iastore, 1) := by decide +kernel
theorem dX2_useRight_24 : decode cX2_useRight 24 = .ok (.return_, 1) := by decide +kernel
theorem dX2_ringingSet_0 : decode cX2_ringingSet 0 = .ok (.iconst 0, 1) := by decide +kernel
theorem dX2_ringingSet_1 : decode cX2_ringingSet 1 = .ok (.istore_n 1, 1) := by decide +kernel
theorem dX2_ringingSet_2 : decode cX2_ringingSet 2 = .ok (.iconst 0, 1) := by decide +kernel
theorem dX2_ringingSet_3 : decode cX2_ringingSet 3 = .ok (.istore_n 2, 1) := by decide +kernel
theorem dX2_ringingSet_4 : decode cX2_ringingSet 4 = .ok (.iload_n 2, 1) := by decide +kernel
theorem dX2_ringingSet_5 : decode cX2_ringingSet 5 = .ok (.iconst 3, 1) := by decide +kernel
theorem dX2_ringingSet_6 : decode cX2_ringingSet 6 = .ok (.if_icmp .ge 27, 3) := by decide +kernel
theorem dX2_ringingSet_9 : decode cX2_ringingSet 9 = .ok (.aload_n 0, 1) := by decide +kernel
theorem dX2_ringingSet_10 : decode cX2_ringingSet 10 = .ok (.getfield 11, 3) := by decide +kernel
theorem dX2_ringingSet_13 : decode cX2_ringingSet 13 = .ok (.iload_n 2, 1) := by decide +kernel
theorem dX2_ringingSet_14 : decode cX2_ringingSet 14 = .ok (.aaload, 1) := by decide +kernel
theorem dX2_ringingSet_15 : decode cX2_ringingSet 15 = .ok (.getfield 79, 3) := by decide +kernel
theorem dX2_ringingSet_18 : decode cX2_ringingSet 18 = .ok (.ifCond .eq 9, 3) := by decide +kernel
theorem dX2_ringingSet_21 : decode cX2_ringingSet 21 = .ok (.iload_n 1, 1) := by decide +kernel
theorem dX2_ringingSet_22 : decode cX2_ringingSet 22 = .ok (.iconst 1, 1) := by decide +kernel
theorem dX2_ringingSet_23 : decode cX2_ringingSet 23 = .ok (.iload_n 2, 1) := by decide +kernel
theorem dX2_ringingSet_24 : decode cX2_ringingSet 24 = .ok (.ishl, 1) := by decide +kernel
theorem dX2_ringingSet_25 : decode cX2_ringingSet 25 = .ok (.ior, 1) := by decide +kernel
theorem dX2_ringingSet_26 : decode cX2_ringingSet 26 = .ok (.istore_n 1, 1) := by decide +kernel
theorem dX2_ringingSet_27 : decode cX2_ringingSet 27 = .ok (.iinc 2 1, 3) := by decide +kernel
theorem dX2_ringingSet_30 : decode cX2_ringingSet 30 = .ok (.goto (-26), 3) := by decide +kernel
theorem dX2_ringingSet_33 : decode cX2_ringingSet 33 = .ok (.iload_n 1, 1) := by decide +kernel
theorem dX2_ringingSet_34 : decode cX2_ringingSet 34 = .ok (.ireturn, 1) := by decide +kernel
theorem dX2_ringingLoad_0 : decode cX2_ringingLoad 0 = .ok (.iconst 0, 1) := by decide +kernel
theorem dX2_ringingLoad_1 : decode cX2_ringingLoad 1 = .ok (.istore_n 1, 1) := by decide +kernel
theorem dX2_ringingLoad_2 : decode cX2_ringingLoad 2 = .ok (.aload_n 0, 1) := by decide +kernel
theorem dX2_ringingLoad_3 : decode cX2_ringingLoad 3 = .ok (.getfield 11, 3) := by decide +kernel
theorem dX2_ringingLoad_6 : decode cX2_ringingLoad 6 = .ok (.astore_n 2, 1) := by decide +kernel
theorem dX2_ringingLoad_7 : decode cX2_ringingLoad 7 = .ok (.aload_n 2, 1) := by decide +kernel
theorem dX2_ringingLoad_8 : decode cX2_ringingLoad 8 = .ok (.arraylength, 1) := by decide +kernel
theorem dX2_ringingLoad_9 : decode cX2_ringingLoad 9 = .ok (.istore_n 3, 1) := by decide +kernel
theorem dX2_ringingLoad_10 : decode cX2_ringingLoad 10 = .ok (.iconst 0, 1) := by decide +kernel
theorem dX2_ringingLoad_11 : decode cX2_ringingLoad 11 = .ok (.istore 4, 2) := by decide +kernel
theorem dX2_ringingLoad_13 : decode cX2_ringingLoad 13 = .ok (.iload 4, 2) := by decide +kernel
theorem dX2_ringingLoad_15 : decode cX2_ringingLoad 15 = .ok (.iload_n 3, 1) := by decide +kernel
theorem dX2_ringingLoad_16 : decode cX2_ringingLoad 16 = .ok (.if_icmp .ge 31, 3) := by decide +kernel
theorem dX2_ringingLoad_19 : decode cX2_ringingLoad 19 = .ok (.aload_n 2, 1) := by decide +kernel
theorem dX2_ringingLoad_20 : decode cX2_ringingLoad 20 = .ok (.iload 4, 2) := by decide +kernel
theorem dX2_ringingLoad_22 : decode cX2_ringingLoad 22 = .ok (.aaload, 1) := by decide +kernel
theorem dX2_ringingLoad_23 : decode cX2_ringingLoad 23 = .ok (.astore 5, 2) := by decide +kernel
theorem dX2_ringingLoad_25 : decode cX2_ringingLoad 25 = .ok (.aload 5, 2) := by decide +kernel
theorem dX2_ringingLoad_27 : decode cX2_ringingLoad 27 = .ok (.getfield 79, 3) := by decide +kernel
theorem dX2_ringingLoad_30 : decode cX2_ringingLoad 30 = .ok (.ifCond .eq 11, 3) := by decide +kernel
theorem dX2_ringingLoad_33 : decode cX2_ringingLoad 33 = .ok (.iload_n 1, 1) := by decide +kernel
theorem dX2_ringingLoad_34 : decode cX2_ringingLoad 34 = .ok (.aload 5, 2) := by decide +kernel
theorem dX2_ringingLoad_36 : decode cX2_ringingLoad 36 = .ok (.getfield 82, 3) := by decide +kernel
theorem dX2_ringingLoad_39 : decode cX2_ringingLoad 39 = .ok (.iadd, 1) := by decide +kernel
theorem dX2_ringingLoad_40 : decode cX2_ringingLoad 40 = .ok (.istore_n 1, 1) := by decide +kernel
theorem dX2_ringingLoad_41 : decode cX2_ringingLoad 41 = .ok (.iinc 4 1, 3) := by decide +kernel
theorem dX2_ringingLoad_44 : decode cX2_ringingLoad 44 = .ok (.goto (-31), 3) := by decide +kernel
theorem dX2_ringingLoad_47 : decode cX2_ringingLoad 47 = .ok (.iload_n 1, 1) := by decide +kernel
theorem dX2_ringingLoad_48 : decode cX2_ringingLoad 48 = .ok (.ireturn, 1) := by decide +kernel
set_option maxRecDepth 20000 in
theorem ggX2_startBells_X3_lasts : GoodIn wsX2_startBells wsX3_lasts := goodIn_r _ [6, 7, 32, 33, 34, 35] (by decide +kernel) (by decide +kernel)
set_option maxRecDepth 20000 in
theorem gX2_startBells_X3_lasts : GoodIn wsX2_startBells (wsV RX2 89 RX3 yX3_lasts wsX3_lasts) := goodIn_app (goodIn_of _ (by decide +kernel)) ggX2_startBells_X3_lasts
set_option maxRecDepth 20000 in
theorem ggX2_startBells_X0_ringUntil : GoodIn wsX2_startBells wsX0_ringUntil := goodIn_r _ [12, 13, 14, 28, 29, 30, 31] (by decide +kernel) (by decide +kernel)
set_option maxRecDepth 20000 in
theorem gX2_startBells_X0_ringUntil : GoodIn wsX2_startBells (wsV RX2 93 RX0 yX0_ringUntil wsX0_ringUntil) := goodIn_app (goodIn_of _ (by decide +kernel)) ggX2_startBells_X0_ringUntil
theorem dX2_startBells_0 : decode cX2_startBells 0 = .ok (.iconst 0, 1) := by decide +kernel
theorem dX2_startBells_1 : decode cX2_startBells 1 = .ok (.istore_n 2, 1) := by decide +kernel
theorem dX2_startBells_2 : decode cX2_startBells 2 = .ok (.aload_n 0, 1) := by decide +kernel
theorem dX2_startBells_3 : decode cX2_startBells 3 = .ok (.getfield 11, 3) := by decide +kernel
theorem dX2_startBells_6 : decode cX2_startBells 6 = .ok (.astore_n 3, 1) := by decide +kernel
theorem dX2_startBells_7 : decode cX2_startBells 7 = .ok (.aload_n 3, 1) := by decide +kernel
theorem dX2_startBells_8 : decode cX2_startBells 8 = .ok (.arraylength, 1) := by decide +kernel
theorem dX2_startBells_9 : decode cX2_startBells 9 = .ok (.istore 4, 2) := by decide +kernel
theorem dX2_startBells_11 : decode cX2_startBells 11 = .ok (.iconst 0, 1) := by decide +kernel
theorem dX2_startBells_12 : decode cX2_startBells 12 = .ok (.istore 5, 2) := by decide +kernel
theorem dX2_startBells_14 : decode cX2_startBells 14 = .ok (.iload 5, 2) := by decide +kernel
theorem dX2_startBells_16 : decode cX2_startBells 16 = .ok (.iload 4, 2) := by decide +kernel
theorem dX2_startBells_18 : decode cX2_startBells 18 = .ok (.if_icmp .ge 49, 3) := by decide +kernel
theorem dX2_startBells_21 : decode cX2_startBells 21 = .ok (.aload_n 3, 1) := by decide +kernel
theorem dX2_startBells_22 : decode cX2_startBells 22 = .ok (.iload 5, 2) := by decide +kernel
theorem dX2_startBells_24 : decode cX2_startBells 24 = .ok (.aaload, 1) := by decide +kernel
theorem dX2_startBells_25 : decode cX2_startBells 25 = .ok (.astore 6, 2) := by decide +kernel
theorem dX2_startBells_27 : decode cX2_startBells 27 = .ok (.aload 6, 2) := by decide +kernel
theorem dX2_startBells_29 : decode cX2_startBells 29 = .ok (.getfield 85, 3) := by decide +kernel
theorem dX2_startBells_32 : decode cX2_startBells 32 = .ok (.ifnull 29, 3) := by decide +kernel
theorem dX2_startBells_35 : decode cX2_startBells 35 = .ok (.aload 6, 2) := by decide +kernel
theorem dX2_startBells_37 : decode cX2_startBells 37 = .ok (.getfield 79, 3) := by decide +kernel
theorem dX2_startBells_40 : decode cX2_startBells 40 = .ok (.ifCond .ne 21, 3) := by decide +kernel
theorem dX2_startBells_43 : decode cX2_startBells 43 = .ok (.aload 6, 2) := by decide +kernel
theorem dX2_startBells_45 : decode cX2_startBells 45 = .ok (.iload_n 1, 1) := by decide +kernel
theorem dX2_startBells_46 : decode cX2_startBells 46 = .ok (.aload 6, 2) := by decide +kernel
theorem dX2_startBells_48 : decode cX2_startBells 48 = .ok (.getfield 85, 3) := by decide +kernel
theorem dX2_startBells_51 : decode cX2_startBells 51 = .ok (.invokevirtual 89, 3) := by decide +kernel
theorem dX2_startBells_54 : decode cX2_startBells 54 = .ok (.iadd, 1) := by decide +kernel
theorem dX2_startBells_55 : decode cX2_startBells 55 = .ok (.invokevirtual 93, 3) := by decide +kernel
theorem dX2_startBells_58 : decode cX2_startBells 58 = .ok (.iinc 2 1, 3) := by decide +kernel
theorem dX2_startBells_61 : decode cX2_startBells 61 = .ok (.iinc 5 1, 3) := by decide +kernel
theorem dX2_startBells_64 : decode cX2_startBells 64 = .ok (.goto (-50), 3) := by decide +kernel
theorem dX2_startBells_67 : decode cX2_startBells 67 = .ok (.iload_n 2, 1) := by decide +kernel
theorem dX2_startBells_68 : decode cX2_startBells 68 = .ok (.ireturn, 1) := by decide +kernel
theorem dX2_breakDown_0 : decode cX2_breakDown 0 = .ok (.aload_n 0, 1) := by decide +kernel
theorem dX2_breakDown_1 : decode cX2_breakDown 1 = .ok (.iconst 0, 1) := by decide +kernel
theorem dX2_breakDown_2 : decode cX2_breakDown 2 = .ok (.putfield 21, 3) := by decide +kernel
theorem dX2_breakDown_5 : decode cX2_breakDown 5 = .ok (.aload_n 0, 1) := by decide +kernel
theorem dX2_breakDown_6 : decode cX2_breakDown 6 = .ok (.getfield 11, 3) := by decide +kernel
theorem dX2_breakDown_9 : decode cX2_breakDown 9 = .ok (.astore_n 1, 1) := by decide +kernel
theorem dX2_breakDown_10 : decode cX2_breakDown 10 = .ok (.aload_n 1, 1) := by decide +kernel
theorem dX2_breakDown_11 : decode cX2_breakDown 11 = .ok (.arraylength, 1) := by decide +kernel
theorem dX2_breakDown_12 : decode cX2_breakDown 12 = .ok (.istore_n 2, 1) := by decide +kernel
theorem dX2_breakDown_13 : decode cX2_breakDown 13 = .ok (.iconst 0, 1) := by decide +kernel
theorem dX2_breakDown_14 : decode cX2_breakDown 14 = .ok (.istore_n 3, 1) := by decide +kernel
theorem dX2_breakDown_15 : decode cX2_breakDown 15 = .ok (.iload_n 3, 1) := by decide +kernel
theorem dX2_breakDown_16 : decode cX2_breakDown 16 = .ok (.iload_n 2, 1) := by decide +kernel
theorem dX2_breakDown_17 : decode cX2_breakDown 17 = .ok (.if_icmp .ge 20, 3) := by decide +kernel
theorem dX2_breakDown_20 : decode cX2_breakDown 20 = .ok (.aload_n 1, 1) := by decide +kernel
theorem dX2_breakDown_21 : decode cX2_breakDown 21 = .ok (.iload_n 3, 1) := by decide +kernel
theorem dX2_breakDown_22 : decode cX2_breakDown 22 = .ok (.aaload, 1) := by decide +kernel
theorem dX2_breakDown_23 : decode cX2_breakDown 23 = .ok (.astore 4, 2) := by decide +kernel
theorem dX2_breakDown_25 : decode cX2_breakDown 25 = .ok (.aload 4, 2) := by decide +kernel
theorem dX2_breakDown_27 : decode cX2_breakDown 27 = .ok (.iconst 0, 1) := by decide +kernel
theorem dX2_breakDown_28 : decode cX2_breakDown 28 = .ok (.putfield 79, 3) := by decide +kernel
theorem dX2_breakDown_31 : decode cX2_breakDown 31 = .ok (.iinc 3 1, 3) := by decide +kernel
theorem dX2_breakDown_34 : decode cX2_breakDown 34 = .ok (.goto (-19), 3) := by decide +kernel
theorem dX2_breakDown_37 : decode cX2_breakDown 37 = .ok (.return_, 1) := by decide +kernel
theorem dX2_firstStop_0 : decode cX2_firstStop 0 = .ok (.iload_n 1, 1) := by decide +kernel
theorem dX2_firstStop_1 : decode cX2_firstStop 1 = .ok (.istore_n 2, 1) := by decide +kernel
theorem dX2_firstStop_2 : decode cX2_firstStop 2 = .ok (.aload_n 0, 1) := by decide +kernel
theorem dX2_firstStop_3 : decode cX2_firstStop 3 = .ok (.getfield 11, 3) := by decide +kernel
theorem dX2_firstStop_6 : decode cX2_firstStop 6 = .ok (.astore_n 3, 1) := by decide +kernel
theorem dX2_firstStop_7 : decode cX2_firstStop 7 = .ok (.aload_n 3, 1) := by decide +kernel
theorem dX2_firstStop_8 : decode cX2_firstStop 8 = .ok (.arraylength, 1) := by decide +kernel
theorem dX2_firstStop_9 : decode cX2_firstStop 9 = .ok (.istore 4, 2) := by decide +kernel
theorem dX2_firstStop_11 : decode cX2_firstStop 11 = .ok (.iconst 0, 1) := by decide +kernel
theorem dX2_firstStop_12 : decode cX2_firstStop 12 = .ok (.istore 5, 2) := by decide +kernel
theorem dX2_firstStop_14 : decode cX2_firstStop 14 = .ok (.iload 5, 2) := by decide +kernel
theorem dX2_firstStop_16 : decode cX2_firstStop 16 = .ok (.iload 4, 2) := by decide +kernel
theorem dX2_firstStop_18 : decode cX2_firstStop 18 = .ok (.if_icmp .ge 38, 3) := by decide +kernel
theorem dX2_firstStop_21 : decode cX2_firstStop 21 = .ok (.aload_n 3, 1) := by decide +kernel
theorem dX2_firstStop_22 : decode cX2_firstStop 22 = .ok (.iload 5, 2) := by decide +kernel
theorem dX2_firstStop_24 : decode cX2_firstStop 24 = .ok (.aaload, 1) := by decide +kernel
theorem dX2_firstStop_25 : decode cX2_firstStop 25 = .ok (.astore 6, 2) := by decide +kernel
theorem dX2_firstStop_27 : decode cX2_firstStop 27 = .ok (.aload 6, 2) := by decide +kernel
theorem dX2_firstStop_29 : decode cX2_firstStop 29 = .ok (.getfield 79, 3) := by decide +kernel
theorem dX2_firstStop_32 : decode cX2_firstStop 32 = .ok (.ifCond .eq 18, 3) := by decide +kernel
theorem dX2_firstStop_35 : decode cX2_firstStop 35 = .ok (.aload 6, 2) := by decide +kernel
theorem dX2_firstStop_37 : decode cX2_firstStop 37 = .ok (.getfield 97, 3) := by decide +kernel
theorem dX2_firstStop_40 : decode cX2_firstStop 40 = .ok (.iload_n 2, 1) := by decide +kernel
theorem dX2_firstStop_41 : decode cX2_firstStop 41 = .ok (.if_icmp .ge 9, 3) := by decide +kernel
theorem dX2_firstStop_44 : decode cX2_firstStop 44 = .ok (.aload 6, 2) := by decide +kernel
theorem dX2_firstStop_46 : decode cX2_firstStop 46 = .ok (.getfield 97, 3) := by decide +kernel
theorem dX2_firstStop_49 : decode cX2_firstStop 49 = .ok (.istore_n 2, 1) := by decide +kernel
theorem dX2_firstStop_50 : decode cX2_firstStop 50 = .ok (.iinc 5 1, 3) := by decide +kernel
theorem dX2_firstStop_53 : decode cX2_firstStop 53 = .ok (.goto (-39), 3) := by decide +kernel
theorem dX2_firstStop_56 : decode cX2_firstStop 56 = .ok (.iload_n 2, 1) := by decide +kernel
theorem dX2_firstStop_57 : decode cX2_firstStop 57 = .ok (.ireturn, 1) := by decide +kernel
theorem dX2_stopEndedBells_0 : decode cX2_stopEndedBells 0 = .ok (.aload_n 0, 1) := by decide +kernel
theorem dX2_stopEndedBells_1 : decode cX2_stopEndedBells 1 = .ok (.getfield 11, 3) := by decide +kernel
theorem dX2_stopEndedBells_4 : decode cX2_stopEndedBells 4 = .ok (.astore_n 2, 1) := by decide +kernel
theorem dX2_stopEndedBells_5 : decode cX2_stopEndedBells 5 = .ok (.aload_n 2, 1) := by decide +kernel
theorem dX2_stopEndedBells_6 : decode cX2_stopEndedBells 6 = .ok (.arraylength, 1) := by decide +kernel
theorem dX2_stopEndedBells_7 : decode cX2_stopEndedBells 7 = .ok (.istore_n 3, 1) := by decide +kernel
theorem dX2_stopEndedBells_8 : decode cX2_stopEndedBells 8 = .ok (.iconst 0, 1) := by decide +kernel
theorem dX2_stopEndedBells_9 : decode cX2_stopEndedBells 9 = .ok (.istore 4, 2) := by decide +kernel
theorem dX2_stopEndedBells_11 : decode cX2_stopEndedBells 11 = .ok (.iload 4, 2) := by decide +kernel
theorem dX2_stopEndedBells_13 : decode cX2_stopEndedBells 13 = .ok (.iload_n 3, 1) := by decide +kernel
theorem dX2_stopEndedBells_14 : decode cX2_stopEndedBells 14 = .ok (.if_icmp .ge 30, 3) := by decide +kernel
theorem dX2_stopEndedBells_17 : decode cX2_stopEndedBells 17 = .ok (.aload_n 2, 1) := by decide +kernel
theorem dX2_stopEndedBells_18 : decode cX2_stopEndedBells 18 = .ok (.iload 4, 2) := by decide +kernel
theorem dX2_stopEndedBells_20 : decode cX2_stopEndedBells 20 = .ok (.aaload, 1) := by decide +kernel
theorem dX2_stopEndedBells_21 : decode cX2_stopEndedBells 21 = .ok (.astore 5, 2) := by decide +kernel
theorem dX2_stopEndedBells_23 : decode cX2_stopEndedBells 23 = .ok (.aload 5, 2) := by decide +kernel
theorem dX2_stopEndedBells_25 : decode cX2_stopEndedBells 25 = .ok (.getfield 97, 3) := by decide +kernel
theorem dX2_stopEndedBells_28 : decode cX2_stopEndedBells 28 = .ok (.iload_n 1, 1) := by decide +kernel
theorem dX2_stopEndedBells_29 : decode cX2_stopEndedBells 29 = .ok (.if_icmp .gt 9, 3) := by decide +kernel
theorem dX2_stopEndedBells_32 : decode cX2_stopEndedBells 32 = .ok (.aload 5, 2) := by decide +kernel
theorem dX2_stopEndedBells_34 : decode cX2_stopEndedBells 34 = .ok (.iconst 0, 1) := by decide +kernel
theorem dX2_stopEndedBells_35 : decode cX2_stopEndedBells 35 = .ok (.putfield 79, 3) := by decide +kernel
theorem dX2_stopEndedBells_38 : decode cX2_stopEndedBells 38 = .ok (.iinc 4 1, 3) := by decide +kernel
theorem dX2_stopEndedBells_41 : decode cX2_stopEndedBells 41 = .ok (.goto (-30), 3) := by decide +kernel
theorem dX2_stopEndedBells_44 : decode cX2_stopEndedBells 44 = .ok (.return_, 1) := by decide +kernel
set_option maxRecDepth 20000 in
theorem ggX2_spend_X2_ringingSet : GoodIn wsX2_spend wsX2_ringingSet := goodIn_r _ [8, 9, 26, 27, 28, 29, 30, 31, 32, 33, 34, 35, 36, 37, 38, 39, 40, 41, 42] (by decide +kernel) (by decide +kernel)
set_option maxRecDepth 20000 in
theorem gX2_spend_X2_ringingSet : GoodIn wsX2_spend (wsV RX2 100 RX2 yX2_ringingSet wsX2_ringingSet) := goodIn_app (goodIn_of _ (by decide +kernel)) ggX2_spend_X2_ringingSet
set_option maxRecDepth 20000 in
theorem ggX2_spend_X2_quietSeconds : GoodIn wsX2_spend wsX2_quietSeconds := goodIn_r _ [13, 14, 15, 16, 17, 7, 18, 19, 20, 21, 22, 23, 24, 25, 26, 27, 28, 29, 30, 31, 32, 33, 34, 35, 36, 37, 38] (by decide +kernel) (by decide +kernel)
set_option maxRecDepth 20000 in
theorem gX2_spend_X2_quietSeconds : GoodIn wsX2_spend (wsV RX2 57 RX2 yX2_quietSeconds wsX2_quietSeconds) := goodIn_app (goodIn_of _ (by decide +kernel)) ggX2_spend_X2_quietSeconds
theorem dX2_spend_0 : decode cX2_spend 0 = .ok (.aload_n 0, 1) := by decide +kernel
theorem dX2_spend_1 : decode cX2_spend 1 = .ok (.invokevirtual 100, 3) := by decide +kernel
theorem dX2_spend_4 : decode cX2_spend 4 = .ok (.ifCond .ne 4, 3) := by decide +kernel
theorem dX2_spend_7 : decode cX2_spend 7 = .ok (.return_, 1) := by decide +kernel
theorem dX2_spend_8 : decode cX2_spend 8 = .ok (.aload_n 0, 1) := by decide +kernel
theorem dX2_spend_9 : decode cX2_spend 9 = .ok (.iload_n 1, 1) := by decide +kernel
theorem dX2_spend_10 : decode cX2_spend 10 = .ok (.iload_n 2, 1) := by decide +kernel
theorem dX2_spend_11 : decode cX2_spend 11 = .ok (.invokevirtual 57, 3) := by decide +kernel
theorem dX2_spend_14 : decode cX2_spend 14 = .ok (.istore_n 3, 1) := by decide +kernel
theorem dX2_spend_15 : decode cX2_spend 15 = .ok (.aload_n 0, 1) := by decide +kernel
theorem dX2_spend_16 : decode cX2_spend 16 = .ok (.dup, 1) := by decide +kernel
theorem dX2_spend_17 : decode cX2_spend 17 = .ok (.getfield 35, 3) := by decide +kernel
theorem dX2_spend_20 : decode cX2_spend 20 = .ok (.iload_n 2, 1) := by decide +kernel
theorem dX2_spend_21 : decode cX2_spend 21 = .ok (.iload_n 1, 1) := by decide +kernel
theorem dX2_spend_22 : decode cX2_spend 22 = .ok (.isub, 1) := by decide +kernel
theorem dX2_spend_23 : decode cX2_spend 23 = .ok (.iadd, 1) := by decide +kernel
theorem dX2_spend_24 : decode cX2_spend 24 = .ok (.putfield 35, 3) := by decide +kernel
theorem dX2_spend_27 : decode cX2_spend 27 = .ok (.aload_n 0, 1) := by decide +kernel
theorem dX2_spend_28 : decode cX2_spend 28 = .ok (.dup, 1) := by decide +kernel
theorem dX2_spend_29 : decode cX2_spend 29 = .ok (.getfield 38, 3) := by decide +kernel
theorem dX2_spend_32 : decode cX2_spend 32 = .ok (.iload_n 3, 1) := by decide +kernel
theorem dX2_spend_33 : decode cX2_spend 33 = .ok (.iadd, 1) := by decide +kernel
theorem dX2_spend_34 : decode cX2_spend 34 = .ok (.putfield 38, 3) := by decide +kernel
theorem dX2_spend_37 : decode cX2_spend 37 = .ok (.iload_n 3, 1) := by decide +kernel
theorem dX2_spend_38 : decode cX2_spend 38 = .ok (.ifCond .le 8, 3) := by decide +kernel
theorem dX2_spend_41 : decode cX2_spend 41 = .ok (.aload_n 0, 1) := by decide +kernel
theorem dX2_spend_42 : decode cX2_spend 42 = .ok (.iconst 0, 1) := by decide +kernel
theorem dX2_spend_43 : decode cX2_spend 43 = .ok (.putfield 47, 3) := by decide +kernel
theorem dX2_spend_46 : decode cX2_spend 46 = .ok (.return_, 1) := by decide +kernel
theorem dX2_closeDay_0 : decode cX2_closeDay 0 = .ok (.aload_n 0, 1) := by decide +kernel
theorem dX2_closeDay_1 : decode cX2_closeDay 1 = .ok (.getfield 47, 3) := by decide +kernel
theorem dX2_closeDay_4 : decode cX2_closeDay 4 = .ok (.ifCond .eq 13, 3) := by decide +kernel
theorem dX2_closeDay_7 : decode cX2_closeDay 7 = .ok (.aload_n 0, 1) := by decide +kernel
theorem dX2_closeDay_8 : decode cX2_closeDay 8 = .ok (.dup, 1) := by decide +kernel
theorem dX2_closeDay_9 : decode cX2_closeDay 9 = .ok (.getfield 32, 3) := by decide +kernel
theorem dX2_closeDay_12 : decode cX2_closeDay 12 = .ok (.iconst 1, 1) := by decide +kernel
theorem dX2_closeDay_13 : decode cX2_closeDay 13 = .ok (.iadd, 1) := by decide +kernel
theorem dX2_closeDay_14 : decode cX2_closeDay 14 = .ok (.putfield 32, 3) := by decide +kernel
theorem dX2_closeDay_17 : decode cX2_closeDay 17 = .ok (.aload_n 0, 1) := by decide +kernel
theorem dX2_closeDay_18 : decode cX2_closeDay 18 = .ok (.dup, 1) := by decide +kernel
theorem dX2_closeDay_19 : decode cX2_closeDay 19 = .ok (.getfield 32, 3) := by decide +kernel
theorem dX2_closeDay_22 : decode cX2_closeDay 22 = .ok (.iconst 3, 1) := by decide +kernel
theorem dX2_closeDay_23 : decode cX2_closeDay 23 = .ok (.aload_n 0, 1) := by decide +kernel
theorem dX2_closeDay_24 : decode cX2_closeDay 24 = .ok (.getfield 44, 3) := by decide +kernel
theorem dX2_closeDay_27 : decode cX2_closeDay 27 = .ok (.imul, 1) := by decide +kernel
theorem dX2_closeDay_28 : decode cX2_closeDay 28 = .ok (.isub, 1) := by decide +kernel
theorem dX2_closeDay_29 : decode cX2_closeDay 29 = .ok (.putfield 32, 3) := by decide +kernel
theorem dX2_closeDay_32 : decode cX2_closeDay 32 = .ok (.aload_n 0, 1) := by decide +kernel
theorem dX2_closeDay_33 : decode cX2_closeDay 33 = .ok (.iconst 1, 1) := by decide +kernel
theorem dX2_closeDay_34 : decode cX2_closeDay 34 = .ok (.putfield 47, 3) := by decide +kernel
theorem dX2_closeDay_37 : decode cX2_closeDay 37 = .ok (.aload_n 0, 1) := by decide +kernel
theorem dX2_closeDay_38 : decode cX2_closeDay 38 = .ok (.iconst 0, 1) := by decide +kernel
theorem dX2_closeDay_39 : decode cX2_closeDay 39 = .ok (.putfield 44, 3) := by decide +kernel
theorem dX2_closeDay_42 : decode cX2_closeDay 42 = .ok (.return_, 1) := by decide +kernel
theorem dX3_init_0 : decode cX3_init 0 = .ok (.aload_n 0, 1) := by decide +kernel
theorem dX3_init_1 : decode cX3_init 1 = .ok (.invokespecial 3, 3) := by decide +kernel
theorem dX3_init_4 : decode cX3_init 4 = .ok (.aload_n 0, 1) := by decide +kernel
theorem dX3_init_5 : decode cX3_init 5 = .ok (.iload_n 1, 1) := by decide +kernel
theorem dX3_init_6 : decode cX3_init 6 = .ok (.putfield 9, 3) := by decide +kernel
theorem dX3_init_9 : decode cX3_init 9 = .ok (.aload_n 0, 1) := by decide +kernel
theorem dX3_init_10 : decode cX3_init 10 = .ok (.iload_n 2, 1) := by decide +kernel
theorem dX3_init_11 : decode cX3_init 11 = .ok (.putfield 15, 3) := by decide +kernel
theorem dX3_init_14 : decode cX3_init 14 = .ok (.aload_n 0, 1) := by decide +kernel
theorem dX3_init_15 : decode cX3_init 15 = .ok (.iload_n 3, 1) := by decide +kernel
theorem dX3_init_16 : decode cX3_init 16 = .ok (.putfield 18, 3) := by decide +kernel
theorem dX3_init_19 : decode cX3_init 19 = .ok (.aload_n 0, 1) := by decide +kernel
theorem dX3_init_20 : decode cX3_init 20 = .ok (.lload 4, 2) := by decide +kernel
theorem dX3_init_22 : decode cX3_init 22 = .ok (.putfield 21, 3) := by decide +kernel
theorem dX3_init_25 : decode cX3_init 25 = .ok (.return_, 1) := by decide +kernel
theorem dX3_lasts_0 : decode cX3_lasts 0 = .ok (.iconst 2, 1) := by decide +kernel
theorem dX3_lasts_1 : decode cX3_lasts 1 = .ok (.aload_n 0, 1) := by decide +kernel
theorem dX3_lasts_2 : decode cX3_lasts 2 = .ok (.getfield 18, 3) := by decide +kernel
theorem dX3_lasts_5 : decode cX3_lasts 5 = .ok (.imul, 1) := by decide +kernel
theorem dX3_lasts_6 : decode cX3_lasts 6 = .ok (.ireturn, 1) := by decide +kernel
theorem dX3_tone_0 : decode cX3_tone 0 = .ok (.aload_n 0, 1) := by decide +kernel
theorem dX3_tone_1 : decode cX3_tone 1 = .ok (.getfield 21, 3) := by decide +kernel
theorem dX3_tone_4 : decode cX3_tone 4 = .ok (.iconst 4, 1) := by decide +kernel
theorem dX3_tone_5 : decode cX3_tone 5 = .ok (.iload_n 1, 1) := by decide +kernel
theorem dX3_tone_6 : decode cX3_tone 6 = .ok (.imul, 1) := by decide +kernel
theorem dX3_tone_7 : decode cX3_tone 7 = .ok (.lshr, 1) := by decide +kernel
theorem dX3_tone_8 : decode cX3_tone 8 = .ok (.l2i, 1) := by decide +kernel
theorem dX3_tone_9 : decode cX3_tone 9 = .ok (.bipush 15, 2) := by decide +kernel
theorem dX3_tone_11 : decode cX3_tone 11 = .ok (.iand, 1) := by decide +kernel
theorem dX3_tone_12 : decode cX3_tone 12 = .ok (.ireturn, 1) := by decide +kernel
set_option maxRecDepth 20000 in
theorem ggX3_tonesShifted_X3_tone : GoodIn wsX3_tonesShifted wsX3_tone := goodIn_r _ [6, 7, 8, 9, 10, 11] (by decide +kernel) (by decide +kernel)
set_option maxRecDepth 20000 in
theorem gX3_tonesShifted_X3_tone : GoodIn wsX3_tonesShifted (wsV RX3 25 RX3 yX3_tone wsX3_tone) := goodIn_app (goodIn_of _ (by decide +kernel)) ggX3_tonesShifted_X3_tone
theorem dX3_tonesShifted_0 : decode cX3_tonesShifted 0 = .ok (.lconst 0, 1) := by decide +kernel
theorem dX3_tonesShifted_1 : decode cX3_tonesShifted 1 = .ok (.lstore_n 2, 1) := by decide +kernel
theorem dX3_tonesShifted_2 : decode cX3_tonesShifted 2 = .ok (.aload_n 0, 1) := by decide +kernel
theorem dX3_tonesShifted_3 : decode cX3_tonesShifted 3 = .ok (.getfield 18, 3) := by decide +kernel
theorem dX3_tonesShifted_6 : decode cX3_tonesShifted 6 = .ok (.iconst 1, 1) := by decide +kernel
theorem dX3_tonesShifted_7 : decode cX3_tonesShifted 7 = .ok (.isub, 1) := by decide +kernel
theorem dX3_tonesShifted_8 : decode cX3_tonesShifted 8 = .ok (.istore 4, 2) := by decide +kernel
theorem dX3_tonesShifted_10 : decode cX3_tonesShifted 10 = .ok (.iload 4, 2) := by decide +kernel
theorem dX3_tonesShifted_12 : decode cX3_tonesShifted 12 = .ok (.ifCond .lt 26, 3) := by decide +kernel
theorem dX3_tonesShifted_15 : decode cX3_tonesShifted 15 = .ok (.lload_n 2, 1) := by decide +kernel
theorem dX3_tonesShifted_16 : decode cX3_tonesShifted 16 = .ok (.iconst 4, 1) := by decide +kernel
theorem dX3_tonesShifted_17 : decode cX3_tonesShifted 17 = .ok (.lshl, 1) := by decide +kernel
theorem dX3_tonesShifted_18 : decode cX3_tonesShifted 18 = .ok (.aload_n 0, 1) := by decide +kernel
theorem dX3_tonesShifted_19 : decode cX3_tonesShifted 19 = .ok (.iload 4, 2) := by decide +kernel
theorem dX3_tonesShifted_21 : decode cX3_tonesShifted 21 = .ok (.invokevirtual 25, 3) := by decide +kernel
theorem dX3_tonesShifted_24 : decode cX3_tonesShifted 24 = .ok (.iload_n 1, 1) := by decide +kernel
theorem dX3_tonesShifted_25 : decode cX3_tonesShifted 25 = .ok (.iadd, 1) := by decide +kernel
theorem dX3_tonesShifted_26 : decode cX3_tonesShifted 26 = .ok (.bipush 15, 2) := by decide +kernel
theorem dX3_tonesShifted_28 : decode cX3_tonesShifted 28 = .ok (.iand, 1) := by decide +kernel
theorem dX3_tonesShifted_29 : decode cX3_tonesShifted 29 = .ok (.i2l, 1) := by decide +kernel
theorem dX3_tonesShifted_30 : decode cX3_tonesShifted 30 = .ok (.lor, 1) := by decide +kernel
theorem dX3_tonesShifted_31 : decode cX3_tonesShifted 31 = .ok (.lstore_n 2, 1) := by decide +kernel
theorem dX3_tonesShifted_32 : decode cX3_tonesShifted 32 = .ok (.iinc 4 (-1), 3) := by decide +kernel
theorem dX3_tonesShifted_35 : decode cX3_tonesShifted 35 = .ok (.goto (-25), 3) := by decide +kernel
theorem dX3_tonesShifted_38 : decode cX3_tonesShifted 38 = .ok (.lload_n 2, 1) := by decide +kernel
theorem dX3_tonesShifted_39 : decode cX3_tonesShifted 39 = .ok (.lreturn, 1) := by decide +kernel
set_option maxRecDepth 20000 in
theorem ggX3_tonesTurned_X3_tone : GoodIn wsX3_tonesTurned wsX3_tone := goodIn_r _ [6, 7, 8, 9, 10, 11] (by decide +kernel) (by decide +kernel)
set_option maxRecDepth 20000 in
theorem gX3_tonesTurned_X3_tone : GoodIn wsX3_tonesTurned (wsV RX3 25 RX3 yX3_tone wsX3_tone) := goodIn_app (goodIn_of _ (by decide +kernel)) ggX3_tonesTurned_X3_tone
theorem dX3_tonesTurned_0 : decode cX3_tonesTurned 0 = .ok (.lconst 0, 1) := by decide +kernel
theorem dX3_tonesTurned_1 : decode cX3_tonesTurned 1 = .ok (.lstore_n 1, 1) := by decide +kernel
theorem dX3_tonesTurned_2 : decode cX3_tonesTurned 2 = .ok (.iconst 0, 1) := by decide +kernel
theorem dX3_tonesTurned_3 : decode cX3_tonesTurned 3 = .ok (.istore_n 3, 1) := by decide +kernel
theorem dX3_tonesTurned_4 : decode cX3_tonesTurned 4 = .ok (.iload_n 3, 1) := by decide +kernel
theorem dX3_tonesTurned_5 : decode cX3_tonesTurned 5 = .ok (.aload_n 0, 1) := by decide +kernel
theorem dX3_tonesTurned_6 : decode cX3_tonesTurned 6 = .ok (.getfield 18, 3) := by decide +kernel
theorem dX3_tonesTurned_9 : decode cX3_tonesTurned 9 = .ok (.if_icmp .ge 20, 3) := by decide +kernel
theorem dX3_tonesTurned_12 : decode cX3_tonesTurned 12 = .ok (.lload_n 1, 1) := by decide +kernel
theorem dX3_tonesTurned_13 : decode cX3_tonesTurned 13 = .ok (.iconst 4, 1) := by decide +kernel
theorem dX3_tonesTurned_14 : decode cX3_tonesTurned 14 = .ok (.lshl, 1) := by decide +kernel
theorem dX3_tonesTurned_15 : decode cX3_tonesTurned 15 = .ok (.aload_n 0, 1) := by decide +kernel
theorem dX3_tonesTurned_16 : decode cX3_tonesTurned 16 = .ok (.iload_n 3, 1) := by decide +kernel
theorem dX3_tonesTurned_17 : decode cX3_tonesTurned 17 = .ok (.invokevirtual 25, 3) := by decide +kernel
theorem dX3_tonesTurned_20 : decode cX3_tonesTurned 20 = .ok (.i2l, 1) := by decide +kernel
theorem dX3_tonesTurned_21 : decode cX3_tonesTurned 21 = .ok (.lor, 1) := by decide +kernel
theorem dX3_tonesTurned_22 : decode cX3_tonesTurned 22 = .ok (.lstore_n 1, 1) := by decide +kernel
theorem dX3_tonesTurned_23 : decode cX3_tonesTurned 23 = .ok (.iinc 3 1, 3) := by decide +kernel
theorem dX3_tonesTurned_26 : decode cX3_tonesTurned 26 = .ok (.goto (-22), 3) := by decide +kernel
theorem dX3_tonesTurned_29 : decode cX3_tonesTurned 29 = .ok (.lload_n 1, 1) := by decide +kernel
theorem dX3_tonesTurned_30 : decode cX3_tonesTurned 30 = .ok (.lreturn, 1) := by decide +kernel
set_option maxRecDepth 20000 in
theorem ggX3_isShiftOf_X3_tone : GoodIn wsX3_isShiftOf wsX3_tone := goodIn_r _ [7, 2, 12, 13, 14, 15] (by decide +kernel) (by decide +kernel)
set_option maxRecDepth 20000 in
theorem gX3_isShiftOf_X3_tone : GoodIn wsX3_isShiftOf (wsV RX3 25 RX3 yX3_tone wsX3_tone) := goodIn_app (goodIn_of _ (by decide +kernel)) ggX3_isShiftOf_X3_tone
set_option maxRecDepth 20000 in
theorem ggX3_isShiftOf_X3_tonesShifted : GoodIn wsX3_isShiftOf wsX3_tonesShifted := goodIn_r _ [11, 1, 3, 4, 5, 6, 7, 2, 12, 13, 14, 15] (by decide +kernel) (by decide +kernel)
set_option maxRecDepth 20000 in
theorem gX3_isShiftOf_X3_tonesShifted : GoodIn wsX3_isShiftOf (wsV RX3 29 RX3 yX3_tonesShifted wsX3_tonesShifted) := goodIn_app (goodIn_of _ (by decide +kernel)) ggX3_isShiftOf_X3_tonesShifted
theorem dX3_isShiftOf_0 : decode cX3_isShiftOf 0 = .ok (.aload_n 0, 1) := by decide +kernel
theorem dX3_isShiftOf_1 : decode cX3_isShiftOf 1 = .ok (.iconst 0, 1) := by decide +kernel
theorem dX3_isShiftOf_2 : decode cX3_isShiftOf 2 = .ok (.invokevirtual 25, 3) := by decide +kernel
theorem dX3_isShiftOf_5 : decode cX3_isShiftOf 5 = .ok (.aload_n 1, 1) := by decide +kernel
theorem dX3_isShiftOf_6 : decode cX3_isShiftOf 6 = .ok (.iconst 0, 1) := by decide +kernel
theorem dX3_isShiftOf_7 : decode cX3_isShiftOf 7 = .ok (.invokevirtual 25, 3) := by decide +kernel
theorem dX3_isShiftOf_10 : decode cX3_isShiftOf 10 = .ok (.isub, 1) := by decide +kernel
theorem dX3_isShiftOf_11 : decode cX3_isShiftOf 11 = .ok (.bipush 15, 2) := by decide +kernel
theorem dX3_isShiftOf_13 : decode cX3_isShiftOf 13 = .ok (.iand, 1) := by decide +kernel
theorem dX3_isShiftOf_14 : decode cX3_isShiftOf 14 = .ok (.istore_n 2, 1) := by decide +kernel
theorem dX3_isShiftOf_15 : decode cX3_isShiftOf 15 = .ok (.aload_n 0, 1) := by decide +kernel
theorem dX3_isShiftOf_16 : decode cX3_isShiftOf 16 = .ok (.getfield 18, 3) := by decide +kernel
theorem dX3_isShiftOf_19 : decode cX3_isShiftOf 19 = .ok (.aload_n 1, 1) := by decide +kernel
theorem dX3_isShiftOf_20 : decode cX3_isShiftOf 20 = .ok (.getfield 18, 3) := by decide +kernel
theorem dX3_isShiftOf_23 : decode cX3_isShiftOf 23 = .ok (.if_icmp .ne 20, 3) := by decide +kernel
theorem dX3_isShiftOf_26 : decode cX3_isShiftOf 26 = .ok (.aload_n 0, 1) := by decide +kernel
theorem dX3_isShiftOf_27 : decode cX3_isShiftOf 27 = .ok (.getfield 21, 3) := by decide +kernel
theorem dX3_isShiftOf_30 : decode cX3_isShiftOf 30 = .ok (.aload_n 1, 1) := by decide +kernel
theorem dX3_isShiftOf_31 : decode cX3_isShiftOf 31 = .ok (.iload_n 2, 1) := by decide +kernel
theorem dX3_isShiftOf_32 : decode cX3_isShiftOf 32 = .ok (.invokevirtual 29, 3) := by decide +kernel
theorem dX3_isShiftOf_35 : decode cX3_isShiftOf 35 = .ok (.lcmp, 1) := by decide +kernel
theorem dX3_isShiftOf_36 : decode cX3_isShiftOf 36 = .ok (.ifCond .ne 7, 3) := by decide +kernel
theorem dX3_isShiftOf_39 : decode cX3_isShiftOf 39 = .ok (.iconst 1, 1) := by decide +kernel
theorem dX3_isShiftOf_40 : decode cX3_isShiftOf 40 = .ok (.goto 4, 3) := by decide +kernel
theorem dX3_isShiftOf_43 : decode cX3_isShiftOf 43 = .ok (.iconst 0, 1) := by decide +kernel
theorem dX3_isShiftOf_44 : decode cX3_isShiftOf 44 = .ok (.ireturn, 1) := by decide +kernel
set_option maxRecDepth 20000 in
theorem ggX4_init_X2_init : GoodIn wsX4_init wsX2_init := goodIn_r _ [21, 22, 2, 3, 23, 24, 10, 25, 26, 27, 28, 29, 30, 31, 32, 33, 34, 35, 36, 37, 38, 39, 40, 41, 42, 43, 44, 45, 58, 59, 60, 61, 62, 63, 64, 65, 66, 67, 68, 69, 70, 73, 74, 75, 76] (by decide +kernel) (by decide +kernel)
set_option maxRecDepth 20000 in
theorem gX4_init_X2_init : GoodIn wsX4_init (wsX2_init) := ggX4_init_X2_init
set_option maxRecDepth 20000 in
theorem ggX4_init_X1_init : GoodIn wsX4_init wsX1_init := goodIn_r _ [47, 48, 2, 3, 49, 50, 71, 72] (by decide +kernel) (by decide +kernel)
set_option maxRecDepth 20000 in
theorem gX4_init_X1_init_n44 : GoodIn wsX4_init (wsX1_init) := ggX4_init_X1_init
theorem dX4_init_0 : decode cX4_init 0 = .ok (.aload_n 0, 1) := by decide +kernel
theorem dX4_init_1 : decode cX4_init 1 = .ok (.invokespecial 1, 3) := by decide +kernel
theorem dX4_init_4 : decode cX4_init 4 = .ok (.aload_n 0, 1) := by decide +kernel
theorem dX4_init_5 : decode cX4_init 5 = .ok (.bipush 8, 2) := by decide +kernel
theorem dX4_init_7 : decode cX4_init 7 = .ok (.anewarray 9, 3) := by decide +kernel
theorem dX4_init_10 : decode cX4_init 10 = .ok (.putfield 11, 3) := by decide +kernel
theorem dX4_init_13 : decode cX4_init 13 = .ok (.aload_n 0, 1) := by decide +kernel
theorem dX4_init_14 : decode cX4_init 14 = .ok (.iconst 2, 1) := by decide +kernel
theorem dX4_init_15 : decode cX4_init 15 = .ok (.anewarray 15, 3) := by decide +kernel
theorem dX4_init_18 : decode cX4_init 18 = .ok (.putfield 17, 3) := by decide +kernel
theorem dX4_init_21 : decode cX4_init 21 = .ok (.aload_n 0, 1) := by decide +kernel
theorem dX4_init_22 : decode cX4_init 22 = .ok (.bipush 12, 2) := by decide +kernel
theorem dX4_init_24 : decode cX4_init 24 = .ok (.anewarray 21, 3) := by decide +kernel
theorem dX4_init_27 : decode cX4_init 27 = .ok (.putfield 23, 3) := by decide +kernel
theorem dX4_init_30 : decode cX4_init 30 = .ok (.aload_n 0, 1) := by decide +kernel
theorem dX4_init_31 : decode cX4_init 31 = .ok (.bipush 100, 2) := by decide +kernel
theorem dX4_init_33 : decode cX4_init 33 = .ok (.newarray .int, 2) := by decide +kernel
theorem dX4_init_35 : decode cX4_init 35 = .ok (.putfield 27, 3) := by decide +kernel
theorem dX4_init_38 : decode cX4_init 38 = .ok (.aload_n 0, 1) := by decide +kernel
theorem dX4_init_39 : decode cX4_init 39 = .ok (.iconst 0, 1) := by decide +kernel
theorem dX4_init_40 : decode cX4_init 40 = .ok (.putfield 31, 3) := by decide +kernel
theorem dX4_init_43 : decode cX4_init 43 = .ok (.aload_n 0, 1) := by decide +kernel
theorem dX4_init_44 : decode cX4_init 44 = .ok (.iconst 0, 1) := by decide +kernel
theorem dX4_init_45 : decode cX4_init 45 = .ok (.putfield 35, 3) := by decide +kernel
theorem dX4_init_48 : decode cX4_init 48 = .ok (.aload_n 0, 1) := by decide +kernel
theorem dX4_init_49 : decode cX4_init 49 = .ok (.iconst 0, 1) := by decide +kernel
theorem dX4_init_50 : decode cX4_init 50 = .ok (.putfield 38, 3) := by decide +kernel
theorem dX4_init_53 : decode cX4_init 53 = .ok (.iconst 0, 1) := by decide +kernel
theorem dX4_init_54 : decode cX4_init 54 = .ok (.istore_n 1, 1) := by decide +kernel
theorem dX4_init_55 : decode cX4_init 55 = .ok (.iload_n 1, 1) := by decide +kernel
theorem dX4_init_56 : decode cX4_init 56 = .ok (.bipush 8, 2) := by decide +kernel
theorem dX4_init_58 : decode cX4_init 58 = .ok (.if_icmp .ge 23, 3) := by decide +kernel
theorem dX4_init_61 : decode cX4_init 61 = .ok (.aload_n 0, 1) := by decide +kernel
theorem dX4_init_62 : decode cX4_init 62 = .ok (.getfield 11, 3) := by decide +kernel
theorem dX4_init_65 : decode cX4_init 65 = .ok (.iload_n 1, 1) := by decide +kernel
theorem dX4_init_66 : decode cX4_init 66 = .ok (.new 9, 3) := by decide +kernel
theorem dX4_init_69 : decode cX4_init 69 = .ok (.dup, 1) := by decide +kernel
theorem dX4_init_70 : decode cX4_init 70 = .ok (.iload_n 1, 1) := by decide +kernel
theorem dX4_init_71 : decode cX4_init 71 = .ok (.invokespecial 41, 3) := by decide +kernel
theorem dX4_init_74 : decode cX4_init 74 = .ok (.aastore, 1) := by decide +kernel
theorem dX4_init_75 : decode cX4_init 75 = .ok (.iinc 1 1, 3) := by decide +kernel
theorem dX4_init_78 : decode cX4_init 78 = .ok (.goto (-23), 3) := by decide +kernel
theorem dX4_init_81 : decode cX4_init 81 = .ok (.iconst 0, 1) := by decide +kernel
theorem dX4_init_82 : decode cX4_init 82 = .ok (.istore_n 1, 1) := by decide +kernel
theorem dX4_init_83 : decode cX4_init 83 = .ok (.iload_n 1, 1) := by decide +kernel
theorem dX4_init_84 : decode cX4_init 84 = .ok (.iconst 2, 1) := by decide +kernel
theorem dX4_init_85 : decode cX4_init 85 = .ok (.if_icmp .ge 22, 3) := by decide +kernel
theorem dX4_init_88 : decode cX4_init 88 = .ok (.aload_n 0, 1) := by decide +kernel
theorem dX4_init_89 : decode cX4_init 89 = .ok (.getfield 17, 3) := by decide +kernel
theorem dX4_init_92 : decode cX4_init 92 = .ok (.iload_n 1, 1) := by decide +kernel
theorem dX4_init_93 : decode cX4_init 93 = .ok (.new 15, 3) := by decide +kernel
theorem dX4_init_96 : decode cX4_init 96 = .ok (.dup, 1) := by decide +kernel
theorem dX4_init_97 : decode cX4_init 97 = .ok (.invokespecial 44, 3) := by decide +kernel
theorem dX4_init_100 : decode cX4_init 100 = .ok (.aastore, 1) := by decide +kernel
theorem dX4_init_101 : decode cX4_init 101 = .ok (.iinc 1 1, 3) := by decide +kernel
theorem dX4_init_104 : decode cX4_init 104 = .ok (.goto (-21), 3) := by decide +kernel
theorem dX4_init_107 : decode cX4_init 107 = .ok (.return_, 1) := by decide +kernel
set_option maxRecDepth 20000 in
theorem ggX4_addMelody_X4_checkHouse : GoodIn wsX4_addMelody wsX4_checkHouse := goodIn_ca (goodIn_r _ [14, 15, 16] (by decide +kernel) (by decide +kernel)) (goodIn_sub (fun _ h => List.mem_cons_of_mem _ (List.mem_append_right _ h)) (by decide +kernel))
set_option maxRecDepth 20000 in
theorem gX4_addMelody_X4_checkHouse : GoodIn wsX4_addMelody (wsV RX4 45 RX4 yX4_checkHouse wsX4_checkHouse) := goodIn_app (goodIn_of _ (by decide +kernel)) ggX4_addMelody_X4_checkHouse
set_option maxRecDepth 20000 in
theorem ggX4_addMelody_X3_init : GoodIn wsX4_addMelody wsX3_init := goodIn_r _ [19, 20, 21, 22, 23, 24, 25, 26, 34, 35, 36, 37] (by decide +kernel) (by decide +kernel)
set_option maxRecDepth 20000 in
theorem gX4_addMelody_X3_init : GoodIn wsX4_addMelody (wsX3_init) := ggX4_addMelody_X3_init
theorem dX4_addMelody_0 : decode cX4_addMelody 0 = .ok (.aload_n 0, 1) := by decide +kernel
theorem dX4_addMelody_1 : decode cX4_addMelody 1 = .ok (.iload_n 1, 1) := by decide +kernel
theorem dX4_addMelody_2 : decode cX4_addMelody 2 = .ok (.invokevirtual 45, 3) := by decide +kernel
theorem dX4_addMelody_5 : decode cX4_addMelody 5 = .ok (.iload_n 2, 1) := by decide +kernel
theorem dX4_addMelody_6 : decode cX4_addMelody 6 = .ok (.iconst 1, 1) := by decide +kernel
theorem dX4_addMelody_7 : decode cX4_addMelody 7 = .ok (.if_icmp .lt 9, 3) := by decide +kernel
theorem dX4_addMelody_10 : decode cX4_addMelody 10 = .ok (.iload_n 2, 1) := by decide +kernel
theorem dX4_addMelody_11 : decode cX4_addMelody 11 = .ok (.bipush 12, 2) := by decide +kernel
theorem dX4_addMelody_13 : decode cX4_addMelody 13 = .ok (.if_icmp .le 13, 3) := by decide +kernel
theorem dX4_addMelody_16 : decode cX4_addMelody 16 = .ok (.new 48, 3) := by decide +kernel
theorem dX4_addMelody_19 : decode cX4_addMelody 19 = .ok (.dup, 1) := by decide +kernel
theorem dX4_addMelody_20 : decode cX4_addMelody 20 = .ok (.ldc 50, 2) := by decide +kernel
theorem dX4_addMelody_22 : decode cX4_addMelody 22 = .ok (.invokespecial 52, 3) := by decide +kernel
theorem dX4_addMelody_25 : decode cX4_addMelody 25 = .ok (.athrow, 1) := by decide +kernel
theorem dX4_addMelody_26 : decode cX4_addMelody 26 = .ok (.lload_n 3, 1) := by decide +kernel
theorem dX4_addMelody_27 : decode cX4_addMelody 27 = .ok (.lconst 0, 1) := by decide +kernel
theorem dX4_addMelody_28 : decode cX4_addMelody 28 = .ok (.lcmp, 1) := by decide +kernel
theorem dX4_addMelody_29 : decode cX4_addMelody 29 = .ok (.ifCond .lt 13, 3) := by decide +kernel
theorem dX4_addMelody_32 : decode cX4_addMelody 32 = .ok (.lload_n 3, 1) := by decide +kernel
theorem dX4_addMelody_33 : decode cX4_addMelody 33 = .ok (.iconst 4, 1) := by decide +kernel
theorem dX4_addMelody_34 : decode cX4_addMelody 34 = .ok (.iload_n 2, 1) := by decide +kernel
theorem dX4_addMelody_35 : decode cX4_addMelody 35 = .ok (.imul, 1) := by decide +kernel
theorem dX4_addMelody_36 : decode cX4_addMelody 36 = .ok (.lshr, 1) := by decide +kernel
theorem dX4_addMelody_37 : decode cX4_addMelody 37 = .ok (.lconst 0, 1) := by decide +kernel
theorem dX4_addMelody_38 : decode cX4_addMelody 38 = .ok (.lcmp, 1) := by decide +kernel
theorem dX4_addMelody_39 : decode cX4_addMelody 39 = .ok (.ifCond .eq 13, 3) := by decide +kernel
theorem dX4_addMelody_42 : decode cX4_addMelody 42 = .ok (.new 48, 3) := by decide +kernel
theorem dX4_addMelody_45 : decode cX4_addMelody 45 = .ok (.dup, 1) := by decide +kernel
theorem dX4_addMelody_46 : decode cX4_addMelody 46 = .ok (.ldc 55, 2) := by decide +kernel
theorem dX4_addMelody_48 : decode cX4_addMelody 48 = .ok (.invokespecial 52, 3) := by decide +kernel
theorem dX4_addMelody_51 : decode cX4_addMelody 51 = .ok (.athrow, 1) := by decide +kernel
theorem dX4_addMelody_52 : decode cX4_addMelody 52 = .ok (.aload_n 0, 1) := by decide +kernel
theorem dX4_addMelody_53 : decode cX4_addMelody 53 = .ok (.getfield 31, 3) := by decide +kernel
theorem dX4_addMelody_56 : decode cX4_addMelody 56 = .ok (.bipush 12, 2) := by decide +kernel
theorem dX4_addMelody_58 : decode cX4_addMelody 58 = .ok (.if_icmp .lt 13, 3) := by decide +kernel
theorem dX4_addMelody_61 : decode cX4_addMelody 61 = .ok (.new 57, 3) := by decide +kernel
theorem dX4_addMelody_64 : decode cX4_addMelody 64 = .ok (.dup, 1) := by decide +kernel
theorem dX4_addMelody_65 : decode cX4_addMelody 65 = .ok (.ldc 59, 2) := by decide +kernel
theorem dX4_addMelody_67 : decode cX4_addMelody 67 = .ok (.invokespecial 61, 3) := by decide +kernel
theorem dX4_addMelody_70 : decode cX4_addMelody 70 = .ok (.athrow, 1) := by decide +kernel
theorem dX4_addMelody_71 : decode cX4_addMelody 71 = .ok (.aload_n 0, 1) := by decide +kernel
theorem dX4_addMelody_72 : decode cX4_addMelody 72 = .ok (.getfield 31, 3) := by decide +kernel
theorem dX4_addMelody_75 : decode cX4_addMelody 75 = .ok (.istore 5, 2) := by decide +kernel
theorem dX4_addMelody_77 : decode cX4_addMelody 77 = .ok (.aload_n 0, 1) := by decide +kernel
theorem dX4_addMelody_78 : decode cX4_addMelody 78 = .ok (.getfield 23, 3) := by decide +kernel
theorem dX4_addMelody_81 : decode cX4_addMelody 81 = .ok (.iload 5, 2) := by decide +kernel
theorem dX4_addMelody_83 : decode cX4_addMelody 83 = .ok (.new 21, 3) := by decide +kernel
theorem dX4_addMelody_86 : decode cX4_addMelody 86 = .ok (.dup, 1) := by decide +kernel
theorem dX4_addMelody_87 : decode cX4_addMelody 87 = .ok (.iload 5, 2) := by decide +kernel
theorem dX4_addMelody_89 : decode cX4_addMelody 89 = .ok (.iload_n 1, 1) := by decide +kernel
theorem dX4_addMelody_90 : decode cX4_addMelody 90 = .ok (.iload_n 2, 1) := by decide +kernel
theorem dX4_addMelody_91 : decode cX4_addMelody 91 = .ok (.lload_n 3, 1) := by decide +kernel
theorem dX4_addMelody_92 : decode cX4_addMelody 92 = .ok (.invokespecial 62, 3) := by decide +kernel
theorem dX4_addMelody_95 : decode cX4_addMelody 95 = .ok (.aastore, 1) := by decide +kernel
theorem dX4_addMelody_96 : decode cX4_addMelody 96 = .ok (.aload_n 0, 1) := by decide +kernel
theorem dX4_addMelody_97 : decode cX4_addMelody 97 = .ok (.dup, 1) := by decide +kernel
theorem dX4_addMelody_98 : decode cX4_addMelody 98 = .ok (.getfield 31, 3) := by decide +kernel
theorem dX4_addMelody_101 : decode cX4_addMelody 101 = .ok (.iconst 1, 1) := by decide +kernel
theorem dX4_addMelody_102 : decode cX4_addMelody 102 = .ok (.iadd, 1) := by decide +kernel
theorem dX4_addMelody_103 : decode cX4_addMelody 103 = .ok (.putfield 31, 3) := by decide +kernel
theorem dX4_addMelody_106 : decode cX4_addMelody 106 = .ok (.iload 5, 2) := by decide +kernel
theorem dX4_addMelody_108 : decode cX4_addMelody 108 = .ok (.ireturn, 1) := by decide +kernel
set_option maxRecDepth 20000 in
theorem ggX4_toneAt_X4_melodyAt : GoodIn wsX4_toneAt wsX4_melodyAt := goodIn_ca (goodIn_r _ [7, 1, 2, 8, 19, 20, 21, 22, 23, 24, 25] (by decide +kernel) (by decide +kernel)) (goodIn_sub (fun _ h => List.mem_cons_of_mem _ (List.mem_append_right _ h)) (by decide +kernel))
set_option maxRecDepth 20000 in
theorem gX4_toneAt_X4_melodyAt : GoodIn wsX4_toneAt (wsV RX4 65 RX4 yX4_melodyAt wsX4_melodyAt) := goodIn_app (goodIn_of _ (by decide +kernel)) ggX4_toneAt_X4_melodyAt
set_option maxRecDepth 20000 in
theorem ggX4_toneAt_X3_tone : GoodIn wsX4_toneAt wsX3_tone := goodIn_r _ [13, 14, 15, 16, 17, 18] (by decide +kernel) (by decide +kernel)
set_option maxRecDepth 20000 in
theorem gX4_toneAt_X3_tone : GoodIn wsX4_toneAt (wsV RX4 77 RX3 yX3_tone wsX3_tone) := goodIn_app (goodIn_of _ (by decide +kernel)) ggX4_toneAt_X3_tone
theorem dX4_toneAt_0 : decode cX4_toneAt 0 = .ok (.aload_n 0, 1) := by decide +kernel
theorem dX4_toneAt_1 : decode cX4_toneAt 1 = .ok (.iload_n 1, 1) := by decide +kernel
theorem dX4_toneAt_2 : decode cX4_toneAt 2 = .ok (.invokevirtual 65, 3) := by decide +kernel
theorem dX4_toneAt_5 : decode cX4_toneAt 5 = .ok (.astore_n 3, 1) := by decide +kernel
theorem dX4_toneAt_6 : decode cX4_toneAt 6 = .ok (.iload_n 2, 1) := by decide +kernel
theorem dX4_toneAt_7 : decode cX4_toneAt 7 = .ok (.ifCond .lt 11, 3) := by decide +kernel
theorem dX4_toneAt_10 : decode cX4_toneAt 10 = .ok (.iload_n 2, 1) := by decide +kernel
theorem dX4_toneAt_11 : decode cX4_toneAt 11 = .ok (.aload_n 3, 1) := by decide +kernel
theorem dX4_toneAt_12 : decode cX4_toneAt 12 = .ok (.getfield 69, 3) := by decide +kernel
theorem dX4_toneAt_15 : decode cX4_toneAt 15 = .ok (.if_icmp .lt 13, 3) := by decide +kernel
theorem dX4_toneAt_18 : decode cX4_toneAt 18 = .ok (.new 72, 3) := by decide +kernel
theorem dX4_toneAt_21 : decode cX4_toneAt 21 = .ok (.dup, 1) := by decide +kernel
theorem dX4_toneAt_22 : decode cX4_toneAt 22 = .ok (.ldc 74, 2) := by decide +kernel
theorem dX4_toneAt_24 : decode cX4_toneAt 24 = .ok (.invokespecial 76, 3) := by decide +kernel
theorem dX4_toneAt_27 : decode cX4_toneAt 27 = .ok (.athrow, 1) := by decide +kernel
theorem dX4_toneAt_28 : decode cX4_toneAt 28 = .ok (.aload_n 3, 1) := by decide +kernel
theorem dX4_toneAt_29 : decode cX4_toneAt 29 = .ok (.iload_n 2, 1) := by decide +kernel
theorem dX4_toneAt_30 : decode cX4_toneAt 30 = .ok (.invokevirtual 77, 3) := by decide +kernel
theorem dX4_toneAt_33 : decode cX4_toneAt 33 = .ok (.ireturn, 1) := by decide +kernel
set_option maxRecDepth 20000 in
theorem ggX4_shifted_X4_melodyAt : GoodIn wsX4_shifted wsX4_melodyAt := goodIn_ca (goodIn_r _ [7, 8, 9, 10, 22, 23, 24, 25, 26, 27, 28] (by decide +kernel) (by decide +kernel)) (goodIn_sub (fun _ h => List.mem_cons_of_mem _ (List.mem_append_right _ h)) (by decide +kernel))
set_option maxRecDepth 20000 in
theorem gX4_shifted_X4_melodyAt : GoodIn wsX4_shifted (wsV RX4 65 RX4 yX4_melodyAt wsX4_melodyAt) := goodIn_app (goodIn_of _ (by decide +kernel)) ggX4_shifted_X4_melodyAt
set_option maxRecDepth 20000 in
theorem ggX4_shifted_X3_tonesShifted : GoodIn wsX4_shifted wsX3_tonesShifted := goodIn_r _ [15, 16, 17, 18, 19, 14, 20, 21, 29, 30, 31, 32] (by decide +kernel) (by decide +kernel)
set_option maxRecDepth 20000 in
theorem gX4_shifted_X3_tonesShifted : GoodIn wsX4_shifted (wsV RX4 83 RX3 yX3_tonesShifted wsX3_tonesShifted) := goodIn_app (goodIn_of _ (by decide +kernel)) ggX4_shifted_X3_tonesShifted
theorem dX4_shifted_0 : decode cX4_shifted 0 = .ok (.aload_n 0, 1) := by decide +kernel
theorem dX4_shifted_1 : decode cX4_shifted 1 = .ok (.iload_n 1, 1) := by decide +kernel
theorem dX4_shifted_2 : decode cX4_shifted 2 = .ok (.invokevirtual 65, 3) := by decide +kernel
theorem dX4_shifted_5 : decode cX4_shifted 5 = .ok (.astore_n 3, 1) := by decide +kernel
theorem dX4_shifted_6 : decode cX4_shifted 6 = .ok (.iload_n 2, 1) := by decide +kernel
theorem dX4_shifted_7 : decode cX4_shifted 7 = .ok (.ifCond .lt 9, 3) := by decide +kernel
theorem dX4_shifted_10 : decode cX4_shifted 10 = .ok (.iload_n 2, 1) := by decide +kernel
theorem dX4_shifted_11 : decode cX4_shifted 11 = .ok (.bipush 15, 2) := by decide +kernel
theorem dX4_shifted_13 : decode cX4_shifted 13 = .ok (.if_icmp .le 13, 3) := by decide +kernel
theorem dX4_shifted_16 : decode cX4_shifted 16 = .ok (.new 48, 3) := by decide +kernel
theorem dX4_shifted_19 : decode cX4_shifted 19 = .ok (.dup, 1) := by decide +kernel
theorem dX4_shifted_20 : decode cX4_shifted 20 = .ok (.ldc 81, 2) := by decide +kernel
theorem dX4_shifted_22 : decode cX4_shifted 22 = .ok (.invokespecial 52, 3) := by decide +kernel
theorem dX4_shifted_25 : decode cX4_shifted 25 = .ok (.athrow, 1) := by decide +kernel
theorem dX4_shifted_26 : decode cX4_shifted 26 = .ok (.aload_n 3, 1) := by decide +kernel
theorem dX4_shifted_27 : decode cX4_shifted 27 = .ok (.iload_n 2, 1) := by decide +kernel
theorem dX4_shifted_28 : decode cX4_shifted 28 = .ok (.invokevirtual 83, 3) := by decide +kernel
theorem dX4_shifted_31 : decode cX4_shifted 31 = .ok (.lreturn, 1) := by decide +kernel
set_option maxRecDepth 20000 in
theorem ggX4_turned_X4_melodyAt : GoodIn wsX4_turned wsX4_melodyAt := goodIn_ca (goodIn_r _ [5, 6, 7, 8, 20, 21, 22, 23, 24, 25, 26] (by decide +kernel) (by decide +kernel)) (goodIn_sub (fun _ h => List.mem_cons_of_mem _ (List.mem_append_right _ h)) (by decide +kernel))
set_option maxRecDepth 20000 in
theorem gX4_turned_X4_melodyAt : GoodIn wsX4_turned (wsV RX4 65 RX4 yX4_melodyAt wsX4_melodyAt) := goodIn_app (goodIn_of _ (by decide +kernel)) ggX4_turned_X4_melodyAt
set_option maxRecDepth 20000 in
theorem ggX4_turned_X3_tonesTurned : GoodIn wsX4_turned wsX3_tonesTurned := goodIn_r _ [13, 14, 15, 16, 17, 12, 18, 19, 27, 28, 29, 30] (by decide +kernel) (by decide +kernel)
set_option maxRecDepth 20000 in
theorem gX4_turned_X3_tonesTurned : GoodIn wsX4_turned (wsV RX4 87 RX3 yX3_tonesTurned wsX3_tonesTurned) := goodIn_app (goodIn_of _ (by decide +kernel)) ggX4_turned_X3_tonesTurned
theorem dX4_turned_0 : decode cX4_turned 0 = .ok (.aload_n 0, 1) := by decide +kernel
theorem dX4_turned_1 : decode cX4_turned 1 = .ok (.iload_n 1, 1) := by decide +kernel
theorem dX4_turned_2 : decode cX4_turned 2 = .ok (.invokevirtual 65, 3) := by decide +kernel
theorem dX4_turned_5 : decode cX4_turned 5 = .ok (.invokevirtual 87, 3) := by decide +kernel
theorem dX4_turned_8 : decode cX4_turned 8 = .ok (.lreturn, 1) := by decide +kernel
set_option maxRecDepth 20000 in
theorem ggX4_areAlike_X4_melodyAt : GoodIn wsX4_areAlike wsX4_melodyAt := goodIn_ca (goodIn_r _ [5, 6, 7, 8, 24, 25, 26, 27, 28, 29, 30] (by decide +kernel) (by decide +kernel)) (goodIn_sub (fun _ h => List.mem_cons_of_mem _ (List.mem_append_right _ h)) (by decide +kernel))
set_option maxRecDepth 20000 in
theorem gX4_areAlike_X4_melodyAt : GoodIn wsX4_areAlike (wsV RX4 65 RX4 yX4_melodyAt wsX4_melodyAt) := goodIn_app (goodIn_of _ (by decide +kernel)) ggX4_areAlike_X4_melodyAt
set_option maxRecDepth 20000 in
theorem ggX4_areAlike_X3_isShiftOf : GoodIn wsX4_areAlike wsX3_isShiftOf := goodIn_r _ [13, 14, 15, 16, 17, 18, 12, 19, 20, 21, 22, 23, 31, 32, 33, 34] (by decide +kernel) (by decide +kernel)
set_option maxRecDepth 20000 in
theorem gX4_areAlike_X3_isShiftOf : GoodIn wsX4_areAlike (wsV RX4 91 RX3 yX3_isShiftOf wsX3_isShiftOf) := goodIn_app (goodIn_of _ (by decide +kernel)) ggX4_areAlike_X3_isShiftOf
theorem dX4_areAlike_0 : decode cX4_areAlike 0 = .ok (.aload_n 0, 1) := by decide +kernel
theorem dX4_areAlike_1 : decode cX4_areAlike 1 = .ok (.iload_n 1, 1) := by decide +kernel
theorem dX4_areAlike_2 : decode cX4_areAlike 2 = .ok (.invokevirtual 65, 3) := by decide +kernel
theorem dX4_areAlike_5 : decode cX4_areAlike 5 = .ok (.aload_n 0, 1) := by decide +kernel
theorem dX4_areAlike_6 : decode cX4_areAlike 6 = .ok (.iload_n 2, 1) := by decide +kernel
theorem dX4_areAlike_7 : decode cX4_areAlike 7 = .ok (.invokevirtual 65, 3) := by decide +kernel
theorem dX4_areAlike_10 : decode cX4_areAlike 10 = .ok (.invokevirtual 91, 3) := by decide +kernel
theorem dX4_areAlike_13 : decode cX4_areAlike 13 = .ok (.ireturn, 1) := by decide +kernel
set_option maxRecDepth 20000 in
theorem ggX4_license_X4_houseAt : GoodIn wsX4_license wsX4_houseAt := goodIn_ca (goodIn_r _ [9, 10, 11, 12, 13, 8, 14, 15, 16, 39, 40, 41, 42, 43, 44, 45] (by decide +kernel) (by decide +kernel)) (goodIn_sub (fun _ h => List.mem_cons_of_mem _ (List.mem_append_right _ h)) (by decide +kernel))
set_option maxRecDepth 20000 in
theorem gX4_license_X4_houseAt : GoodIn wsX4_license (wsV RX4 95 RX4 yX4_houseAt wsX4_houseAt) := goodIn_app (goodIn_of _ (by decide +kernel)) ggX4_license_X4_houseAt
set_option maxRecDepth 20000 in
theorem ggX4_license_X4_melodyAt : GoodIn wsX4_license wsX4_melodyAt := goodIn_ca (goodIn_r _ [20, 15, 16, 21, 39, 40, 41, 42, 43, 44, 45] (by decide +kernel) (by decide +kernel)) (goodIn_sub (fun _ h => List.mem_cons_of_mem _ (List.mem_append_right _ h)) (by decide +kernel))
set_option maxRecDepth 20000 in
theorem gX4_license_X4_melodyAt : GoodIn wsX4_license (wsV RX4 65 RX4 yX4_melodyAt wsX4_melodyAt) := goodIn_app (goodIn_of _ (by decide +kernel)) ggX4_license_X4_melodyAt
theorem dX4_license_0 : decode cX4_license 0 = .ok (.aload_n 0, 1) := by decide +kernel
theorem dX4_license_1 : decode cX4_license 1 = .ok (.iload_n 1, 1) := by decide +kernel
theorem dX4_license_2 : decode cX4_license 2 = .ok (.invokevirtual 95, 3) := by decide +kernel
theorem dX4_license_5 : decode cX4_license 5 = .ok (.astore 4, 2) := by decide +kernel
theorem dX4_license_7 : decode cX4_license 7 = .ok (.aload_n 0, 1) := by decide +kernel
theorem dX4_license_8 : decode cX4_license 8 = .ok (.iload_n 2, 1) := by decide +kernel
theorem dX4_license_9 : decode cX4_license 9 = .ok (.invokevirtual 65, 3) := by decide +kernel
theorem dX4_license_12 : decode cX4_license 12 = .ok (.astore 5, 2) := by decide +kernel
theorem dX4_license_14 : decode cX4_license 14 = .ok (.iload_n 3, 1) := by decide +kernel
theorem dX4_license_15 : decode cX4_license 15 = .ok (.iconst 1, 1) := by decide +kernel
theorem dX4_license_16 : decode cX4_license 16 = .ok (.if_icmp .lt 10, 3) := by decide +kernel
theorem dX4_license_19 : decode cX4_license 19 = .ok (.iload_n 3, 1) := by decide +kernel
theorem dX4_license_20 : decode cX4_license 20 = .ok (.sipush 1000, 3) := by decide +kernel
theorem dX4_license_23 : decode cX4_license 23 = .ok (.if_icmp .le 13, 3) := by decide +kernel
theorem dX4_license_26 : decode cX4_license 26 = .ok (.new 48, 3) := by decide +kernel
theorem dX4_license_29 : decode cX4_license 29 = .ok (.dup, 1) := by decide +kernel
theorem dX4_license_30 : decode cX4_license 30 = .ok (.ldc 99, 2) := by decide +kernel
theorem dX4_license_32 : decode cX4_license 32 = .ok (.invokespecial 52, 3) := by decide +kernel
theorem dX4_license_35 : decode cX4_license 35 = .ok (.athrow, 1) := by decide +kernel
theorem dX4_license_36 : decode cX4_license 36 = .ok (.aload 5, 2) := by decide +kernel
theorem dX4_license_38 : decode cX4_license 38 = .ok (.getfield 101, 3) := by decide +kernel
theorem dX4_license_41 : decode cX4_license 41 = .ok (.iload_n 1, 1) := by decide +kernel
theorem dX4_license_42 : decode cX4_license 42 = .ok (.if_icmp .ne 13, 3) := by decide +kernel
theorem dX4_license_45 : decode cX4_license 45 = .ok (.new 57, 3) := by decide +kernel
theorem dX4_license_48 : decode cX4_license 48 = .ok (.dup, 1) := by decide +kernel
theorem dX4_license_49 : decode cX4_license 49 = .ok (.ldc 104, 2) := by decide +kernel
theorem dX4_license_51 : decode cX4_license 51 = .ok (.invokespecial 61, 3) := by decide +kernel
theorem dX4_license_54 : decode cX4_license 54 = .ok (.athrow, 1) := by decide +kernel
theorem dX4_license_55 : decode cX4_license 55 = .ok (.aload 4, 2) := by decide +kernel
theorem dX4_license_57 : decode cX4_license 57 = .ok (.getfield 106, 3) := by decide +kernel
theorem dX4_license_60 : decode cX4_license 60 = .ok (.iload_n 2, 1) := by decide +kernel
theorem dX4_license_61 : decode cX4_license 61 = .ok (.iaload, 1) := by decide +kernel
theorem dX4_license_62 : decode cX4_license 62 = .ok (.iload_n 3, 1) := by decide +kernel
theorem dX4_license_63 : decode cX4_license 63 = .ok (.iadd, 1) := by decide +kernel
theorem dX4_license_64 : decode cX4_license 64 = .ok (.sipush 1000, 3) := by decide +kernel
theorem dX4_license_67 : decode cX4_license 67 = .ok (.if_icmp .le 13, 3) := by decide +kernel
theorem dX4_license_70 : decode cX4_license 70 = .ok (.new 57, 3) := by decide +kernel
theorem dX4_license_73 : decode cX4_license 73 = .ok (.dup, 1) := by decide +kernel
theorem dX4_license_74 : decode cX4_license 74 = .ok (.ldc 109, 2) := by decide +kernel
theorem dX4_license_76 : decode cX4_license 76 = .ok (.invokespecial 61, 3) := by decide +kernel
theorem dX4_license_79 : decode cX4_license 79 = .ok (.athrow, 1) := by decide +kernel
theorem dX4_license_80 : decode cX4_license 80 = .ok (.aload 4, 2) := by decide +kernel
theorem dX4_license_82 : decode cX4_license 82 = .ok (.getfield 106, 3) := by decide +kernel
theorem dX4_license_85 : decode cX4_license 85 = .ok (.iload_n 2, 1) := by decide +kernel
theorem dX4_license_86 : decode cX4_license 86 = .ok (.dup2, 1) := by decide +kernel
theorem dX4_license_87 : decode cX4_license 87 = .ok (.iaload, 1) := by decide +kernel
theorem dX4_license_88 : decode cX4_license 88 = .ok (.iload_n 3, 1) := by decide +kernel
theorem dX4_license_89 : decode cX4_license 89 = .ok (.iadd, 1) := by decide +kernel
theorem dX4_license_90 : decode cX4_license 90 = .ok (.iastore, 1) := by decide +kernel
theorem dX4_license_91 : decode cX4_license 91 = .ok (.aload 4, 2) := by decide +kernel
theorem dX4_license_93 : decode cX4_license 93 = .ok (.getfield 106, 3) := by decide +kernel
theorem dX4_license_96 : decode cX4_license 96 = .ok (.iload_n 2, 1) := by decide +kernel
theorem dX4_license_97 : decode cX4_license 97 = .ok (.iaload, 1) := by decide +kernel
theorem dX4_license_98 : decode cX4_license 98 = .ok (.ireturn, 1) := by decide +kernel
set_option maxRecDepth 20000 in
theorem ggX4_setQuiet_X4_houseAt : GoodIn wsX4_setQuiet wsX4_houseAt := goodIn_ca (goodIn_r _ [8, 9, 10, 11, 12, 7, 13, 14, 15, 50, 51, 52, 53, 54, 55, 56] (by decide +kernel) (by decide +kernel)) (goodIn_sub (fun _ h => List.mem_cons_of_mem _ (List.mem_append_right _ h)) (by decide +kernel))
set_option maxRecDepth 20000 in
theorem gX4_setQuiet_X4_houseAt : GoodIn wsX4_setQuiet (wsV RX4 95 RX4 yX4_houseAt wsX4_houseAt) := goodIn_app (goodIn_of _ (by decide +kernel)) ggX4_setQuiet_X4_houseAt
set_option maxRecDepth 20000 in
theorem ggX4_setQuiet_X2_isQuietAt : GoodIn wsX4_setQuiet wsX2_isQuietAt := goodIn_r _ [20, 21, 22, 23, 19, 24, 25, 26, 27, 28, 29, 30, 31, 32, 33, 34, 35, 36, 37, 38, 39, 40, 41, 42, 43, 44, 45, 46, 47, 48, 49] (by decide +kernel) (by decide +kernel)
set_option maxRecDepth 20000 in
theorem gX4_setQuiet_X2_isQuietAt : GoodIn wsX4_setQuiet (wsV RX4 119 RX2 yX2_isQuietAt wsX2_isQuietAt) := goodIn_app (goodIn_of _ (by decide +kernel)) ggX4_setQuiet_X2_isQuietAt
theorem dX4_setQuiet_0 : decode cX4_setQuiet 0 = .ok (.aload_n 0, 1) := by decide +kernel
theorem dX4_setQuiet_1 : decode cX4_setQuiet 1 = .ok (.iload_n 1, 1) := by decide +kernel
theorem dX4_setQuiet_2 : decode cX4_setQuiet 2 = .ok (.invokevirtual 95, 3) := by decide +kernel
theorem dX4_setQuiet_5 : decode cX4_setQuiet 5 = .ok (.astore 4, 2) := by decide +kernel
theorem dX4_setQuiet_7 : decode cX4_setQuiet 7 = .ok (.iload_n 2, 1) := by decide +kernel
theorem dX4_setQuiet_8 : decode cX4_setQuiet 8 = .ok (.ifCond .lt 21, 3) := by decide +kernel
theorem dX4_setQuiet_11 : decode cX4_setQuiet 11 = .ok (.iload_n 2, 1) := by decide +kernel
theorem dX4_setQuiet_12 : decode cX4_setQuiet 12 = .ok (.sipush 1000, 3) := by decide +kernel
theorem dX4_setQuiet_15 : decode cX4_setQuiet 15 = .ok (.if_icmp .ge 14, 3) := by decide +kernel
theorem dX4_setQuiet_18 : decode cX4_setQuiet 18 = .ok (.iload_n 3, 1) := by decide +kernel
theorem dX4_setQuiet_19 : decode cX4_setQuiet 19 = .ok (.ifCond .lt 10, 3) := by decide +kernel
theorem dX4_setQuiet_22 : decode cX4_setQuiet 22 = .ok (.iload_n 3, 1) := by decide +kernel
theorem dX4_setQuiet_23 : decode cX4_setQuiet 23 = .ok (.sipush 1000, 3) := by decide +kernel
theorem dX4_setQuiet_26 : decode cX4_setQuiet 26 = .ok (.if_icmp .lt 13, 3) := by decide +kernel
theorem dX4_setQuiet_29 : decode cX4_setQuiet 29 = .ok (.new 48, 3) := by decide +kernel
theorem dX4_setQuiet_32 : decode cX4_setQuiet 32 = .ok (.dup, 1) := by decide +kernel
theorem dX4_setQuiet_33 : decode cX4_setQuiet 33 = .ok (.ldc 111, 2) := by decide +kernel
theorem dX4_setQuiet_35 : decode cX4_setQuiet 35 = .ok (.invokespecial 52, 3) := by decide +kernel
theorem dX4_setQuiet_38 : decode cX4_setQuiet 38 = .ok (.athrow, 1) := by decide +kernel
theorem dX4_setQuiet_39 : decode cX4_setQuiet 39 = .ok (.aload 4, 2) := by decide +kernel
theorem dX4_setQuiet_41 : decode cX4_setQuiet 41 = .ok (.iload_n 2, 1) := by decide +kernel
theorem dX4_setQuiet_42 : decode cX4_setQuiet 42 = .ok (.putfield 113, 3) := by decide +kernel
theorem dX4_setQuiet_45 : decode cX4_setQuiet 45 = .ok (.aload 4, 2) := by decide +kernel
theorem dX4_setQuiet_47 : decode cX4_setQuiet 47 = .ok (.iload_n 3, 1) := by decide +kernel
theorem dX4_setQuiet_48 : decode cX4_setQuiet 48 = .ok (.putfield 116, 3) := by decide +kernel
theorem dX4_setQuiet_51 : decode cX4_setQuiet 51 = .ok (.aload 4, 2) := by decide +kernel
theorem dX4_setQuiet_53 : decode cX4_setQuiet 53 = .ok (.aload_n 0, 1) := by decide +kernel
theorem dX4_setQuiet_54 : decode cX4_setQuiet 54 = .ok (.getfield 38, 3) := by decide +kernel
theorem dX4_setQuiet_57 : decode cX4_setQuiet 57 = .ok (.invokevirtual 119, 3) := by decide +kernel
theorem dX4_setQuiet_60 : decode cX4_setQuiet 60 = .ok (.ireturn, 1) := by decide +kernel
set_option maxRecDepth 20000 in
theorem ggX4_lay_X4_bellAt : GoodIn wsX4_lay wsX4_bellAt := goodIn_ca (goodIn_r _ [7, 8, 9, 10, 11, 12, 6, 13, 14, 15, 16, 17, 18, 32, 33, 34, 35, 36, 37, 38, 39, 40, 41, 42, 43, 44, 45, 46, 47, 48, 49, 50, 51] (by decide +kernel) (by decide +kernel)) (goodIn_sub (fun _ h => List.mem_cons_of_mem _ (List.mem_append_right _ h)) (by decide +kernel))
set_option maxRecDepth 20000 in
theorem gX4_lay_X4_bellAt : GoodIn wsX4_lay (wsV RX4 123 RX4 yX4_bellAt wsX4_bellAt) := goodIn_app (goodIn_of _ (by decide +kernel)) ggX4_lay_X4_bellAt
set_option maxRecDepth 20000 in
theorem ggX4_lay_X4_melodyAt : GoodIn wsX4_lay wsX4_melodyAt := goodIn_ca (goodIn_r _ [22, 8, 9, 23, 45, 46, 47, 48, 49, 50, 51] (by decide +kernel) (by decide +kernel)) (goodIn_sub (fun _ h => List.mem_cons_of_mem _ (List.mem_append_right _ h)) (by decide +kernel))
set_option maxRecDepth 20000 in
theorem gX4_lay_X4_melodyAt : GoodIn wsX4_lay (wsV RX4 65 RX4 yX4_melodyAt wsX4_melodyAt) := goodIn_app (goodIn_of _ (by decide +kernel)) ggX4_lay_X4_melodyAt
theorem dX4_lay_0 : decode cX4_lay 0 = .ok (.aload_n 0, 1) := by decide +kernel
theorem dX4_lay_1 : decode cX4_lay 1 = .ok (.iload_n 1, 1) := by decide +kernel
theorem dX4_lay_2 : decode cX4_lay 2 = .ok (.iload_n 2, 1) := by decide +kernel
theorem dX4_lay_3 : decode cX4_lay 3 = .ok (.invokevirtual 123, 3) := by decide +kernel
theorem dX4_lay_6 : decode cX4_lay 6 = .ok (.astore 5, 2) := by decide +kernel
theorem dX4_lay_8 : decode cX4_lay 8 = .ok (.iload_n 3, 1) := by decide +kernel
theorem dX4_lay_9 : decode cX4_lay 9 = .ok (.iconst (-1), 1) := by decide +kernel
theorem dX4_lay_10 : decode cX4_lay 10 = .ok (.if_icmp .ne 7, 3) := by decide +kernel
theorem dX4_lay_13 : decode cX4_lay 13 = .ok (.aconst_null, 1) := by decide +kernel
theorem dX4_lay_14 : decode cX4_lay 14 = .ok (.goto 8, 3) := by decide +kernel
theorem dX4_lay_17 : decode cX4_lay 17 = .ok (.aload_n 0, 1) := by decide +kernel
theorem dX4_lay_18 : decode cX4_lay 18 = .ok (.iload_n 3, 1) := by decide +kernel
theorem dX4_lay_19 : decode cX4_lay 19 = .ok (.invokevirtual 65, 3) := by decide +kernel
theorem dX4_lay_22 : decode cX4_lay 22 = .ok (.astore 6, 2) := by decide +kernel
theorem dX4_lay_24 : decode cX4_lay 24 = .ok (.iload 4, 2) := by decide +kernel
theorem dX4_lay_26 : decode cX4_lay 26 = .ok (.iconst 1, 1) := by decide +kernel
theorem dX4_lay_27 : decode cX4_lay 27 = .ok (.if_icmp .lt 10, 3) := by decide +kernel
theorem dX4_lay_30 : decode cX4_lay 30 = .ok (.iload 4, 2) := by decide +kernel
theorem dX4_lay_32 : decode cX4_lay 32 = .ok (.bipush 9, 2) := by decide +kernel
theorem dX4_lay_34 : decode cX4_lay 34 = .ok (.if_icmp .le 13, 3) := by decide +kernel
theorem dX4_lay_37 : decode cX4_lay 37 = .ok (.new 48, 3) := by decide +kernel
theorem dX4_lay_40 : decode cX4_lay 40 = .ok (.dup, 1) := by decide +kernel
theorem dX4_lay_41 : decode cX4_lay 41 = .ok (.ldc 127, 2) := by decide +kernel
theorem dX4_lay_43 : decode cX4_lay 43 = .ok (.invokespecial 52, 3) := by decide +kernel
theorem dX4_lay_46 : decode cX4_lay 46 = .ok (.athrow, 1) := by decide +kernel
theorem dX4_lay_47 : decode cX4_lay 47 = .ok (.aload 5, 2) := by decide +kernel
theorem dX4_lay_49 : decode cX4_lay 49 = .ok (.getfield 129, 3) := by decide +kernel
theorem dX4_lay_52 : decode cX4_lay 52 = .ok (.astore 7, 2) := by decide +kernel
theorem dX4_lay_54 : decode cX4_lay 54 = .ok (.aload 5, 2) := by decide +kernel
theorem dX4_lay_56 : decode cX4_lay 56 = .ok (.aload 6, 2) := by decide +kernel
theorem dX4_lay_58 : decode cX4_lay 58 = .ok (.putfield 129, 3) := by decide +kernel
theorem dX4_lay_61 : decode cX4_lay 61 = .ok (.aload 5, 2) := by decide +kernel
theorem dX4_lay_63 : decode cX4_lay 63 = .ok (.iload 4, 2) := by decide +kernel
theorem dX4_lay_65 : decode cX4_lay 65 = .ok (.putfield 135, 3) := by decide +kernel
theorem dX4_lay_68 : decode cX4_lay 68 = .ok (.aload 5, 2) := by decide +kernel
theorem dX4_lay_70 : decode cX4_lay 70 = .ok (.iconst 0, 1) := by decide +kernel
theorem dX4_lay_71 : decode cX4_lay 71 = .ok (.putfield 138, 3) := by decide +kernel
theorem dX4_lay_74 : decode cX4_lay 74 = .ok (.aload 7, 2) := by decide +kernel
theorem dX4_lay_76 : decode cX4_lay 76 = .ok (.ifnonnull 7, 3) := by decide +kernel
theorem dX4_lay_79 : decode cX4_lay 79 = .ok (.iconst (-1), 1) := by decide +kernel
theorem dX4_lay_80 : decode cX4_lay 80 = .ok (.goto 8, 3) := by decide +kernel
theorem dX4_lay_83 : decode cX4_lay 83 = .ok (.aload 7, 2) := by decide +kernel
theorem dX4_lay_85 : decode cX4_lay 85 = .ok (.getfield 142, 3) := by decide +kernel
theorem dX4_lay_88 : decode cX4_lay 88 = .ok (.ireturn, 1) := by decide +kernel
set_option maxRecDepth 20000 in
theorem ggX4_press_X4_houseAt : GoodIn wsX4_press wsX4_houseAt := goodIn_ca (goodIn_r _ [8, 9, 10, 11, 12, 7, 13, 14, 15, 91, 92, 93, 94, 95, 96, 97] (by decide +kernel) (by decide +kernel)) (goodIn_sub (fun _ h => List.mem_cons_of_mem _ (List.mem_append_right _ h)) (by decide +kernel))
set_option maxRecDepth 20000 in
theorem gX4_press_X4_houseAt : GoodIn wsX4_press (wsV RX4 95 RX4 yX4_houseAt wsX4_houseAt) := goodIn_app (goodIn_of _ (by decide +kernel)) ggX4_press_X4_houseAt
set_option maxRecDepth 20000 in
theorem ggX4_press_X4_bellAt : GoodIn wsX4_press wsX4_bellAt := goodIn_ca (goodIn_r _ [19, 14, 15, 4, 5, 6, 7, 8, 9, 10, 11, 12, 13, 78, 79, 80, 81, 82, 83, 84, 85, 86, 87, 88, 89, 90, 91, 92, 93, 94, 95, 96, 97] (by decide +kernel) (by decide +kernel)) (goodIn_sub (fun _ h => List.mem_cons_of_mem _ (List.mem_append_right _ h)) (by decide +kernel))
set_option maxRecDepth 20000 in
theorem gX4_press_X4_bellAt : GoodIn wsX4_press (wsV RX4 123 RX4 yX4_bellAt wsX4_bellAt) := goodIn_app (goodIn_of _ (by decide +kernel)) ggX4_press_X4_bellAt
set_option maxRecDepth 20000 in
theorem ggX4_press_X2_isQuietAt : GoodIn wsX4_press wsX2_isQuietAt := goodIn_r _ [24, 25, 26, 27, 23, 28, 29, 30, 31, 32, 33, 34, 35, 36, 37, 38, 39, 40, 78, 79, 80, 81, 82, 83, 84, 85, 86, 87, 88, 89, 90] (by decide +kernel) (by decide +kernel)
set_option maxRecDepth 20000 in
theorem gX4_press_X2_isQuietAt : GoodIn wsX4_press (wsV RX4 119 RX2 yX2_isQuietAt wsX2_isQuietAt) := goodIn_app (goodIn_of _ (by decide +kernel)) ggX4_press_X2_isQuietAt
set_option maxRecDepth 20000 in
theorem ggX4_press_X2_mayRing : GoodIn wsX4_press wsX2_mayRing := goodIn_r _ [44, 45, 46, 98, 99, 100, 101, 78, 79, 80, 81, 82, 83, 84, 85, 86, 87, 88, 89, 90] (by decide +kernel) (by decide +kernel)
set_option maxRecDepth 20000 in
theorem gX4_press_X2_mayRing : GoodIn wsX4_press (wsV RX4 153 RX2 yX2_mayRing wsX2_mayRing) := goodIn_app (goodIn_of _ (by decide +kernel)) ggX4_press_X2_mayRing
set_option maxRecDepth 20000 in
theorem ggX4_press_X2_ringingLoad : GoodIn wsX4_press wsX2_ringingLoad := goodIn_r _ [50, 51, 78, 79, 80, 81, 82, 83, 84, 85, 86, 87, 88, 89, 90, 74, 75, 76, 77] (by decide +kernel) (by decide +kernel)
set_option maxRecDepth 20000 in
theorem gX4_press_X2_ringingLoad : GoodIn wsX4_press (wsV RX4 156 RX2 yX2_ringingLoad wsX2_ringingLoad) := goodIn_app (goodIn_of _ (by decide +kernel)) ggX4_press_X2_ringingLoad
set_option maxRecDepth 20000 in
theorem ggX4_press_X2_breakDown : GoodIn wsX4_press wsX2_breakDown := goodIn_r _ [55, 56, 51, 78, 79, 80, 81, 82, 83, 84, 85, 86, 87, 88, 89, 90, 74, 75, 76, 77] (by decide +kernel) (by decide +kernel)
set_option maxRecDepth 20000 in
theorem gX4_press_X2_breakDown : GoodIn wsX4_press (wsV RX4 160 RX2 yX2_breakDown wsX2_breakDown) := goodIn_app (goodIn_of _ (by decide +kernel)) ggX4_press_X2_breakDown
set_option maxRecDepth 20000 in
theorem ggX4_press_X2_useRight : GoodIn wsX4_press wsX2_useRight := goodIn_r _ [60, 45, 46, 98, 99, 100, 101, 78, 79, 80, 81, 82, 83, 84, 85, 86, 87, 88, 89, 90] (by decide +kernel) (by decide +kernel)
set_option maxRecDepth 20000 in
theorem gX4_press_X2_useRight : GoodIn wsX4_press (wsV RX4 163 RX2 yX2_useRight wsX2_useRight) := goodIn_app (goodIn_of _ (by decide +kernel)) ggX4_press_X2_useRight
set_option maxRecDepth 20000 in
theorem ggX4_press_X3_lasts : GoodIn wsX4_press wsX3_lasts := goodIn_r _ [65, 66, 98, 99, 100, 101] (by decide +kernel) (by decide +kernel)
set_option maxRecDepth 20000 in
theorem gX4_press_X3_lasts : GoodIn wsX4_press (wsV RX4 167 RX3 yX3_lasts wsX3_lasts) := goodIn_app (goodIn_of _ (by decide +kernel)) ggX4_press_X3_lasts
set_option maxRecDepth 20000 in
theorem ggX4_press_X0_ringUntil : GoodIn wsX4_press wsX0_ringUntil := goodIn_r _ [71, 72, 73, 74, 75, 76, 77] (by decide +kernel) (by decide +kernel)
set_option maxRecDepth 20000 in
theorem gX4_press_X0_ringUntil : GoodIn wsX4_press (wsV RX4 170 RX0 yX0_ringUntil wsX0_ringUntil) := goodIn_app (goodIn_of _ (by decide +kernel)) ggX4_press_X0_ringUntil
theorem dX4_press_0 : decode cX4_press 0 = .ok (.aload_n 0, 1) := by decide +kernel
theorem dX4_press_1 : decode cX4_press 1 = .ok (.iload_n 1, 1) := by decide +kernel
theorem dX4_press_2 : decode cX4_press 2 = .ok (.invokevirtual 95, 3) := by decide +kernel
theorem dX4_press_5 : decode cX4_press 5 = .ok (.astore_n 3, 1) := by decide +kernel
theorem dX4_press_6 : decode cX4_press 6 = .ok (.aload_n 0, 1) := by decide +kernel
theorem dX4_press_7 : decode cX4_press 7 = .ok (.iload_n 1, 1) := by decide +kernel
theorem dX4_press_8 : decode cX4_press 8 = .ok (.iload_n 2, 1) := by decide +kernel
theorem dX4_press_9 : decode cX4_press 9 = .ok (.invokevirtual 123, 3) := by decide +kernel
theorem dX4_press_12 : decode cX4_press 12 = .ok (.astore 4, 2) := by decide +kernel
theorem dX4_press_14 : decode cX4_press 14 = .ok (.aload 4, 2) := by decide +kernel
theorem dX4_press_16 : decode cX4_press 16 = .ok (.getfield 129, 3) := by decide +kernel
theorem dX4_press_19 : decode cX4_press 19 = .ok (.astore 5, 2) := by decide +kernel
theorem dX4_press_21 : decode cX4_press 21 = .ok (.aload 5, 2) := by decide +kernel
theorem dX4_press_23 : decode cX4_press 23 = .ok (.ifnonnull 13, 3) := by decide +kernel
theorem dX4_press_26 : decode cX4_press 26 = .ok (.new 57, 3) := by decide +kernel
theorem dX4_press_29 : decode cX4_press 29 = .ok (.dup, 1) := by decide +kernel
theorem dX4_press_30 : decode cX4_press 30 = .ok (.ldc 145, 2) := by decide +kernel
theorem dX4_press_32 : decode cX4_press 32 = .ok (.invokespecial 61, 3) := by decide +kernel
theorem dX4_press_35 : decode cX4_press 35 = .ok (.athrow, 1) := by decide +kernel
theorem dX4_press_36 : decode cX4_press 36 = .ok (.aload_n 3, 1) := by decide +kernel
theorem dX4_press_37 : decode cX4_press 37 = .ok (.getfield 147, 3) := by decide +kernel
theorem dX4_press_40 : decode cX4_press 40 = .ok (.ifCond .eq 11, 3) := by decide +kernel
theorem dX4_press_43 : decode cX4_press 43 = .ok (.aload 4, 2) := by decide +kernel
theorem dX4_press_45 : decode cX4_press 45 = .ok (.getfield 138, 3) := by decide +kernel
theorem dX4_press_48 : decode cX4_press 48 = .ok (.ifCond .eq 5, 3) := by decide +kernel
theorem dX4_press_51 : decode cX4_press 51 = .ok (.iconst 0, 1) := by decide +kernel
theorem dX4_press_52 : decode cX4_press 52 = .ok (.ireturn, 1) := by decide +kernel
theorem dX4_press_53 : decode cX4_press 53 = .ok (.aload_n 3, 1) := by decide +kernel
theorem dX4_press_54 : decode cX4_press 54 = .ok (.aload_n 0, 1) := by decide +kernel
theorem dX4_press_55 : decode cX4_press 55 = .ok (.getfield 38, 3) := by decide +kernel
theorem dX4_press_58 : decode cX4_press 58 = .ok (.invokevirtual 119, 3) := by decide +kernel
theorem dX4_press_61 : decode cX4_press 61 = .ok (.ifCond .eq 15, 3) := by decide +kernel
theorem dX4_press_64 : decode cX4_press 64 = .ok (.aload_n 3, 1) := by decide +kernel
theorem dX4_press_65 : decode cX4_press 65 = .ok (.dup, 1) := by decide +kernel
theorem dX4_press_66 : decode cX4_press 66 = .ok (.getfield 150, 3) := by decide +kernel
theorem dX4_press_69 : decode cX4_press 69 = .ok (.iconst 1, 1) := by decide +kernel
theorem dX4_press_70 : decode cX4_press 70 = .ok (.iadd, 1) := by decide +kernel
theorem dX4_press_71 : decode cX4_press 71 = .ok (.putfield 150, 3) := by decide +kernel
theorem dX4_press_74 : decode cX4_press 74 = .ok (.iconst 2, 1) := by decide +kernel
theorem dX4_press_75 : decode cX4_press 75 = .ok (.ireturn, 1) := by decide +kernel
theorem dX4_press_76 : decode cX4_press 76 = .ok (.aload_n 3, 1) := by decide +kernel
theorem dX4_press_77 : decode cX4_press 77 = .ok (.aload 5, 2) := by decide +kernel
theorem dX4_press_79 : decode cX4_press 79 = .ok (.invokevirtual 153, 3) := by decide +kernel
theorem dX4_press_82 : decode cX4_press 82 = .ok (.ifCond .ne 5, 3) := by decide +kernel
theorem dX4_press_85 : decode cX4_press 85 = .ok (.iconst 0, 1) := by decide +kernel
theorem dX4_press_86 : decode cX4_press 86 = .ok (.ireturn, 1) := by decide +kernel
theorem dX4_press_87 : decode cX4_press 87 = .ok (.aload_n 3, 1) := by decide +kernel
theorem dX4_press_88 : decode cX4_press 88 = .ok (.invokevirtual 156, 3) := by decide +kernel
theorem dX4_press_91 : decode cX4_press 91 = .ok (.aload 4, 2) := by decide +kernel
theorem dX4_press_93 : decode cX4_press 93 = .ok (.getfield 135, 3) := by decide +kernel
theorem dX4_press_96 : decode cX4_press 96 = .ok (.iadd, 1) := by decide +kernel
theorem dX4_press_97 : decode cX4_press 97 = .ok (.bipush 10, 2) := by decide +kernel
theorem dX4_press_99 : decode cX4_press 99 = .ok (.if_icmp .le 9, 3) := by decide +kernel
theorem dX4_press_102 : decode cX4_press 102 = .ok (.aload_n 3, 1) := by decide +kernel
theorem dX4_press_103 : decode cX4_press 103 = .ok (.invokevirtual 160, 3) := by decide +kernel
theorem dX4_press_106 : decode cX4_press 106 = .ok (.iconst 3, 1) := by decide +kernel
theorem dX4_press_107 : decode cX4_press 107 = .ok (.ireturn, 1) := by decide +kernel
theorem dX4_press_108 : decode cX4_press 108 = .ok (.aload_n 3, 1) := by decide +kernel
theorem dX4_press_109 : decode cX4_press 109 = .ok (.aload 5, 2) := by decide +kernel
theorem dX4_press_111 : decode cX4_press 111 = .ok (.invokevirtual 163, 3) := by decide +kernel
theorem dX4_press_114 : decode cX4_press 114 = .ok (.aload 4, 2) := by decide +kernel
theorem dX4_press_116 : decode cX4_press 116 = .ok (.aload_n 0, 1) := by decide +kernel
theorem dX4_press_117 : decode cX4_press 117 = .ok (.getfield 38, 3) := by decide +kernel
theorem dX4_press_120 : decode cX4_press 120 = .ok (.aload 5, 2) := by decide +kernel
theorem dX4_press_122 : decode cX4_press 122 = .ok (.invokevirtual 167, 3) := by decide +kernel
theorem dX4_press_125 : decode cX4_press 125 = .ok (.iadd, 1) := by decide +kernel
theorem dX4_press_126 : decode cX4_press 126 = .ok (.invokevirtual 170, 3) := by decide +kernel
theorem dX4_press_129 : decode cX4_press 129 = .ok (.iconst 1, 1) := by decide +kernel
theorem dX4_press_130 : decode cX4_press 130 = .ok (.ireturn, 1) := by decide +kernel
set_option maxRecDepth 20000 in
theorem ggX4_fault_X4_houseAt : GoodIn wsX4_fault wsX4_houseAt := goodIn_ca (goodIn_r _ [11, 4, 12, 13, 14, 10, 15, 16, 17, 55, 56, 57, 58, 59, 60, 61] (by decide +kernel) (by decide +kernel)) (goodIn_sub (fun _ h => List.mem_cons_of_mem _ (List.mem_append_right _ h)) (by decide +kernel))
set_option maxRecDepth 20000 in
theorem gX4_fault_X4_houseAt : GoodIn wsX4_fault (wsV RX4 95 RX4 yX4_houseAt wsX4_houseAt) := goodIn_app (goodIn_of _ (by decide +kernel)) ggX4_fault_X4_houseAt
set_option maxRecDepth 20000 in
theorem ggX4_fault_X2_startBells : GoodIn wsX4_fault wsX2_startBells := goodIn_r _ [22, 23, 24, 25, 26, 27, 28, 29, 30, 31, 32, 33, 34, 35, 36, 42, 43, 44, 45, 46, 47, 48, 49, 50, 51, 52, 53, 54, 62, 63, 64, 65, 66, 67, 68, 69] (by decide +kernel) (by decide +kernel)
set_option maxRecDepth 20000 in
theorem gX4_fault_X2_startBells : GoodIn wsX4_fault (wsV RX4 180 RX2 yX2_startBells wsX2_startBells) := goodIn_app (goodIn_of _ (by decide +kernel)) ggX4_fault_X2_startBells
set_option maxRecDepth 20000 in
theorem ggX4_fault_X2_breakDown : GoodIn wsX4_fault wsX2_breakDown := goodIn_r _ [40, 41, 23, 42, 43, 44, 45, 46, 47, 48, 49, 50, 51, 52, 53, 54, 62, 63, 64, 65] (by decide +kernel) (by decide +kernel)
set_option maxRecDepth 20000 in
theorem gX4_fault_X2_breakDown : GoodIn wsX4_fault (wsV RX4 160 RX2 yX2_breakDown wsX2_breakDown) := goodIn_app (goodIn_of _ (by decide +kernel)) ggX4_fault_X2_breakDown
theorem dX4_fault_0 : decode cX4_fault 0 = .ok (.aload_n 0, 1) := by decide +kernel
theorem dX4_fault_1 : decode cX4_fault 1 = .ok (.iload_n 1, 1) := by decide +kernel
theorem dX4_fault_2 : decode cX4_fault 2 = .ok (.invokevirtual 95, 3) := by decide +kernel
theorem dX4_fault_5 : decode cX4_fault 5 = .ok (.astore_n 2, 1) := by decide +kernel
theorem dX4_fault_6 : decode cX4_fault 6 = .ok (.aload_n 2, 1) := by decide +kernel
theorem dX4_fault_7 : decode cX4_fault 7 = .ok (.getfield 147, 3) := by decide +kernel
theorem dX4_fault_10 : decode cX4_fault 10 = .ok (.ifCond .ne 13, 3) := by decide +kernel
theorem dX4_fault_13 : decode cX4_fault 13 = .ok (.new 57, 3) := by decide +kernel
theorem dX4_fault_16 : decode cX4_fault 16 = .ok (.dup, 1) := by decide +kernel
theorem dX4_fault_17 : decode cX4_fault 17 = .ok (.ldc 173, 2) := by decide +kernel
theorem dX4_fault_19 : decode cX4_fault 19 = .ok (.invokespecial 61, 3) := by decide +kernel
theorem dX4_fault_22 : decode cX4_fault 22 = .ok (.athrow, 1) := by decide +kernel
theorem dX4_fault_23 : decode cX4_fault 23 = .ok (.aload_n 0, 1) := by decide +kernel
theorem dX4_fault_24 : decode cX4_fault 24 = .ok (.getfield 35, 3) := by decide +kernel
theorem dX4_fault_27 : decode cX4_fault 27 = .ok (.bipush 100, 2) := by decide +kernel
theorem dX4_fault_29 : decode cX4_fault 29 = .ok (.if_icmp .lt 13, 3) := by decide +kernel
theorem dX4_fault_32 : decode cX4_fault 32 = .ok (.new 57, 3) := by decide +kernel
theorem dX4_fault_35 : decode cX4_fault 35 = .ok (.dup, 1) := by decide +kernel
theorem dX4_fault_36 : decode cX4_fault 36 = .ok (.ldc 175, 2) := by decide +kernel
theorem dX4_fault_38 : decode cX4_fault 38 = .ok (.invokespecial 61, 3) := by decide +kernel
theorem dX4_fault_41 : decode cX4_fault 41 = .ok (.athrow, 1) := by decide +kernel
theorem dX4_fault_42 : decode cX4_fault 42 = .ok (.iconst 0, 1) := by decide +kernel
theorem dX4_fault_43 : decode cX4_fault 43 = .ok (.istore_n 3, 1) := by decide +kernel
theorem dX4_fault_44 : decode cX4_fault 44 = .ok (.aload_n 0, 1) := by decide +kernel
theorem dX4_fault_45 : decode cX4_fault 45 = .ok (.getfield 11, 3) := by decide +kernel
theorem dX4_fault_48 : decode cX4_fault 48 = .ok (.astore 4, 2) := by decide +kernel
theorem dX4_fault_50 : decode cX4_fault 50 = .ok (.aload 4, 2) := by decide +kernel
theorem dX4_fault_52 : decode cX4_fault 52 = .ok (.arraylength, 1) := by decide +kernel
theorem dX4_fault_53 : decode cX4_fault 53 = .ok (.istore 5, 2) := by decide +kernel
theorem dX4_fault_55 : decode cX4_fault 55 = .ok (.iconst 0, 1) := by decide +kernel
theorem dX4_fault_56 : decode cX4_fault 56 = .ok (.istore 6, 2) := by decide +kernel
theorem dX4_fault_58 : decode cX4_fault 58 = .ok (.iload 6, 2) := by decide +kernel
theorem dX4_fault_60 : decode cX4_fault 60 = .ok (.iload 5, 2) := by decide +kernel
theorem dX4_fault_62 : decode cX4_fault 62 = .ok (.if_icmp .ge 54, 3) := by decide +kernel
theorem dX4_fault_65 : decode cX4_fault 65 = .ok (.aload 4, 2) := by decide +kernel
theorem dX4_fault_67 : decode cX4_fault 67 = .ok (.iload 6, 2) := by decide +kernel
theorem dX4_fault_69 : decode cX4_fault 69 = .ok (.aaload, 1) := by decide +kernel
theorem dX4_fault_70 : decode cX4_fault 70 = .ok (.astore 7, 2) := by decide +kernel
theorem dX4_fault_72 : decode cX4_fault 72 = .ok (.aload 7, 2) := by decide +kernel
theorem dX4_fault_74 : decode cX4_fault 74 = .ok (.aload_n 2, 1) := by decide +kernel
theorem dX4_fault_75 : decode cX4_fault 75 = .ok (.if_acmp .eq 35, 3) := by decide +kernel
theorem dX4_fault_78 : decode cX4_fault 78 = .ok (.aload 7, 2) := by decide +kernel
theorem dX4_fault_80 : decode cX4_fault 80 = .ok (.getfield 177, 3) := by decide +kernel
theorem dX4_fault_83 : decode cX4_fault 83 = .ok (.aload_n 2, 1) := by decide +kernel
theorem dX4_fault_84 : decode cX4_fault 84 = .ok (.getfield 177, 3) := by decide +kernel
theorem dX4_fault_87 : decode cX4_fault 87 = .ok (.if_icmp .ne 23, 3) := by decide +kernel
theorem dX4_fault_90 : decode cX4_fault 90 = .ok (.aload 7, 2) := by decide +kernel
theorem dX4_fault_92 : decode cX4_fault 92 = .ok (.getfield 147, 3) := by decide +kernel
theorem dX4_fault_95 : decode cX4_fault 95 = .ok (.ifCond .eq 15, 3) := by decide +kernel
theorem dX4_fault_98 : decode cX4_fault 98 = .ok (.iload_n 3, 1) := by decide +kernel
theorem dX4_fault_99 : decode cX4_fault 99 = .ok (.aload 7, 2) := by decide +kernel
theorem dX4_fault_101 : decode cX4_fault 101 = .ok (.aload_n 0, 1) := by decide +kernel
theorem dX4_fault_102 : decode cX4_fault 102 = .ok (.getfield 38, 3) := by decide +kernel
theorem dX4_fault_105 : decode cX4_fault 105 = .ok (.invokevirtual 180, 3) := by decide +kernel
theorem dX4_fault_108 : decode cX4_fault 108 = .ok (.iadd, 1) := by decide +kernel
theorem dX4_fault_109 : decode cX4_fault 109 = .ok (.istore_n 3, 1) := by decide +kernel
theorem dX4_fault_110 : decode cX4_fault 110 = .ok (.iinc 6 1, 3) := by decide +kernel
theorem dX4_fault_113 : decode cX4_fault 113 = .ok (.goto (-55), 3) := by decide +kernel
theorem dX4_fault_116 : decode cX4_fault 116 = .ok (.aload_n 2, 1) := by decide +kernel
theorem dX4_fault_117 : decode cX4_fault 117 = .ok (.invokevirtual 160, 3) := by decide +kernel
theorem dX4_fault_120 : decode cX4_fault 120 = .ok (.aload_n 2, 1) := by decide +kernel
theorem dX4_fault_121 : decode cX4_fault 121 = .ok (.dup, 1) := by decide +kernel
theorem dX4_fault_122 : decode cX4_fault 122 = .ok (.getfield 183, 3) := by decide +kernel
theorem dX4_fault_125 : decode cX4_fault 125 = .ok (.iconst 1, 1) := by decide +kernel
theorem dX4_fault_126 : decode cX4_fault 126 = .ok (.iadd, 1) := by decide +kernel
theorem dX4_fault_127 : decode cX4_fault 127 = .ok (.putfield 183, 3) := by decide +kernel
theorem dX4_fault_130 : decode cX4_fault 130 = .ok (.aload_n 0, 1) := by decide +kernel
theorem dX4_fault_131 : decode cX4_fault 131 = .ok (.getfield 27, 3) := by decide +kernel
theorem dX4_fault_134 : decode cX4_fault 134 = .ok (.aload_n 0, 1) := by decide +kernel
theorem dX4_fault_135 : decode cX4_fault 135 = .ok (.getfield 35, 3) := by decide +kernel
theorem dX4_fault_138 : decode cX4_fault 138 = .ok (.bipush 10, 2) := by decide +kernel
theorem dX4_fault_140 : decode cX4_fault 140 = .ok (.aload_n 0, 1) := by decide +kernel
theorem dX4_fault_141 : decode cX4_fault 141 = .ok (.getfield 38, 3) := by decide +kernel
theorem dX4_fault_144 : decode cX4_fault 144 = .ok (.imul, 1) := by decide +kernel
theorem dX4_fault_145 : decode cX4_fault 145 = .ok (.iload_n 1, 1) := by decide +kernel
theorem dX4_fault_146 : decode cX4_fault 146 = .ok (.iadd, 1) := by decide +kernel
theorem dX4_fault_147 : decode cX4_fault 147 = .ok (.iastore, 1) := by decide +kernel
theorem dX4_fault_148 : decode cX4_fault 148 = .ok (.aload_n 0, 1) := by decide +kernel
theorem dX4_fault_149 : decode cX4_fault 149 = .ok (.dup, 1) := by decide +kernel
theorem dX4_fault_150 : decode cX4_fault 150 = .ok (.getfield 35, 3) := by decide +kernel
theorem dX4_fault_153 : decode cX4_fault 153 = .ok (.iconst 1, 1) := by decide +kernel
theorem dX4_fault_154 : decode cX4_fault 154 = .ok (.iadd, 1) := by decide +kernel
theorem dX4_fault_155 : decode cX4_fault 155 = .ok (.putfield 35, 3) := by decide +kernel
theorem dX4_fault_158 : decode cX4_fault 158 = .ok (.iload_n 3, 1) := by decide +kernel
theorem dX4_fault_159 : decode cX4_fault 159 = .ok (.ireturn, 1) := by decide +kernel
set_option maxRecDepth 20000 in
theorem ggX4_repair_X4_houseAt : GoodIn wsX4_repair wsX4_houseAt := goodIn_ca (goodIn_r _ [9, 10, 11, 12, 13, 8, 14, 15, 16, 17, 18, 19, 20, 21, 22, 23] (by decide +kernel) (by decide +kernel)) (goodIn_sub (fun _ h => List.mem_cons_of_mem _ (List.mem_append_right _ h)) (by decide +kernel))
set_option maxRecDepth 20000 in
theorem gX4_repair_X4_houseAt : GoodIn wsX4_repair (wsV RX4 95 RX4 yX4_houseAt wsX4_houseAt) := goodIn_app (goodIn_of _ (by decide +kernel)) ggX4_repair_X4_houseAt
theorem dX4_repair_0 : decode cX4_repair 0 = .ok (.aload_n 0, 1) := by decide +kernel
theorem dX4_repair_1 : decode cX4_repair 1 = .ok (.iload_n 1, 1) := by decide +kernel
theorem dX4_repair_2 : decode cX4_repair 2 = .ok (.invokevirtual 95, 3) := by decide +kernel
theorem dX4_repair_5 : decode cX4_repair 5 = .ok (.astore_n 2, 1) := by decide +kernel
theorem dX4_repair_6 : decode cX4_repair 6 = .ok (.aload_n 0, 1) := by decide +kernel
theorem dX4_repair_7 : decode cX4_repair 7 = .ok (.getfield 17, 3) := by decide +kernel
theorem dX4_repair_10 : decode cX4_repair 10 = .ok (.aload_n 2, 1) := by decide +kernel
theorem dX4_repair_11 : decode cX4_repair 11 = .ok (.getfield 177, 3) := by decide +kernel
theorem dX4_repair_14 : decode cX4_repair 14 = .ok (.aaload, 1) := by decide +kernel
theorem dX4_repair_15 : decode cX4_repair 15 = .ok (.astore_n 3, 1) := by decide +kernel
theorem dX4_repair_16 : decode cX4_repair 16 = .ok (.aload_n 2, 1) := by decide +kernel
theorem dX4_repair_17 : decode cX4_repair 17 = .ok (.getfield 147, 3) := by decide +kernel
theorem dX4_repair_20 : decode cX4_repair 20 = .ok (.ifCond .eq 13, 3) := by decide +kernel
theorem dX4_repair_23 : decode cX4_repair 23 = .ok (.new 57, 3) := by decide +kernel
theorem dX4_repair_26 : decode cX4_repair 26 = .ok (.dup, 1) := by decide +kernel
theorem dX4_repair_27 : decode cX4_repair 27 = .ok (.ldc 186, 2) := by decide +kernel
theorem dX4_repair_29 : decode cX4_repair 29 = .ok (.invokespecial 61, 3) := by decide +kernel
theorem dX4_repair_32 : decode cX4_repair 32 = .ok (.athrow, 1) := by decide +kernel
theorem dX4_repair_33 : decode cX4_repair 33 = .ok (.aload_n 3, 1) := by decide +kernel
theorem dX4_repair_34 : decode cX4_repair 34 = .ok (.getfield 188, 3) := by decide +kernel
theorem dX4_repair_37 : decode cX4_repair 37 = .ok (.ifnull 13, 3) := by decide +kernel
theorem dX4_repair_40 : decode cX4_repair 40 = .ok (.new 57, 3) := by decide +kernel
theorem dX4_repair_43 : decode cX4_repair 43 = .ok (.dup, 1) := by decide +kernel
theorem dX4_repair_44 : decode cX4_repair 44 = .ok (.ldc 192, 2) := by decide +kernel
theorem dX4_repair_46 : decode cX4_repair 46 = .ok (.invokespecial 61, 3) := by decide +kernel
theorem dX4_repair_49 : decode cX4_repair 49 = .ok (.athrow, 1) := by decide +kernel
theorem dX4_repair_50 : decode cX4_repair 50 = .ok (.aload_n 3, 1) := by decide +kernel
theorem dX4_repair_51 : decode cX4_repair 51 = .ok (.aload_n 2, 1) := by decide +kernel
theorem dX4_repair_52 : decode cX4_repair 52 = .ok (.putfield 188, 3) := by decide +kernel
theorem dX4_repair_55 : decode cX4_repair 55 = .ok (.aload_n 3, 1) := by decide +kernel
theorem dX4_repair_56 : decode cX4_repair 56 = .ok (.aload_n 0, 1) := by decide +kernel
theorem dX4_repair_57 : decode cX4_repair 57 = .ok (.getfield 38, 3) := by decide +kernel
theorem dX4_repair_60 : decode cX4_repair 60 = .ok (.bipush 50, 2) := by decide +kernel
theorem dX4_repair_62 : decode cX4_repair 62 = .ok (.iadd, 1) := by decide +kernel
theorem dX4_repair_63 : decode cX4_repair 63 = .ok (.putfield 194, 3) := by decide +kernel
theorem dX4_repair_66 : decode cX4_repair 66 = .ok (.aload_n 3, 1) := by decide +kernel
theorem dX4_repair_67 : decode cX4_repair 67 = .ok (.getfield 194, 3) := by decide +kernel
theorem dX4_repair_70 : decode cX4_repair 70 = .ok (.ireturn, 1) := by decide +kernel
set_option maxRecDepth 20000 in
theorem ggX4_pass_X4_nextChange : GoodIn wsX4_pass wsX4_nextChange := goodIn_r _ [11, 5, 12, 13, 14, 15, 16, 17, 18, 19, 20, 21, 22, 23, 69, 70, 71, 72, 73, 74, 75, 76, 77, 78, 79, 80, 81, 82, 83, 84, 85, 86, 87, 88, 89, 90, 91, 92, 93, 94] (by decide +kernel) (by decide +kernel)
set_option maxRecDepth 20000 in
theorem gX4_pass_X4_nextChange : GoodIn wsX4_pass (wsV RX4 202 RX4 yX4_nextChange wsX4_nextChange) := goodIn_app (goodIn_of _ (by decide +kernel)) ggX4_pass_X4_nextChange
set_option maxRecDepth 20000 in
theorem ggX4_pass_X4_passStretch : GoodIn wsX4_pass wsX4_passStretch := goodIn_r _ [27, 16, 5, 17, 28, 29, 30, 21, 31, 32, 33, 34, 35, 36, 37, 38, 23, 39, 40, 41, 42, 43, 44, 45, 46, 47, 48, 13, 14, 15, 49, 50, 51, 52, 53, 54, 55, 56, 57, 58, 59, 60, 61, 62, 63, 64, 65, 66, 67, 68, 69, 70, 71, 72, 73, 74, 75, 78, 79, 80, 81, 82, 83, 84, 85, 86, 87, 88, 89, 90, 91, 92, 93, 94, 76, 77] (by decide +kernel) (by decide +kernel)
set_option maxRecDepth 20000 in
theorem gX4_pass_X4_passStretch : GoodIn wsX4_pass (wsV RX4 205 RX4 yX4_passStretch wsX4_passStretch) := goodIn_app (goodIn_of _ (by decide +kernel)) ggX4_pass_X4_passStretch
theorem dX4_pass_0 : decode cX4_pass 0 = .ok (.iload_n 1, 1) := by decide +kernel
theorem dX4_pass_1 : decode cX4_pass 1 = .ok (.iconst 1, 1) := by decide +kernel
theorem dX4_pass_2 : decode cX4_pass 2 = .ok (.if_icmp .lt 10, 3) := by decide +kernel
theorem dX4_pass_5 : decode cX4_pass 5 = .ok (.iload_n 1, 1) := by decide +kernel
theorem dX4_pass_6 : decode cX4_pass 6 = .ok (.sipush 2000, 3) := by decide +kernel
theorem dX4_pass_9 : decode cX4_pass 9 = .ok (.if_icmp .le 13, 3) := by decide +kernel
theorem dX4_pass_12 : decode cX4_pass 12 = .ok (.new 48, 3) := by decide +kernel
theorem dX4_pass_15 : decode cX4_pass 15 = .ok (.dup, 1) := by decide +kernel
theorem dX4_pass_16 : decode cX4_pass 16 = .ok (.ldc 197, 2) := by decide +kernel
theorem dX4_pass_18 : decode cX4_pass 18 = .ok (.invokespecial 52, 3) := by decide +kernel
theorem dX4_pass_21 : decode cX4_pass 21 = .ok (.athrow, 1) := by decide +kernel
theorem dX4_pass_22 : decode cX4_pass 22 = .ok (.aload_n 0, 1) := by decide +kernel
theorem dX4_pass_23 : decode cX4_pass 23 = .ok (.getfield 38, 3) := by decide +kernel
theorem dX4_pass_26 : decode cX4_pass 26 = .ok (.iload_n 1, 1) := by decide +kernel
theorem dX4_pass_27 : decode cX4_pass 27 = .ok (.iadd, 1) := by decide +kernel
theorem dX4_pass_28 : decode cX4_pass 28 = .ok (.ldc 199, 2) := by decide +kernel
theorem dX4_pass_30 : decode cX4_pass 30 = .ok (.if_icmp .le 13, 3) := by decide +kernel
theorem dX4_pass_33 : decode cX4_pass 33 = .ok (.new 57, 3) := by decide +kernel
theorem dX4_pass_36 : decode cX4_pass 36 = .ok (.dup, 1) := by decide +kernel
theorem dX4_pass_37 : decode cX4_pass 37 = .ok (.ldc 200, 2) := by decide +kernel
theorem dX4_pass_39 : decode cX4_pass 39 = .ok (.invokespecial 61, 3) := by decide +kernel
theorem dX4_pass_42 : decode cX4_pass 42 = .ok (.athrow, 1) := by decide +kernel
theorem dX4_pass_43 : decode cX4_pass 43 = .ok (.aload_n 0, 1) := by decide +kernel
theorem dX4_pass_44 : decode cX4_pass 44 = .ok (.getfield 38, 3) := by decide +kernel
theorem dX4_pass_47 : decode cX4_pass 47 = .ok (.iload_n 1, 1) := by decide +kernel
theorem dX4_pass_48 : decode cX4_pass 48 = .ok (.iadd, 1) := by decide +kernel
theorem dX4_pass_49 : decode cX4_pass 49 = .ok (.istore_n 2, 1) := by decide +kernel
theorem dX4_pass_50 : decode cX4_pass 50 = .ok (.iconst 0, 1) := by decide +kernel
theorem dX4_pass_51 : decode cX4_pass 51 = .ok (.istore_n 3, 1) := by decide +kernel
theorem dX4_pass_52 : decode cX4_pass 52 = .ok (.iload_n 3, 1) := by decide +kernel
theorem dX4_pass_53 : decode cX4_pass 53 = .ok (.iload_n 1, 1) := by decide +kernel
theorem dX4_pass_54 : decode cX4_pass 54 = .ok (.if_icmp .ge 26, 3) := by decide +kernel
theorem dX4_pass_57 : decode cX4_pass 57 = .ok (.aload_n 0, 1) := by decide +kernel
theorem dX4_pass_58 : decode cX4_pass 58 = .ok (.getfield 38, 3) := by decide +kernel
theorem dX4_pass_61 : decode cX4_pass 61 = .ok (.iload_n 2, 1) := by decide +kernel
theorem dX4_pass_62 : decode cX4_pass 62 = .ok (.if_icmp .ge 18, 3) := by decide +kernel
theorem dX4_pass_65 : decode cX4_pass 65 = .ok (.aload_n 0, 1) := by decide +kernel
theorem dX4_pass_66 : decode cX4_pass 66 = .ok (.aload_n 0, 1) := by decide +kernel
theorem dX4_pass_67 : decode cX4_pass 67 = .ok (.iload_n 2, 1) := by decide +kernel
theorem dX4_pass_68 : decode cX4_pass 68 = .ok (.invokevirtual 202, 3) := by decide +kernel
theorem dX4_pass_71 : decode cX4_pass 71 = .ok (.invokevirtual 205, 3) := by decide +kernel
theorem dX4_pass_74 : decode cX4_pass 74 = .ok (.iinc 3 1, 3) := by decide +kernel
theorem dX4_pass_77 : decode cX4_pass 77 = .ok (.goto (-25), 3) := by decide +kernel
theorem dX4_pass_80 : decode cX4_pass 80 = .ok (.aload_n 0, 1) := by decide +kernel
theorem dX4_pass_81 : decode cX4_pass 81 = .ok (.getfield 38, 3) := by decide +kernel
theorem dX4_pass_84 : decode cX4_pass 84 = .ok (.ireturn, 1) := by decide +kernel
theorem dX4_time_0 : decode cX4_time 0 = .ok (.aload_n 0, 1) := by decide +kernel
theorem dX4_time_1 : decode cX4_time 1 = .ok (.getfield 38, 3) := by decide +kernel
theorem dX4_time_4 : decode cX4_time 4 = .ok (.ireturn, 1) := by decide +kernel
set_option maxRecDepth 20000 in
theorem ggX4_ringing_X4_houseAt : GoodIn wsX4_ringing wsX4_houseAt := goodIn_ca (goodIn_r _ [5, 6, 7, 8, 9, 4, 10, 11, 12, 19, 20, 21, 22, 23, 24, 25] (by decide +kernel) (by decide +kernel)) (goodIn_sub (fun _ h => List.mem_cons_of_mem _ (List.mem_append_right _ h)) (by decide +kernel))
set_option maxRecDepth 20000 in
theorem gX4_ringing_X4_houseAt : GoodIn wsX4_ringing (wsV RX4 95 RX4 yX4_houseAt wsX4_houseAt) := goodIn_app (goodIn_of _ (by decide +kernel)) ggX4_ringing_X4_houseAt
set_option maxRecDepth 20000 in
theorem ggX4_ringing_X2_ringingSet : GoodIn wsX4_ringing wsX2_ringingSet := goodIn_r _ [17, 18, 26, 27, 28, 29, 30, 31, 32, 33, 34, 35, 36, 37, 38, 39, 40, 41, 42] (by decide +kernel) (by decide +kernel)
set_option maxRecDepth 20000 in
theorem gX4_ringing_X2_ringingSet : GoodIn wsX4_ringing (wsV RX4 208 RX2 yX2_ringingSet wsX2_ringingSet) := goodIn_app (goodIn_of _ (by decide +kernel)) ggX4_ringing_X2_ringingSet
theorem dX4_ringing_0 : decode cX4_ringing 0 = .ok (.aload_n 0, 1) := by decide +kernel
theorem dX4_ringing_1 : decode cX4_ringing 1 = .ok (.iload_n 1, 1) := by decide +kernel
theorem dX4_ringing_2 : decode cX4_ringing 2 = .ok (.invokevirtual 95, 3) := by decide +kernel
theorem dX4_ringing_5 : decode cX4_ringing 5 = .ok (.invokevirtual 208, 3) := by decide +kernel
theorem dX4_ringing_8 : decode cX4_ringing 8 = .ok (.ireturn, 1) := by decide +kernel
set_option maxRecDepth 20000 in
theorem ggX4_isSound_X4_houseAt : GoodIn wsX4_isSound wsX4_houseAt := goodIn_ca (goodIn_r _ [5, 6, 7, 8, 9, 4, 10, 11, 12, 26, 27, 28, 29, 30, 31, 32] (by decide +kernel) (by decide +kernel)) (goodIn_sub (fun _ h => List.mem_cons_of_mem _ (List.mem_append_right _ h)) (by decide +kernel))
set_option maxRecDepth 20000 in
theorem gX4_isSound_X4_houseAt : GoodIn wsX4_isSound (wsV RX4 95 RX4 yX4_houseAt wsX4_houseAt) := goodIn_app (goodIn_of _ (by decide +kernel)) ggX4_isSound_X4_houseAt
theorem dX4_isSound_0 : decode cX4_isSound 0 = .ok (.aload_n 0, 1) := by decide +kernel
theorem dX4_isSound_1 : decode cX4_isSound 1 = .ok (.iload_n 1, 1) := by decide +kernel
theorem dX4_isSound_2 : decode cX4_isSound 2 = .ok (.invokevirtual 95, 3) := by decide +kernel
theorem dX4_isSound_5 : decode cX4_isSound 5 = .ok (.getfield 147, 3) := by decide +kernel
theorem dX4_isSound_8 : decode cX4_isSound 8 = .ok (.ireturn, 1) := by decide +kernel
set_option maxRecDepth 20000 in
theorem ggX4_ringsLeft_X4_houseAt : GoodIn wsX4_ringsLeft wsX4_houseAt := goodIn_ca (goodIn_r _ [5, 6, 7, 8, 9, 4, 10, 11, 12, 35, 36, 37, 38, 39, 40, 41] (by decide +kernel) (by decide +kernel)) (goodIn_sub (fun _ h => List.mem_cons_of_mem _ (List.mem_append_right _ h)) (by decide +kernel))
set_option maxRecDepth 20000 in
theorem gX4_ringsLeft_X4_houseAt : GoodIn wsX4_ringsLeft (wsV RX4 95 RX4 yX4_houseAt wsX4_houseAt) := goodIn_app (goodIn_of _ (by decide +kernel)) ggX4_ringsLeft_X4_houseAt
set_option maxRecDepth 20000 in
theorem ggX4_ringsLeft_X4_melodyAt : GoodIn wsX4_ringsLeft wsX4_melodyAt := goodIn_ca (goodIn_r _ [16, 11, 12, 17, 35, 36, 37, 38, 39, 40, 41] (by decide +kernel) (by decide +kernel)) (goodIn_sub (fun _ h => List.mem_cons_of_mem _ (List.mem_append_right _ h)) (by decide +kernel))
set_option maxRecDepth 20000 in
theorem gX4_ringsLeft_X4_melodyAt : GoodIn wsX4_ringsLeft (wsV RX4 65 RX4 yX4_melodyAt wsX4_melodyAt) := goodIn_app (goodIn_of _ (by decide +kernel)) ggX4_ringsLeft_X4_melodyAt
theorem dX4_ringsLeft_0 : decode cX4_ringsLeft 0 = .ok (.aload_n 0, 1) := by decide +kernel
theorem dX4_ringsLeft_1 : decode cX4_ringsLeft 1 = .ok (.iload_n 1, 1) := by decide +kernel
theorem dX4_ringsLeft_2 : decode cX4_ringsLeft 2 = .ok (.invokevirtual 95, 3) := by decide +kernel
theorem dX4_ringsLeft_5 : decode cX4_ringsLeft 5 = .ok (.astore_n 3, 1) := by decide +kernel
theorem dX4_ringsLeft_6 : decode cX4_ringsLeft 6 = .ok (.aload_n 0, 1) := by decide +kernel
theorem dX4_ringsLeft_7 : decode cX4_ringsLeft 7 = .ok (.iload_n 2, 1) := by decide +kernel
theorem dX4_ringsLeft_8 : decode cX4_ringsLeft 8 = .ok (.invokevirtual 65, 3) := by decide +kernel
theorem dX4_ringsLeft_11 : decode cX4_ringsLeft 11 = .ok (.getfield 101, 3) := by decide +kernel
theorem dX4_ringsLeft_14 : decode cX4_ringsLeft 14 = .ok (.iload_n 1, 1) := by decide +kernel
theorem dX4_ringsLeft_15 : decode cX4_ringsLeft 15 = .ok (.if_icmp .ne 7, 3) := by decide +kernel
theorem dX4_ringsLeft_18 : decode cX4_ringsLeft 18 = .ok (.iconst (-1), 1) := by decide +kernel
theorem dX4_ringsLeft_19 : decode cX4_ringsLeft 19 = .ok (.goto 9, 3) := by decide +kernel
theorem dX4_ringsLeft_22 : decode cX4_ringsLeft 22 = .ok (.aload_n 3, 1) := by decide +kernel
theorem dX4_ringsLeft_23 : decode cX4_ringsLeft 23 = .ok (.getfield 106, 3) := by decide +kernel
theorem dX4_ringsLeft_26 : decode cX4_ringsLeft 26 = .ok (.iload_n 2, 1) := by decide +kernel
theorem dX4_ringsLeft_27 : decode cX4_ringsLeft 27 = .ok (.iaload, 1) := by decide +kernel
theorem dX4_ringsLeft_28 : decode cX4_ringsLeft 28 = .ok (.ireturn, 1) := by decide +kernel
set_option maxRecDepth 20000 in
theorem ggX4_points_X4_houseAt : GoodIn wsX4_points wsX4_houseAt := goodIn_ca (goodIn_r _ [5, 6, 7, 8, 9, 4, 10, 11, 12, 26, 27, 28, 29, 30, 31, 32] (by decide +kernel) (by decide +kernel)) (goodIn_sub (fun _ h => List.mem_cons_of_mem _ (List.mem_append_right _ h)) (by decide +kernel))
set_option maxRecDepth 20000 in
theorem gX4_points_X4_houseAt : GoodIn wsX4_points (wsV RX4 95 RX4 yX4_houseAt wsX4_houseAt) := goodIn_app (goodIn_of _ (by decide +kernel)) ggX4_points_X4_houseAt
theorem dX4_points_0 : decode cX4_points 0 = .ok (.aload_n 0, 1) := by decide +kernel
theorem dX4_points_1 : decode cX4_points 1 = .ok (.iload_n 1, 1) := by decide +kernel
theorem dX4_points_2 : decode cX4_points 2 = .ok (.invokevirtual 95, 3) := by decide +kernel
theorem dX4_points_5 : decode cX4_points 5 = .ok (.getfield 211, 3) := by decide +kernel
theorem dX4_points_8 : decode cX4_points 8 = .ok (.ireturn, 1) := by decide +kernel
set_option maxRecDepth 20000 in
theorem ggX4_secondsRung_X4_houseAt : GoodIn wsX4_secondsRung wsX4_houseAt := goodIn_ca (goodIn_r _ [5, 6, 7, 8, 9, 4, 10, 11, 12, 26, 27, 28, 29, 30, 31, 32] (by decide +kernel) (by decide +kernel)) (goodIn_sub (fun _ h => List.mem_cons_of_mem _ (List.mem_append_right _ h)) (by decide +kernel))
set_option maxRecDepth 20000 in
theorem gX4_secondsRung_X4_houseAt : GoodIn wsX4_secondsRung (wsV RX4 95 RX4 yX4_houseAt wsX4_houseAt) := goodIn_app (goodIn_of _ (by decide +kernel)) ggX4_secondsRung_X4_houseAt
theorem dX4_secondsRung_0 : decode cX4_secondsRung 0 = .ok (.aload_n 0, 1) := by decide +kernel
theorem dX4_secondsRung_1 : decode cX4_secondsRung 1 = .ok (.iload_n 1, 1) := by decide +kernel
theorem dX4_secondsRung_2 : decode cX4_secondsRung 2 = .ok (.invokevirtual 95, 3) := by decide +kernel
theorem dX4_secondsRung_5 : decode cX4_secondsRung 5 = .ok (.getfield 214, 3) := by decide +kernel
theorem dX4_secondsRung_8 : decode cX4_secondsRung 8 = .ok (.ireturn, 1) := by decide +kernel
set_option maxRecDepth 20000 in
theorem ggX4_quietBroken_X4_houseAt : GoodIn wsX4_quietBroken wsX4_houseAt := goodIn_ca (goodIn_r _ [5, 6, 7, 8, 9, 4, 10, 11, 12, 26, 27, 28, 29, 30, 31, 32] (by decide +kernel) (by decide +kernel)) (goodIn_sub (fun _ h => List.mem_cons_of_mem _ (List.mem_append_right _ h)) (by decide +kernel))
set_option maxRecDepth 20000 in
theorem gX4_quietBroken_X4_houseAt : GoodIn wsX4_quietBroken (wsV RX4 95 RX4 yX4_houseAt wsX4_houseAt) := goodIn_app (goodIn_of _ (by decide +kernel)) ggX4_quietBroken_X4_houseAt
theorem dX4_quietBroken_0 : decode cX4_quietBroken 0 = .ok (.aload_n 0, 1) := by decide +kernel
theorem dX4_quietBroken_1 : decode cX4_quietBroken 1 = .ok (.iload_n 1, 1) := by decide +kernel
theorem dX4_quietBroken_2 : decode cX4_quietBroken 2 = .ok (.invokevirtual 95, 3) := by decide +kernel
theorem dX4_quietBroken_5 : decode cX4_quietBroken 5 = .ok (.getfield 217, 3) := by decide +kernel
theorem dX4_quietBroken_8 : decode cX4_quietBroken 8 = .ok (.ireturn, 1) := by decide +kernel
set_option maxRecDepth 20000 in
theorem ggX4_hushed_X4_houseAt : GoodIn wsX4_hushed wsX4_houseAt := goodIn_ca (goodIn_r _ [5, 6, 7, 8, 9, 4, 10, 11, 12, 26, 27, 28, 29, 30, 31, 32] (by decide +kernel) (by decide +kernel)) (goodIn_sub (fun _ h => List.mem_cons_of_mem _ (List.mem_append_right _ h)) (by decide +kernel))
set_option maxRecDepth 20000 in
theorem gX4_hushed_X4_houseAt : GoodIn wsX4_hushed (wsV RX4 95 RX4 yX4_houseAt wsX4_houseAt) := goodIn_app (goodIn_of _ (by decide +kernel)) ggX4_hushed_X4_houseAt
theorem dX4_hushed_0 : decode cX4_hushed 0 = .ok (.aload_n 0, 1) := by decide +kernel
theorem dX4_hushed_1 : decode cX4_hushed 1 = .ok (.iload_n 1, 1) := by decide +kernel
theorem dX4_hushed_2 : decode cX4_hushed 2 = .ok (.invokevirtual 95, 3) := by decide +kernel
theorem dX4_hushed_5 : decode cX4_hushed 5 = .ok (.getfield 150, 3) := by decide +kernel
theorem dX4_hushed_8 : decode cX4_hushed 8 = .ok (.ireturn, 1) := by decide +kernel
theorem dX4_faults_0 : decode cX4_faults 0 = .ok (.aload_n 0, 1) := by decide +kernel
theorem dX4_faults_1 : decode cX4_faults 1 = .ok (.getfield 35, 3) := by decide +kernel
theorem dX4_faults_4 : decode cX4_faults 4 = .ok (.ireturn, 1) := by decide +kernel
theorem dX4_faultAt_0 : decode cX4_faultAt 0 = .ok (.iload_n 1, 1) := by decide +kernel
theorem dX4_faultAt_1 : decode cX4_faultAt 1 = .ok (.ifCond .lt 11, 3) := by decide +kernel
theorem dX4_faultAt_4 : decode cX4_faultAt 4 = .ok (.iload_n 1, 1) := by decide +kernel
theorem dX4_faultAt_5 : decode cX4_faultAt 5 = .ok (.aload_n 0, 1) := by decide +kernel
theorem dX4_faultAt_6 : decode cX4_faultAt 6 = .ok (.getfield 35, 3) := by decide +kernel
theorem dX4_faultAt_9 : decode cX4_faultAt 9 = .ok (.if_icmp .lt 13, 3) := by decide +kernel
theorem dX4_faultAt_12 : decode cX4_faultAt 12 = .ok (.new 72, 3) := by decide +kernel
theorem dX4_faultAt_15 : decode cX4_faultAt 15 = .ok (.dup, 1) := by decide +kernel
theorem dX4_faultAt_16 : decode cX4_faultAt 16 = .ok (.ldc 220, 2) := by decide +kernel
theorem dX4_faultAt_18 : decode cX4_faultAt 18 = .ok (.invokespecial 76, 3) := by decide +kernel
theorem dX4_faultAt_21 : decode cX4_faultAt 21 = .ok (.athrow, 1) := by decide +kernel
theorem dX4_faultAt_22 : decode cX4_faultAt 22 = .ok (.aload_n 0, 1) := by decide +kernel
theorem dX4_faultAt_23 : decode cX4_faultAt 23 = .ok (.getfield 27, 3) := by decide +kernel
theorem dX4_faultAt_26 : decode cX4_faultAt 26 = .ok (.iload_n 1, 1) := by decide +kernel
theorem dX4_faultAt_27 : decode cX4_faultAt 27 = .ok (.iaload, 1) := by decide +kernel
theorem dX4_faultAt_28 : decode cX4_faultAt 28 = .ok (.ireturn, 1) := by decide +kernel
theorem dX4_checkHouse_0 : decode cX4_checkHouse 0 = .ok (.iload_n 1, 1) := by decide +kernel
theorem dX4_checkHouse_1 : decode cX4_checkHouse 1 = .ok (.ifCond .lt 9, 3) := by decide +kernel
theorem dX4_checkHouse_4 : decode cX4_checkHouse 4 = .ok (.iload_n 1, 1) := by decide +kernel
theorem dX4_checkHouse_5 : decode cX4_checkHouse 5 = .ok (.bipush 8, 2) := by decide +kernel
theorem dX4_checkHouse_7 : decode cX4_checkHouse 7 = .ok (.if_icmp .lt 13, 3) := by decide +kernel
theorem dX4_checkHouse_10 : decode cX4_checkHouse 10 = .ok (.new 72, 3) := by decide +kernel
theorem dX4_checkHouse_13 : decode cX4_checkHouse 13 = .ok (.dup, 1) := by decide +kernel
theorem dX4_checkHouse_14 : decode cX4_checkHouse 14 = .ok (.ldc 222, 2) := by decide +kernel
theorem dX4_checkHouse_16 : decode cX4_checkHouse 16 = .ok (.invokespecial 76, 3) := by decide +kernel
theorem dX4_checkHouse_19 : decode cX4_checkHouse 19 = .ok (.athrow, 1) := by decide +kernel
theorem dX4_checkHouse_20 : decode cX4_checkHouse 20 = .ok (.return_, 1) := by decide +kernel
set_option maxRecDepth 20000 in
theorem ggX4_houseAt_X4_checkHouse : GoodIn wsX4_houseAt wsX4_checkHouse := goodIn_ca (goodIn_r _ [6, 7, 8] (by decide +kernel) (by decide +kernel)) (goodIn_sub (fun _ h => List.mem_cons_of_mem _ (List.mem_append_right _ h)) (by decide +kernel))
set_option maxRecDepth 20000 in
theorem gX4_houseAt_X4_checkHouse : GoodIn wsX4_houseAt (wsV RX4 45 RX4 yX4_checkHouse wsX4_checkHouse) := goodIn_app (goodIn_of _ (by decide +kernel)) ggX4_houseAt_X4_checkHouse
theorem dX4_houseAt_0 : decode cX4_houseAt 0 = .ok (.aload_n 0, 1) := by decide +kernel
theorem dX4_houseAt_1 : decode cX4_houseAt 1 = .ok (.iload_n 1, 1) := by decide +kernel
theorem dX4_houseAt_2 : decode cX4_houseAt 2 = .ok (.invokevirtual 45, 3) := by decide +kernel
theorem dX4_houseAt_5 : decode cX4_houseAt 5 = .ok (.aload_n 0, 1) := by decide +kernel
theorem dX4_houseAt_6 : decode cX4_houseAt 6 = .ok (.getfield 11, 3) := by decide +kernel
theorem dX4_houseAt_9 : decode cX4_houseAt 9 = .ok (.iload_n 1, 1) := by decide +kernel
theorem dX4_houseAt_10 : decode cX4_houseAt 10 = .ok (.aaload, 1) := by decide +kernel
theorem dX4_houseAt_11 : decode cX4_houseAt 11 = .ok (.areturn, 1) := by decide +kernel
set_option maxRecDepth 20000 in
theorem ggX4_bellAt_X4_houseAt : GoodIn wsX4_bellAt wsX4_houseAt := goodIn_ca (goodIn_r _ [7, 8, 9, 10, 11, 6, 12, 1, 2, 26, 27, 28, 29, 30, 31, 32] (by decide +kernel) (by decide +kernel)) (goodIn_sub (fun _ h => List.mem_cons_of_mem _ (List.mem_append_right _ h)) (by decide +kernel))
set_option maxRecDepth 20000 in
theorem gX4_bellAt_X4_houseAt : GoodIn wsX4_bellAt (wsV RX4 95 RX4 yX4_houseAt wsX4_houseAt) := goodIn_app (goodIn_of _ (by decide +kernel)) ggX4_bellAt_X4_houseAt
theorem dX4_bellAt_0 : decode cX4_bellAt 0 = .ok (.aload_n 0, 1) := by decide +kernel
theorem dX4_bellAt_1 : decode cX4_bellAt 1 = .ok (.iload_n 1, 1) := by decide +kernel
theorem dX4_bellAt_2 : decode cX4_bellAt 2 = .ok (.invokevirtual 95, 3) := by decide +kernel
theorem dX4_bellAt_5 : decode cX4_bellAt 5 = .ok (.astore_n 3, 1) := by decide +kernel
theorem dX4_bellAt_6 : decode cX4_bellAt 6 = .ok (.iload_n 2, 1) := by decide +kernel
theorem dX4_bellAt_7 : decode cX4_bellAt 7 = .ok (.ifCond .lt 8, 3) := by decide +kernel
theorem dX4_bellAt_10 : decode cX4_bellAt 10 = .ok (.iload_n 2, 1) := by decide +kernel
theorem dX4_bellAt_11 : decode cX4_bellAt 11 = .ok (.iconst 3, 1) := by decide +kernel
theorem dX4_bellAt_12 : decode cX4_bellAt 12 = .ok (.if_icmp .lt 13, 3) := by decide +kernel
theorem dX4_bellAt_15 : decode cX4_bellAt 15 = .ok (.new 72, 3) := by decide +kernel
theorem dX4_bellAt_18 : decode cX4_bellAt 18 = .ok (.dup, 1) := by decide +kernel
theorem dX4_bellAt_19 : decode cX4_bellAt 19 = .ok (.ldc 224, 2) := by decide +kernel
theorem dX4_bellAt_21 : decode cX4_bellAt 21 = .ok (.invokespecial 76, 3) := by decide +kernel
theorem dX4_bellAt_24 : decode cX4_bellAt 24 = .ok (.athrow, 1) := by decide +kernel
theorem dX4_bellAt_25 : decode cX4_bellAt 25 = .ok (.aload_n 3, 1) := by decide +kernel
theorem dX4_bellAt_26 : decode cX4_bellAt 26 = .ok (.getfield 226, 3) := by decide +kernel
theorem dX4_bellAt_29 : decode cX4_bellAt 29 = .ok (.iload_n 2, 1) := by decide +kernel
theorem dX4_bellAt_30 : decode cX4_bellAt 30 = .ok (.aaload, 1) := by decide +kernel
theorem dX4_bellAt_31 : decode cX4_bellAt 31 = .ok (.areturn, 1) := by decide +kernel
theorem dX4_melodyAt_0 : decode cX4_melodyAt 0 = .ok (.iload_n 1, 1) := by decide +kernel
theorem dX4_melodyAt_1 : decode cX4_melodyAt 1 = .ok (.ifCond .lt 9, 3) := by decide +kernel
theorem dX4_melodyAt_4 : decode cX4_melodyAt 4 = .ok (.iload_n 1, 1) := by decide +kernel
theorem dX4_melodyAt_5 : decode cX4_melodyAt 5 = .ok (.bipush 12, 2) := by decide +kernel
theorem dX4_melodyAt_7 : decode cX4_melodyAt 7 = .ok (.if_icmp .lt 7, 3) := by decide +kernel
theorem dX4_melodyAt_10 : decode cX4_melodyAt 10 = .ok (.aconst_null, 1) := by decide +kernel
theorem dX4_melodyAt_11 : decode cX4_melodyAt 11 = .ok (.goto 9, 3) := by decide +kernel
theorem dX4_melodyAt_14 : decode cX4_melodyAt 14 = .ok (.aload_n 0, 1) := by decide +kernel
theorem dX4_melodyAt_15 : decode cX4_melodyAt 15 = .ok (.getfield 23, 3) := by decide +kernel
theorem dX4_melodyAt_18 : decode cX4_melodyAt 18 = .ok (.iload_n 1, 1) := by decide +kernel
theorem dX4_melodyAt_19 : decode cX4_melodyAt 19 = .ok (.aaload, 1) := by decide +kernel
theorem dX4_melodyAt_20 : decode cX4_melodyAt 20 = .ok (.astore_n 2, 1) := by decide +kernel
theorem dX4_melodyAt_21 : decode cX4_melodyAt 21 = .ok (.aload_n 2, 1) := by decide +kernel
theorem dX4_melodyAt_22 : decode cX4_melodyAt 22 = .ok (.ifnonnull 13, 3) := by decide +kernel
theorem dX4_melodyAt_25 : decode cX4_melodyAt 25 = .ok (.new 72, 3) := by decide +kernel
theorem dX4_melodyAt_28 : decode cX4_melodyAt 28 = .ok (.dup, 1) := by decide +kernel
theorem dX4_melodyAt_29 : decode cX4_melodyAt 29 = .ok (.ldc 230, 2) := by decide +kernel
theorem dX4_melodyAt_31 : decode cX4_melodyAt 31 = .ok (.invokespecial 76, 3) := by decide +kernel
theorem dX4_melodyAt_34 : decode cX4_melodyAt 34 = .ok (.athrow, 1) := by decide +kernel
theorem dX4_melodyAt_35 : decode cX4_melodyAt 35 = .ok (.aload_n 2, 1) := by decide +kernel
theorem dX4_melodyAt_36 : decode cX4_melodyAt 36 = .ok (.areturn, 1) := by decide +kernel
set_option maxRecDepth 20000 in
theorem ggX4_nextChange_X2_firstStop : GoodIn wsX4_nextChange wsX2_firstStop := goodIn_r _ [12, 13, 23, 24, 25, 26, 27, 28, 29, 30, 31, 32, 33, 34, 35, 36, 37, 38, 39] (by decide +kernel) (by decide +kernel)
set_option maxRecDepth 20000 in
theorem gX4_nextChange_X2_firstStop : GoodIn wsX4_nextChange (wsV RX4 238 RX2 yX2_firstStop wsX2_firstStop) := goodIn_app (goodIn_of _ (by decide +kernel)) ggX4_nextChange_X2_firstStop
theorem dX4_nextChange_0 : decode cX4_nextChange 0 = .ok (.iload_n 1, 1) := by decide +kernel
theorem dX4_nextChange_1 : decode cX4_nextChange 1 = .ok (.aload_n 0, 1) := by decide +kernel
theorem dX4_nextChange_2 : decode cX4_nextChange 2 = .ok (.getfield 38, 3) := by decide +kernel
theorem dX4_nextChange_5 : decode cX4_nextChange 5 = .ok (.aload_n 0, 1) := by decide +kernel
theorem dX4_nextChange_6 : decode cX4_nextChange 6 = .ok (.getfield 38, 3) := by decide +kernel
theorem dX4_nextChange_9 : decode cX4_nextChange 9 = .ok (.sipush 1000, 3) := by decide +kernel
theorem dX4_nextChange_12 : decode cX4_nextChange 12 = .ok (.irem, 1) := by decide +kernel
theorem dX4_nextChange_13 : decode cX4_nextChange 13 = .ok (.isub, 1) := by decide +kernel
theorem dX4_nextChange_14 : decode cX4_nextChange 14 = .ok (.sipush 1000, 3) := by decide +kernel
theorem dX4_nextChange_17 : decode cX4_nextChange 17 = .ok (.iadd, 1) := by decide +kernel
theorem dX4_nextChange_18 : decode cX4_nextChange 18 = .ok (.invokestatic 232, 3) := by decide +kernel
theorem dX4_nextChange_21 : decode cX4_nextChange 21 = .ok (.istore_n 2, 1) := by decide +kernel
theorem dX4_nextChange_22 : decode cX4_nextChange 22 = .ok (.aload_n 0, 1) := by decide +kernel
theorem dX4_nextChange_23 : decode cX4_nextChange 23 = .ok (.getfield 11, 3) := by decide +kernel
theorem dX4_nextChange_26 : decode cX4_nextChange 26 = .ok (.astore_n 3, 1) := by decide +kernel
theorem dX4_nextChange_27 : decode cX4_nextChange 27 = .ok (.aload_n 3, 1) := by decide +kernel
theorem dX4_nextChange_28 : decode cX4_nextChange 28 = .ok (.arraylength, 1) := by decide +kernel
theorem dX4_nextChange_29 : decode cX4_nextChange 29 = .ok (.istore 4, 2) := by decide +kernel
theorem dX4_nextChange_31 : decode cX4_nextChange 31 = .ok (.iconst 0, 1) := by decide +kernel
theorem dX4_nextChange_32 : decode cX4_nextChange 32 = .ok (.istore 5, 2) := by decide +kernel
theorem dX4_nextChange_34 : decode cX4_nextChange 34 = .ok (.iload 5, 2) := by decide +kernel
theorem dX4_nextChange_36 : decode cX4_nextChange 36 = .ok (.iload 4, 2) := by decide +kernel
theorem dX4_nextChange_38 : decode cX4_nextChange 38 = .ok (.if_icmp .ge 26, 3) := by decide +kernel
theorem dX4_nextChange_41 : decode cX4_nextChange 41 = .ok (.aload_n 3, 1) := by decide +kernel
theorem dX4_nextChange_42 : decode cX4_nextChange 42 = .ok (.iload 5, 2) := by decide +kernel
theorem dX4_nextChange_44 : decode cX4_nextChange 44 = .ok (.aaload, 1) := by decide +kernel
theorem dX4_nextChange_45 : decode cX4_nextChange 45 = .ok (.astore 6, 2) := by decide +kernel
theorem dX4_nextChange_47 : decode cX4_nextChange 47 = .ok (.iload_n 2, 1) := by decide +kernel
theorem dX4_nextChange_48 : decode cX4_nextChange 48 = .ok (.aload 6, 2) := by decide +kernel
theorem dX4_nextChange_50 : decode cX4_nextChange 50 = .ok (.iload_n 2, 1) := by decide +kernel
theorem dX4_nextChange_51 : decode cX4_nextChange 51 = .ok (.invokevirtual 238, 3) := by decide +kernel
theorem dX4_nextChange_54 : decode cX4_nextChange 54 = .ok (.invokestatic 232, 3) := by decide +kernel
end
section
theorem dX4_nextChange_57 : decode cX4_nextChange 57 = .ok (.istore_n 2, 1) := by decide +kernel
theorem dX4_nextChange_58 : decode cX4_nextChange 58 = .ok (.iinc 5 1, 3) := by decide +kernel
theorem dX4_nextChange_61 : decode cX4_nextChange 61 = .ok (.goto (-27), 3) := by decide +kernel
theorem dX4_nextChange_64 : decode cX4_nextChange 64 = .ok (.aload_n 0, 1) := by decide +kernel
theorem dX4_nextChange_65 : decode cX4_nextChange 65 = .ok (.getfield 17, 3) := by decide +kernel
theorem dX4_nextChange_68 : decode cX4_nextChange 68 = .ok (.astore_n 3, 1) := by decide +kernel
theorem dX4_nextChange_69 : decode cX4_nextChange 69 = .ok (.aload_n 3, 1) := by decide +kernel
theorem dX4_nextChange_70 : decode cX4_nextChange 70 = .ok (.arraylength, 1) := by decide +kernel
theorem dX4_nextChange_71 : decode cX4_nextChange 71 = .ok (.istore 4, 2) := by decide +kernel
theorem dX4_nextChange_73 : decode cX4_nextChange 73 = .ok (.iconst 0, 1) := by decide +kernel
theorem dX4_nextChange_74 : decode cX4_nextChange 74 = .ok (.istore 5, 2) := by decide +kernel
theorem dX4_nextChange_76 : decode cX4_nextChange 76 = .ok (.iload 5, 2) := by decide +kernel
theorem dX4_nextChange_78 : decode cX4_nextChange 78 = .ok (.iload 4, 2) := by decide +kernel
theorem dX4_nextChange_80 : decode cX4_nextChange 80 = .ok (.if_icmp .ge 33, 3) := by decide +kernel
theorem dX4_nextChange_83 : decode cX4_nextChange 83 = .ok (.aload_n 3, 1) := by decide +kernel
theorem dX4_nextChange_84 : decode cX4_nextChange 84 = .ok (.iload 5, 2) := by decide +kernel
theorem dX4_nextChange_86 : decode cX4_nextChange 86 = .ok (.aaload, 1) := by decide +kernel
theorem dX4_nextChange_87 : decode cX4_nextChange 87 = .ok (.astore 6, 2) := by decide +kernel
theorem dX4_nextChange_89 : decode cX4_nextChange 89 = .ok (.aload 6, 2) := by decide +kernel
theorem dX4_nextChange_91 : decode cX4_nextChange 91 = .ok (.getfield 188, 3) := by decide +kernel
theorem dX4_nextChange_94 : decode cX4_nextChange 94 = .ok (.ifnull 13, 3) := by decide +kernel
theorem dX4_nextChange_97 : decode cX4_nextChange 97 = .ok (.iload_n 2, 1) := by decide +kernel
theorem dX4_nextChange_98 : decode cX4_nextChange 98 = .ok (.aload 6, 2) := by decide +kernel
theorem dX4_nextChange_100 : decode cX4_nextChange 100 = .ok (.getfield 194, 3) := by decide +kernel
theorem dX4_nextChange_103 : decode cX4_nextChange 103 = .ok (.invokestatic 232, 3) := by decide +kernel
theorem dX4_nextChange_106 : decode cX4_nextChange 106 = .ok (.istore_n 2, 1) := by decide +kernel
theorem dX4_nextChange_107 : decode cX4_nextChange 107 = .ok (.iinc 5 1, 3) := by decide +kernel
theorem dX4_nextChange_110 : decode cX4_nextChange 110 = .ok (.goto (-34), 3) := by decide +kernel
theorem dX4_nextChange_113 : decode cX4_nextChange 113 = .ok (.iload_n 2, 1) := by decide +kernel
theorem dX4_nextChange_114 : decode cX4_nextChange 114 = .ok (.ireturn, 1) := by decide +kernel
set_option maxRecDepth 20000 in
theorem ggX4_passStretch_X2_spend : GoodIn wsX4_passStretch wsX2_spend := goodIn_r _ [8, 9, 10, 11, 12, 13, 14, 7, 15, 16, 17, 18, 19, 20, 21, 22, 23, 24, 25, 26, 27, 28, 29, 30, 31, 32, 57, 58, 59, 60, 61, 62, 63, 64, 65, 66, 67, 68, 69, 70, 71, 72, 73] (by decide +kernel) (by decide +kernel)
set_option maxRecDepth 20000 in
theorem gX4_passStretch_X2_spend : GoodIn wsX4_passStretch (wsV RX4 241 RX2 yX2_spend wsX2_spend) := goodIn_app (goodIn_of _ (by decide +kernel)) ggX4_passStretch_X2_spend
set_option maxRecDepth 20000 in
theorem ggX4_passStretch_X2_stopEndedBells : GoodIn wsX4_passStretch wsX2_stopEndedBells := goodIn_r _ [36, 16, 57, 58, 59, 60, 61, 62, 63, 64, 65, 66, 67, 68, 69, 70, 71, 72, 73] (by decide +kernel) (by decide +kernel)
set_option maxRecDepth 20000 in
theorem gX4_passStretch_X2_stopEndedBells : GoodIn wsX4_passStretch (wsV RX4 245 RX2 yX2_stopEndedBells wsX2_stopEndedBells) := goodIn_app (goodIn_of _ (by decide +kernel)) ggX4_passStretch_X2_stopEndedBells
set_option maxRecDepth 20000 in
theorem ggX4_passStretch_X1_finish : GoodIn wsX4_passStretch wsX1_finish := goodIn_r _ [41, 42, 43, 74, 75, 57, 58, 59, 60, 61, 62, 63, 64, 65, 66, 67, 68, 69] (by decide +kernel) (by decide +kernel)
set_option maxRecDepth 20000 in
theorem gX4_passStretch_X1_finish : GoodIn wsX4_passStretch (wsV RX4 248 RX1 yX1_finish wsX1_finish) := goodIn_app (goodIn_of _ (by decide +kernel)) ggX4_passStretch_X1_finish
set_option maxRecDepth 20000 in
theorem ggX4_passStretch_X2_closeDay : GoodIn wsX4_passStretch wsX2_closeDay := goodIn_r _ [47, 11, 48, 49, 57, 58, 59, 60, 61, 62, 63, 64, 65, 66, 67, 68, 69] (by decide +kernel) (by decide +kernel)
set_option maxRecDepth 20000 in
theorem gX4_passStretch_X2_closeDay : GoodIn wsX4_passStretch (wsV RX4 251 RX2 yX2_closeDay wsX2_closeDay) := goodIn_app (goodIn_of _ (by decide +kernel)) ggX4_passStretch_X2_closeDay
theorem dX4_passStretch_0 : decode cX4_passStretch 0 = .ok (.aload_n 0, 1) := by decide +kernel
theorem dX4_passStretch_1 : decode cX4_passStretch 1 = .ok (.getfield 11, 3) := by decide +kernel
theorem dX4_passStretch_4 : decode cX4_passStretch 4 = .ok (.astore_n 2, 1) := by decide +kernel
theorem dX4_passStretch_5 : decode cX4_passStretch 5 = .ok (.aload_n 2, 1) := by decide +kernel
theorem dX4_passStretch_6 : decode cX4_passStretch 6 = .ok (.arraylength, 1) := by decide +kernel
theorem dX4_passStretch_7 : decode cX4_passStretch 7 = .ok (.istore_n 3, 1) := by decide +kernel
theorem dX4_passStretch_8 : decode cX4_passStretch 8 = .ok (.iconst 0, 1) := by decide +kernel
theorem dX4_passStretch_9 : decode cX4_passStretch 9 = .ok (.istore 4, 2) := by decide +kernel
theorem dX4_passStretch_11 : decode cX4_passStretch 11 = .ok (.iload 4, 2) := by decide +kernel
theorem dX4_passStretch_13 : decode cX4_passStretch 13 = .ok (.iload_n 3, 1) := by decide +kernel
theorem dX4_passStretch_14 : decode cX4_passStretch 14 = .ok (.if_icmp .ge 25, 3) := by decide +kernel
theorem dX4_passStretch_17 : decode cX4_passStretch 17 = .ok (.aload_n 2, 1) := by decide +kernel
theorem dX4_passStretch_18 : decode cX4_passStretch 18 = .ok (.iload 4, 2) := by decide +kernel
theorem dX4_passStretch_20 : decode cX4_passStretch 20 = .ok (.aaload, 1) := by decide +kernel
theorem dX4_passStretch_21 : decode cX4_passStretch 21 = .ok (.astore 5, 2) := by decide +kernel
theorem dX4_passStretch_23 : decode cX4_passStretch 23 = .ok (.aload 5, 2) := by decide +kernel
theorem dX4_passStretch_25 : decode cX4_passStretch 25 = .ok (.aload_n 0, 1) := by decide +kernel
theorem dX4_passStretch_26 : decode cX4_passStretch 26 = .ok (.getfield 38, 3) := by decide +kernel
theorem dX4_passStretch_29 : decode cX4_passStretch 29 = .ok (.iload_n 1, 1) := by decide +kernel
theorem dX4_passStretch_30 : decode cX4_passStretch 30 = .ok (.invokevirtual 241, 3) := by decide +kernel
theorem dX4_passStretch_33 : decode cX4_passStretch 33 = .ok (.iinc 4 1, 3) := by decide +kernel
theorem dX4_passStretch_36 : decode cX4_passStretch 36 = .ok (.goto (-25), 3) := by decide +kernel
theorem dX4_passStretch_39 : decode cX4_passStretch 39 = .ok (.aload_n 0, 1) := by decide +kernel
theorem dX4_passStretch_40 : decode cX4_passStretch 40 = .ok (.iload_n 1, 1) := by decide +kernel
theorem dX4_passStretch_41 : decode cX4_passStretch 41 = .ok (.putfield 38, 3) := by decide +kernel
theorem dX4_passStretch_44 : decode cX4_passStretch 44 = .ok (.aload_n 0, 1) := by decide +kernel
theorem dX4_passStretch_45 : decode cX4_passStretch 45 = .ok (.getfield 11, 3) := by decide +kernel
theorem dX4_passStretch_48 : decode cX4_passStretch 48 = .ok (.astore_n 2, 1) := by decide +kernel
theorem dX4_passStretch_49 : decode cX4_passStretch 49 = .ok (.aload_n 2, 1) := by decide +kernel
theorem dX4_passStretch_50 : decode cX4_passStretch 50 = .ok (.arraylength, 1) := by decide +kernel
theorem dX4_passStretch_51 : decode cX4_passStretch 51 = .ok (.istore_n 3, 1) := by decide +kernel
theorem dX4_passStretch_52 : decode cX4_passStretch 52 = .ok (.iconst 0, 1) := by decide +kernel
theorem dX4_passStretch_53 : decode cX4_passStretch 53 = .ok (.istore 4, 2) := by decide +kernel
theorem dX4_passStretch_55 : decode cX4_passStretch 55 = .ok (.iload 4, 2) := by decide +kernel
theorem dX4_passStretch_57 : decode cX4_passStretch 57 = .ok (.iload_n 3, 1) := by decide +kernel
theorem dX4_passStretch_58 : decode cX4_passStretch 58 = .ok (.if_icmp .ge 24, 3) := by decide +kernel
theorem dX4_passStretch_61 : decode cX4_passStretch 61 = .ok (.aload_n 2, 1) := by decide +kernel
theorem dX4_passStretch_62 : decode cX4_passStretch 62 = .ok (.iload 4, 2) := by decide +kernel
theorem dX4_passStretch_64 : decode cX4_passStretch 64 = .ok (.aaload, 1) := by decide +kernel
theorem dX4_passStretch_65 : decode cX4_passStretch 65 = .ok (.astore 5, 2) := by decide +kernel
theorem dX4_passStretch_67 : decode cX4_passStretch 67 = .ok (.aload 5, 2) := by decide +kernel
theorem dX4_passStretch_69 : decode cX4_passStretch 69 = .ok (.aload_n 0, 1) := by decide +kernel
theorem dX4_passStretch_70 : decode cX4_passStretch 70 = .ok (.getfield 38, 3) := by decide +kernel
theorem dX4_passStretch_73 : decode cX4_passStretch 73 = .ok (.invokevirtual 245, 3) := by decide +kernel
theorem dX4_passStretch_76 : decode cX4_passStretch 76 = .ok (.iinc 4 1, 3) := by decide +kernel
theorem dX4_passStretch_79 : decode cX4_passStretch 79 = .ok (.goto (-24), 3) := by decide +kernel
theorem dX4_passStretch_82 : decode cX4_passStretch 82 = .ok (.aload_n 0, 1) := by decide +kernel
theorem dX4_passStretch_83 : decode cX4_passStretch 83 = .ok (.getfield 17, 3) := by decide +kernel
theorem dX4_passStretch_86 : decode cX4_passStretch 86 = .ok (.astore_n 2, 1) := by decide +kernel
theorem dX4_passStretch_87 : decode cX4_passStretch 87 = .ok (.aload_n 2, 1) := by decide +kernel
theorem dX4_passStretch_88 : decode cX4_passStretch 88 = .ok (.arraylength, 1) := by decide +kernel
theorem dX4_passStretch_89 : decode cX4_passStretch 89 = .ok (.istore_n 3, 1) := by decide +kernel
theorem dX4_passStretch_90 : decode cX4_passStretch 90 = .ok (.iconst 0, 1) := by decide +kernel
theorem dX4_passStretch_91 : decode cX4_passStretch 91 = .ok (.istore 4, 2) := by decide +kernel
theorem dX4_passStretch_93 : decode cX4_passStretch 93 = .ok (.iload 4, 2) := by decide +kernel
theorem dX4_passStretch_95 : decode cX4_passStretch 95 = .ok (.iload_n 3, 1) := by decide +kernel
theorem dX4_passStretch_96 : decode cX4_passStretch 96 = .ok (.if_icmp .ge 24, 3) := by decide +kernel
theorem dX4_passStretch_99 : decode cX4_passStretch 99 = .ok (.aload_n 2, 1) := by decide +kernel
theorem dX4_passStretch_100 : decode cX4_passStretch 100 = .ok (.iload 4, 2) := by decide +kernel
theorem dX4_passStretch_102 : decode cX4_passStretch 102 = .ok (.aaload, 1) := by decide +kernel
theorem dX4_passStretch_103 : decode cX4_passStretch 103 = .ok (.astore 5, 2) := by decide +kernel
theorem dX4_passStretch_105 : decode cX4_passStretch 105 = .ok (.aload 5, 2) := by decide +kernel
theorem dX4_passStretch_107 : decode cX4_passStretch 107 = .ok (.aload_n 0, 1) := by decide +kernel
theorem dX4_passStretch_108 : decode cX4_passStretch 108 = .ok (.getfield 38, 3) := by decide +kernel
theorem dX4_passStretch_111 : decode cX4_passStretch 111 = .ok (.invokevirtual 248, 3) := by decide +kernel
theorem dX4_passStretch_114 : decode cX4_passStretch 114 = .ok (.iinc 4 1, 3) := by decide +kernel
theorem dX4_passStretch_117 : decode cX4_passStretch 117 = .ok (.goto (-24), 3) := by decide +kernel
theorem dX4_passStretch_120 : decode cX4_passStretch 120 = .ok (.aload_n 0, 1) := by decide +kernel
theorem dX4_passStretch_121 : decode cX4_passStretch 121 = .ok (.getfield 38, 3) := by decide +kernel
theorem dX4_passStretch_124 : decode cX4_passStretch 124 = .ok (.sipush 1000, 3) := by decide +kernel
theorem dX4_passStretch_127 : decode cX4_passStretch 127 = .ok (.irem, 1) := by decide +kernel
theorem dX4_passStretch_128 : decode cX4_passStretch 128 = .ok (.ifCond .ne 37, 3) := by decide +kernel
theorem dX4_passStretch_131 : decode cX4_passStretch 131 = .ok (.aload_n 0, 1) := by decide +kernel
theorem dX4_passStretch_132 : decode cX4_passStretch 132 = .ok (.getfield 11, 3) := by decide +kernel
theorem dX4_passStretch_135 : decode cX4_passStretch 135 = .ok (.astore_n 2, 1) := by decide +kernel
theorem dX4_passStretch_136 : decode cX4_passStretch 136 = .ok (.aload_n 2, 1) := by decide +kernel
theorem dX4_passStretch_137 : decode cX4_passStretch 137 = .ok (.arraylength, 1) := by decide +kernel
theorem dX4_passStretch_138 : decode cX4_passStretch 138 = .ok (.istore_n 3, 1) := by decide +kernel
theorem dX4_passStretch_139 : decode cX4_passStretch 139 = .ok (.iconst 0, 1) := by decide +kernel
theorem dX4_passStretch_140 : decode cX4_passStretch 140 = .ok (.istore 4, 2) := by decide +kernel
theorem dX4_passStretch_142 : decode cX4_passStretch 142 = .ok (.iload 4, 2) := by decide +kernel
theorem dX4_passStretch_144 : decode cX4_passStretch 144 = .ok (.iload_n 3, 1) := by decide +kernel
theorem dX4_passStretch_145 : decode cX4_passStretch 145 = .ok (.if_icmp .ge 20, 3) := by decide +kernel
theorem dX4_passStretch_148 : decode cX4_passStretch 148 = .ok (.aload_n 2, 1) := by decide +kernel
theorem dX4_passStretch_149 : decode cX4_passStretch 149 = .ok (.iload 4, 2) := by decide +kernel
theorem dX4_passStretch_151 : decode cX4_passStretch 151 = .ok (.aaload, 1) := by decide +kernel
theorem dX4_passStretch_152 : decode cX4_passStretch 152 = .ok (.astore 5, 2) := by decide +kernel
theorem dX4_passStretch_154 : decode cX4_passStretch 154 = .ok (.aload 5, 2) := by decide +kernel
theorem dX4_passStretch_156 : decode cX4_passStretch 156 = .ok (.invokevirtual 251, 3) := by decide +kernel
theorem dX4_passStretch_159 : decode cX4_passStretch 159 = .ok (.iinc 4 1, 3) := by decide +kernel
theorem dX4_passStretch_162 : decode cX4_passStretch 162 = .ok (.goto (-20), 3) := by decide +kernel
theorem dX4_passStretch_165 : decode cX4_passStretch 165 = .ok (.return_, 1) := by decide +kernel
theorem dX5_init_0 : decode cX5_init 0 = .ok (.aload_n 0, 1) := by decide +kernel
theorem dX5_init_1 : decode cX5_init 1 = .ok (.invokespecial 1, 3) := by decide +kernel
theorem dX5_init_4 : decode cX5_init 4 = .ok (.aload_n 0, 1) := by decide +kernel
theorem dX5_init_5 : decode cX5_init 5 = .ok (.bipush 12, 2) := by decide +kernel
theorem dX5_init_7 : decode cX5_init 7 = .ok (.newarray .int, 2) := by decide +kernel
theorem dX5_init_9 : decode cX5_init 9 = .ok (.putfield 7, 3) := by decide +kernel
theorem dX5_init_12 : decode cX5_init 12 = .ok (.aload_n 0, 1) := by decide +kernel
theorem dX5_init_13 : decode cX5_init 13 = .ok (.bipush 12, 2) := by decide +kernel
theorem dX5_init_15 : decode cX5_init 15 = .ok (.newarray .int, 2) := by decide +kernel
theorem dX5_init_17 : decode cX5_init 17 = .ok (.putfield 13, 3) := by decide +kernel
theorem dX5_init_20 : decode cX5_init 20 = .ok (.aload_n 0, 1) := by decide +kernel
theorem dX5_init_21 : decode cX5_init 21 = .ok (.bipush 12, 2) := by decide +kernel
theorem dX5_init_23 : decode cX5_init 23 = .ok (.newarray .long, 2) := by decide +kernel
theorem dX5_init_25 : decode cX5_init 25 = .ok (.putfield 16, 3) := by decide +kernel
theorem dX5_init_28 : decode cX5_init 28 = .ok (.aload_n 0, 1) := by decide +kernel
theorem dX5_init_29 : decode cX5_init 29 = .ok (.bipush 24, 2) := by decide +kernel
theorem dX5_init_31 : decode cX5_init 31 = .ok (.newarray .int, 2) := by decide +kernel
theorem dX5_init_33 : decode cX5_init 33 = .ok (.putfield 20, 3) := by decide +kernel
theorem dX5_init_36 : decode cX5_init 36 = .ok (.aload_n 0, 1) := by decide +kernel
theorem dX5_init_37 : decode cX5_init 37 = .ok (.bipush 24, 2) := by decide +kernel
theorem dX5_init_39 : decode cX5_init 39 = .ok (.newarray .int, 2) := by decide +kernel
theorem dX5_init_41 : decode cX5_init 41 = .ok (.putfield 23, 3) := by decide +kernel
theorem dX5_init_44 : decode cX5_init 44 = .ok (.aload_n 0, 1) := by decide +kernel
theorem dX5_init_45 : decode cX5_init 45 = .ok (.bipush 24, 2) := by decide +kernel
theorem dX5_init_47 : decode cX5_init 47 = .ok (.newarray .int, 2) := by decide +kernel
theorem dX5_init_49 : decode cX5_init 49 = .ok (.putfield 26, 3) := by decide +kernel
theorem dX5_init_52 : decode cX5_init 52 = .ok (.aload_n 0, 1) := by decide +kernel
theorem dX5_init_53 : decode cX5_init 53 = .ok (.bipush 96, 2) := by decide +kernel
theorem dX5_init_55 : decode cX5_init 55 = .ok (.newarray .int, 2) := by decide +kernel
theorem dX5_init_57 : decode cX5_init 57 = .ok (.putfield 29, 3) := by decide +kernel
theorem dX5_init_60 : decode cX5_init 60 = .ok (.aload_n 0, 1) := by decide +kernel
theorem dX5_init_61 : decode cX5_init 61 = .ok (.bipush 8, 2) := by decide +kernel
theorem dX5_init_63 : decode cX5_init 63 = .ok (.newarray .int, 2) := by decide +kernel
theorem dX5_init_65 : decode cX5_init 65 = .ok (.putfield 32, 3) := by decide +kernel
theorem dX5_init_68 : decode cX5_init 68 = .ok (.aload_n 0, 1) := by decide +kernel
theorem dX5_init_69 : decode cX5_init 69 = .ok (.bipush 8, 2) := by decide +kernel
theorem dX5_init_71 : decode cX5_init 71 = .ok (.newarray .int, 2) := by decide +kernel
theorem dX5_init_73 : decode cX5_init 73 = .ok (.putfield 35, 3) := by decide +kernel
theorem dX5_init_76 : decode cX5_init 76 = .ok (.aload_n 0, 1) := by decide +kernel
theorem dX5_init_77 : decode cX5_init 77 = .ok (.bipush 8, 2) := by decide +kernel
theorem dX5_init_79 : decode cX5_init 79 = .ok (.newarray .int, 2) := by decide +kernel
theorem dX5_init_81 : decode cX5_init 81 = .ok (.putfield 38, 3) := by decide +kernel
theorem dX5_init_84 : decode cX5_init 84 = .ok (.aload_n 0, 1) := by decide +kernel
theorem dX5_init_85 : decode cX5_init 85 = .ok (.bipush 8, 2) := by decide +kernel
theorem dX5_init_87 : decode cX5_init 87 = .ok (.newarray .int, 2) := by decide +kernel
theorem dX5_init_89 : decode cX5_init 89 = .ok (.putfield 41, 3) := by decide +kernel
theorem dX5_init_92 : decode cX5_init 92 = .ok (.aload_n 0, 1) := by decide +kernel
theorem dX5_init_93 : decode cX5_init 93 = .ok (.bipush 8, 2) := by decide +kernel
theorem dX5_init_95 : decode cX5_init 95 = .ok (.newarray .int, 2) := by decide +kernel
theorem dX5_init_97 : decode cX5_init 97 = .ok (.putfield 44, 3) := by decide +kernel
theorem dX5_init_100 : decode cX5_init 100 = .ok (.aload_n 0, 1) := by decide +kernel
theorem dX5_init_101 : decode cX5_init 101 = .ok (.bipush 8, 2) := by decide +kernel
theorem dX5_init_103 : decode cX5_init 103 = .ok (.newarray .int, 2) := by decide +kernel
theorem dX5_init_105 : decode cX5_init 105 = .ok (.putfield 47, 3) := by decide +kernel
theorem dX5_init_108 : decode cX5_init 108 = .ok (.aload_n 0, 1) := by decide +kernel
theorem dX5_init_109 : decode cX5_init 109 = .ok (.bipush 8, 2) := by decide +kernel
theorem dX5_init_111 : decode cX5_init 111 = .ok (.newarray .int, 2) := by decide +kernel
theorem dX5_init_113 : decode cX5_init 113 = .ok (.putfield 50, 3) := by decide +kernel
theorem dX5_init_116 : decode cX5_init 116 = .ok (.aload_n 0, 1) := by decide +kernel
theorem dX5_init_117 : decode cX5_init 117 = .ok (.bipush 8, 2) := by decide +kernel
theorem dX5_init_119 : decode cX5_init 119 = .ok (.newarray .int, 2) := by decide +kernel
theorem dX5_init_121 : decode cX5_init 121 = .ok (.putfield 53, 3) := by decide +kernel
theorem dX5_init_124 : decode cX5_init 124 = .ok (.aload_n 0, 1) := by decide +kernel
theorem dX5_init_125 : decode cX5_init 125 = .ok (.bipush 8, 2) := by decide +kernel
theorem dX5_init_127 : decode cX5_init 127 = .ok (.newarray .int, 2) := by decide +kernel
theorem dX5_init_129 : decode cX5_init 129 = .ok (.putfield 56, 3) := by decide +kernel
theorem dX5_init_132 : decode cX5_init 132 = .ok (.aload_n 0, 1) := by decide +kernel
theorem dX5_init_133 : decode cX5_init 133 = .ok (.iconst 2, 1) := by decide +kernel
theorem dX5_init_134 : decode cX5_init 134 = .ok (.newarray .int, 2) := by decide +kernel
theorem dX5_init_136 : decode cX5_init 136 = .ok (.putfield 59, 3) := by decide +kernel
theorem dX5_init_139 : decode cX5_init 139 = .ok (.aload_n 0, 1) := by decide +kernel
theorem dX5_init_140 : decode cX5_init 140 = .ok (.iconst 2, 1) := by decide +kernel
theorem dX5_init_141 : decode cX5_init 141 = .ok (.newarray .int, 2) := by decide +kernel
theorem dX5_init_143 : decode cX5_init 143 = .ok (.putfield 62, 3) := by decide +kernel
theorem dX5_init_146 : decode cX5_init 146 = .ok (.aload_n 0, 1) := by decide +kernel
theorem dX5_init_147 : decode cX5_init 147 = .ok (.bipush 100, 2) := by decide +kernel
theorem dX5_init_149 : decode cX5_init 149 = .ok (.newarray .int, 2) := by decide +kernel
theorem dX5_init_151 : decode cX5_init 151 = .ok (.putfield 65, 3) := by decide +kernel
theorem dX5_init_154 : decode cX5_init 154 = .ok (.iconst 0, 1) := by decide +kernel
theorem dX5_init_155 : decode cX5_init 155 = .ok (.istore_n 1, 1) := by decide +kernel
theorem dX5_init_156 : decode cX5_init 156 = .ok (.iload_n 1, 1) := by decide +kernel
theorem dX5_init_157 : decode cX5_init 157 = .ok (.bipush 24, 2) := by decide +kernel
theorem dX5_init_159 : decode cX5_init 159 = .ok (.if_icmp .ge 16, 3) := by decide +kernel
theorem dX5_init_162 : decode cX5_init 162 = .ok (.aload_n 0, 1) := by decide +kernel
theorem dX5_init_163 : decode cX5_init 163 = .ok (.getfield 23, 3) := by decide +kernel
theorem dX5_init_166 : decode cX5_init 166 = .ok (.iload_n 1, 1) := by decide +kernel
theorem dX5_init_167 : decode cX5_init 167 = .ok (.iconst 1, 1) := by decide +kernel
theorem dX5_init_168 : decode cX5_init 168 = .ok (.iastore, 1) := by decide +kernel
theorem dX5_init_169 : decode cX5_init 169 = .ok (.iinc 1 1, 3) := by decide +kernel
theorem dX5_init_172 : decode cX5_init 172 = .ok (.goto (-16), 3) := by decide +kernel
theorem dX5_init_175 : decode cX5_init 175 = .ok (.return_, 1) := by decide +kernel
theorem dX5_thrown_0 : decode cX5_thrown 0 = .ok (.aload_n 0, 1) := by decide +kernel
theorem dX5_thrown_1 : decode cX5_thrown 1 = .ok (.getfield 68, 3) := by decide +kernel
theorem dX5_thrown_4 : decode cX5_thrown 4 = .ok (.ireturn, 1) := by decide +kernel
theorem dX5_fails_0 : decode cX5_fails 0 = .ok (.aload_n 0, 1) := by decide +kernel
theorem dX5_fails_1 : decode cX5_fails 1 = .ok (.iload_n 1, 1) := by decide +kernel
theorem dX5_fails_2 : decode cX5_fails 2 = .ok (.putfield 68, 3) := by decide +kernel
theorem dX5_fails_5 : decode cX5_fails 5 = .ok (.iconst 0, 1) := by decide +kernel
theorem dX5_fails_6 : decode cX5_fails 6 = .ok (.ireturn, 1) := by decide +kernel
theorem dX5_in_0 : decode cX5_in 0 = .ok (.iload_n 0, 1) := by decide +kernel
theorem dX5_in_1 : decode cX5_in 1 = .ok (.iload_n 1, 1) := by decide +kernel
theorem dX5_in_2 : decode cX5_in 2 = .ok (.if_icmp .lt 12, 3) := by decide +kernel
theorem dX5_in_5 : decode cX5_in 5 = .ok (.iload_n 0, 1) := by decide +kernel
theorem dX5_in_6 : decode cX5_in 6 = .ok (.iload_n 2, 1) := by decide +kernel
theorem dX5_in_7 : decode cX5_in 7 = .ok (.if_icmp .gt 7, 3) := by decide +kernel
theorem dX5_in_10 : decode cX5_in 10 = .ok (.iconst 1, 1) := by decide +kernel
theorem dX5_in_11 : decode cX5_in 11 = .ok (.goto 4, 3) := by decide +kernel
theorem dX5_in_14 : decode cX5_in 14 = .ok (.iconst 0, 1) := by decide +kernel
theorem dX5_in_15 : decode cX5_in 15 = .ok (.ireturn, 1) := by decide +kernel
set_option maxRecDepth 20000 in
theorem ggX5_isHouse_X5_in : GoodIn wsX5_isHouse wsX5_in := goodIn_r _ [4] (by decide +kernel) (by decide +kernel)
set_option maxRecDepth 20000 in
theorem gX5_isHouse_X5_in : GoodIn wsX5_isHouse (va_wsS RX5 72 yX5_in wsX5_in) := goodIn_app (goodIn_of _ (by decide +kernel)) ggX5_isHouse_X5_in
theorem dX5_isHouse_0 : decode cX5_isHouse 0 = .ok (.iload_n 0, 1) := by decide +kernel
theorem dX5_isHouse_1 : decode cX5_isHouse 1 = .ok (.iconst 0, 1) := by decide +kernel
theorem dX5_isHouse_2 : decode cX5_isHouse 2 = .ok (.bipush 7, 2) := by decide +kernel
theorem dX5_isHouse_4 : decode cX5_isHouse 4 = .ok (.invokestatic 72, 3) := by decide +kernel
theorem dX5_isHouse_7 : decode cX5_isHouse 7 = .ok (.ireturn, 1) := by decide +kernel
set_option maxRecDepth 20000 in
theorem ggX5_isMelody_X5_in : GoodIn wsX5_isMelody wsX5_in := goodIn_r _ [6] (by decide +kernel) (by decide +kernel)
set_option maxRecDepth 20000 in
theorem gX5_isMelody_X5_in : GoodIn wsX5_isMelody (va_wsS RX5 72 yX5_in wsX5_in) := goodIn_app (goodIn_of _ (by decide +kernel)) ggX5_isMelody_X5_in
theorem dX5_isMelody_0 : decode cX5_isMelody 0 = .ok (.aload_n 0, 1) := by decide +kernel
theorem dX5_isMelody_1 : decode cX5_isMelody 1 = .ok (.iload_n 1, 1) := by decide +kernel
theorem dX5_isMelody_2 : decode cX5_isMelody 2 = .ok (.iconst 0, 1) := by decide +kernel
theorem dX5_isMelody_3 : decode cX5_isMelody 3 = .ok (.aload_n 0, 1) := by decide +kernel
theorem dX5_isMelody_4 : decode cX5_isMelody 4 = .ok (.getfield 76, 3) := by decide +kernel
theorem dX5_isMelody_7 : decode cX5_isMelody 7 = .ok (.iconst 1, 1) := by decide +kernel
theorem dX5_isMelody_8 : decode cX5_isMelody 8 = .ok (.isub, 1) := by decide +kernel
theorem dX5_isMelody_9 : decode cX5_isMelody 9 = .ok (.invokestatic 72, 3) := by decide +kernel
theorem dX5_isMelody_12 : decode cX5_isMelody 12 = .ok (.ifCond .eq 7, 3) := by decide +kernel
theorem dX5_isMelody_15 : decode cX5_isMelody 15 = .ok (.iconst 0, 1) := by decide +kernel
theorem dX5_isMelody_16 : decode cX5_isMelody 16 = .ok (.goto 4, 3) := by decide +kernel
theorem dX5_isMelody_19 : decode cX5_isMelody 19 = .ok (.iconst 1, 1) := by decide +kernel
theorem dX5_isMelody_20 : decode cX5_isMelody 20 = .ok (.putfield 68, 3) := by decide +kernel
theorem dX5_isMelody_23 : decode cX5_isMelody 23 = .ok (.aload_n 0, 1) := by decide +kernel
theorem dX5_isMelody_24 : decode cX5_isMelody 24 = .ok (.getfield 68, 3) := by decide +kernel
theorem dX5_isMelody_27 : decode cX5_isMelody 27 = .ok (.ifCond .ne 7, 3) := by decide +kernel
theorem dX5_isMelody_30 : decode cX5_isMelody 30 = .ok (.iconst 1, 1) := by decide +kernel
theorem dX5_isMelody_31 : decode cX5_isMelody 31 = .ok (.goto 4, 3) := by decide +kernel
theorem dX5_isMelody_34 : decode cX5_isMelody 34 = .ok (.iconst 0, 1) := by decide +kernel
theorem dX5_isMelody_35 : decode cX5_isMelody 35 = .ok (.ireturn, 1) := by decide +kernel
set_option maxRecDepth 20000 in
theorem ggX5_addMelody_X5_isHouse : GoodIn wsX5_addMelody wsX5_isHouse := goodIn_r _ [9, 10, 11, 8, 12] (by decide +kernel) (by decide +kernel)
set_option maxRecDepth 20000 in
theorem gX5_addMelody_X5_isHouse : GoodIn wsX5_addMelody (va_wsS RX5 79 yX5_isHouse wsX5_isHouse) := goodIn_app (goodIn_of _ (by decide +kernel)) ggX5_addMelody_X5_isHouse
set_option maxRecDepth 20000 in
theorem ggX5_addMelody_X5_in : GoodIn wsX5_addMelody wsX5_in := goodIn_r _ [12] (by decide +kernel) (by decide +kernel)
set_option maxRecDepth 20000 in
theorem gX5_addMelody_X5_in : GoodIn wsX5_addMelody (va_wsS RX5 72 yX5_in wsX5_in) := goodIn_app (goodIn_of _ (by decide +kernel)) ggX5_addMelody_X5_in
set_option maxRecDepth 20000 in
theorem ggX5_addMelody_X5_fails : GoodIn wsX5_addMelody wsX5_fails := goodIn_r _ [16, 1, 17, 18, 19, 20, 21, 22, 23, 24, 25, 26, 27, 28, 29, 30, 31, 32, 33, 34, 35, 36, 37, 38, 39] (by decide +kernel) (by decide +kernel)
set_option maxRecDepth 20000 in
theorem gX5_addMelody_X5_fails : GoodIn wsX5_addMelody (wsV RX5 83 RX5 yX5_fails wsX5_fails) := goodIn_app (goodIn_of _ (by decide +kernel)) ggX5_addMelody_X5_fails
theorem dX5_addMelody_0 : decode cX5_addMelody 0 = .ok (.aload_n 0, 1) := by decide +kernel
theorem dX5_addMelody_1 : decode cX5_addMelody 1 = .ok (.iload_n 1, 1) := by decide +kernel
theorem dX5_addMelody_2 : decode cX5_addMelody 2 = .ok (.invokestatic 79, 3) := by decide +kernel
theorem dX5_addMelody_5 : decode cX5_addMelody 5 = .ok (.ifCond .eq 7, 3) := by decide +kernel
theorem dX5_addMelody_8 : decode cX5_addMelody 8 = .ok (.iconst 0, 1) := by decide +kernel
theorem dX5_addMelody_9 : decode cX5_addMelody 9 = .ok (.goto 4, 3) := by decide +kernel
theorem dX5_addMelody_12 : decode cX5_addMelody 12 = .ok (.iconst 1, 1) := by decide +kernel
theorem dX5_addMelody_13 : decode cX5_addMelody 13 = .ok (.putfield 68, 3) := by decide +kernel
theorem dX5_addMelody_16 : decode cX5_addMelody 16 = .ok (.aload_n 0, 1) := by decide +kernel
theorem dX5_addMelody_17 : decode cX5_addMelody 17 = .ok (.getfield 68, 3) := by decide +kernel
theorem dX5_addMelody_20 : decode cX5_addMelody 20 = .ok (.ifCond .le 5, 3) := by decide +kernel
theorem dX5_addMelody_23 : decode cX5_addMelody 23 = .ok (.iconst 0, 1) := by decide +kernel
theorem dX5_addMelody_24 : decode cX5_addMelody 24 = .ok (.ireturn, 1) := by decide +kernel
theorem dX5_addMelody_25 : decode cX5_addMelody 25 = .ok (.iload_n 2, 1) := by decide +kernel
theorem dX5_addMelody_26 : decode cX5_addMelody 26 = .ok (.iconst 1, 1) := by decide +kernel
theorem dX5_addMelody_27 : decode cX5_addMelody 27 = .ok (.bipush 12, 2) := by decide +kernel
theorem dX5_addMelody_29 : decode cX5_addMelody 29 = .ok (.invokestatic 72, 3) := by decide +kernel
theorem dX5_addMelody_32 : decode cX5_addMelody 32 = .ok (.ifCond .eq 19, 3) := by decide +kernel
theorem dX5_addMelody_35 : decode cX5_addMelody 35 = .ok (.lload_n 3, 1) := by decide +kernel
theorem dX5_addMelody_36 : decode cX5_addMelody 36 = .ok (.lconst 0, 1) := by decide +kernel
theorem dX5_addMelody_37 : decode cX5_addMelody 37 = .ok (.lcmp, 1) := by decide +kernel
theorem dX5_addMelody_38 : decode cX5_addMelody 38 = .ok (.ifCond .lt 13, 3) := by decide +kernel
theorem dX5_addMelody_41 : decode cX5_addMelody 41 = .ok (.lload_n 3, 1) := by decide +kernel
theorem dX5_addMelody_42 : decode cX5_addMelody 42 = .ok (.iconst 4, 1) := by decide +kernel
theorem dX5_addMelody_43 : decode cX5_addMelody 43 = .ok (.iload_n 2, 1) := by decide +kernel
theorem dX5_addMelody_44 : decode cX5_addMelody 44 = .ok (.imul, 1) := by decide +kernel
theorem dX5_addMelody_45 : decode cX5_addMelody 45 = .ok (.lshr, 1) := by decide +kernel
theorem dX5_addMelody_46 : decode cX5_addMelody 46 = .ok (.lconst 0, 1) := by decide +kernel
theorem dX5_addMelody_47 : decode cX5_addMelody 47 = .ok (.lcmp, 1) := by decide +kernel
theorem dX5_addMelody_48 : decode cX5_addMelody 48 = .ok (.ifCond .eq 9, 3) := by decide +kernel
theorem dX5_addMelody_51 : decode cX5_addMelody 51 = .ok (.aload_n 0, 1) := by decide +kernel
theorem dX5_addMelody_52 : decode cX5_addMelody 52 = .ok (.iconst 2, 1) := by decide +kernel
theorem dX5_addMelody_53 : decode cX5_addMelody 53 = .ok (.invokevirtual 83, 3) := by decide +kernel
theorem dX5_addMelody_56 : decode cX5_addMelody 56 = .ok (.ireturn, 1) := by decide +kernel
theorem dX5_addMelody_57 : decode cX5_addMelody 57 = .ok (.aload_n 0, 1) := by decide +kernel
theorem dX5_addMelody_58 : decode cX5_addMelody 58 = .ok (.getfield 76, 3) := by decide +kernel
theorem dX5_addMelody_61 : decode cX5_addMelody 61 = .ok (.bipush 12, 2) := by decide +kernel
theorem dX5_addMelody_63 : decode cX5_addMelody 63 = .ok (.if_icmp .ne 9, 3) := by decide +kernel
theorem dX5_addMelody_66 : decode cX5_addMelody 66 = .ok (.aload_n 0, 1) := by decide +kernel
theorem dX5_addMelody_67 : decode cX5_addMelody 67 = .ok (.iconst 3, 1) := by decide +kernel
theorem dX5_addMelody_68 : decode cX5_addMelody 68 = .ok (.invokevirtual 83, 3) := by decide +kernel
theorem dX5_addMelody_71 : decode cX5_addMelody 71 = .ok (.ireturn, 1) := by decide +kernel
theorem dX5_addMelody_72 : decode cX5_addMelody 72 = .ok (.aload_n 0, 1) := by decide +kernel
theorem dX5_addMelody_73 : decode cX5_addMelody 73 = .ok (.getfield 7, 3) := by decide +kernel
theorem dX5_addMelody_76 : decode cX5_addMelody 76 = .ok (.aload_n 0, 1) := by decide +kernel
theorem dX5_addMelody_77 : decode cX5_addMelody 77 = .ok (.getfield 76, 3) := by decide +kernel
theorem dX5_addMelody_80 : decode cX5_addMelody 80 = .ok (.iload_n 1, 1) := by decide +kernel
theorem dX5_addMelody_81 : decode cX5_addMelody 81 = .ok (.iastore, 1) := by decide +kernel
theorem dX5_addMelody_82 : decode cX5_addMelody 82 = .ok (.aload_n 0, 1) := by decide +kernel
theorem dX5_addMelody_83 : decode cX5_addMelody 83 = .ok (.getfield 13, 3) := by decide +kernel
theorem dX5_addMelody_86 : decode cX5_addMelody 86 = .ok (.aload_n 0, 1) := by decide +kernel
theorem dX5_addMelody_87 : decode cX5_addMelody 87 = .ok (.getfield 76, 3) := by decide +kernel
theorem dX5_addMelody_90 : decode cX5_addMelody 90 = .ok (.iload_n 2, 1) := by decide +kernel
theorem dX5_addMelody_91 : decode cX5_addMelody 91 = .ok (.iastore, 1) := by decide +kernel
theorem dX5_addMelody_92 : decode cX5_addMelody 92 = .ok (.aload_n 0, 1) := by decide +kernel
theorem dX5_addMelody_93 : decode cX5_addMelody 93 = .ok (.getfield 16, 3) := by decide +kernel
theorem dX5_addMelody_96 : decode cX5_addMelody 96 = .ok (.aload_n 0, 1) := by decide +kernel
theorem dX5_addMelody_97 : decode cX5_addMelody 97 = .ok (.getfield 76, 3) := by decide +kernel
theorem dX5_addMelody_100 : decode cX5_addMelody 100 = .ok (.lload_n 3, 1) := by decide +kernel
theorem dX5_addMelody_101 : decode cX5_addMelody 101 = .ok (.lastore, 1) := by decide +kernel
theorem dX5_addMelody_102 : decode cX5_addMelody 102 = .ok (.aload_n 0, 1) := by decide +kernel
theorem dX5_addMelody_103 : decode cX5_addMelody 103 = .ok (.dup, 1) := by decide +kernel
theorem dX5_addMelody_104 : decode cX5_addMelody 104 = .ok (.getfield 76, 3) := by decide +kernel
theorem dX5_addMelody_107 : decode cX5_addMelody 107 = .ok (.iconst 1, 1) := by decide +kernel
theorem dX5_addMelody_108 : decode cX5_addMelody 108 = .ok (.iadd, 1) := by decide +kernel
theorem dX5_addMelody_109 : decode cX5_addMelody 109 = .ok (.putfield 76, 3) := by decide +kernel
theorem dX5_addMelody_112 : decode cX5_addMelody 112 = .ok (.aload_n 0, 1) := by decide +kernel
theorem dX5_addMelody_113 : decode cX5_addMelody 113 = .ok (.getfield 76, 3) := by decide +kernel
theorem dX5_addMelody_116 : decode cX5_addMelody 116 = .ok (.iconst 1, 1) := by decide +kernel
theorem dX5_addMelody_117 : decode cX5_addMelody 117 = .ok (.isub, 1) := by decide +kernel
theorem dX5_addMelody_118 : decode cX5_addMelody 118 = .ok (.ireturn, 1) := by decide +kernel
theorem dX5_tone_0 : decode cX5_tone 0 = .ok (.aload_n 0, 1) := by decide +kernel
theorem dX5_tone_1 : decode cX5_tone 1 = .ok (.getfield 16, 3) := by decide +kernel
theorem dX5_tone_4 : decode cX5_tone 4 = .ok (.iload_n 1, 1) := by decide +kernel
theorem dX5_tone_5 : decode cX5_tone 5 = .ok (.laload, 1) := by decide +kernel
theorem dX5_tone_6 : decode cX5_tone 6 = .ok (.iconst 4, 1) := by decide +kernel
theorem dX5_tone_7 : decode cX5_tone 7 = .ok (.iload_n 2, 1) := by decide +kernel
theorem dX5_tone_8 : decode cX5_tone 8 = .ok (.imul, 1) := by decide +kernel
theorem dX5_tone_9 : decode cX5_tone 9 = .ok (.lshr, 1) := by decide +kernel
theorem dX5_tone_10 : decode cX5_tone 10 = .ok (.ldc2_w 87, 3) := by decide +kernel
theorem dX5_tone_13 : decode cX5_tone 13 = .ok (.land, 1) := by decide +kernel
theorem dX5_tone_14 : decode cX5_tone 14 = .ok (.l2i, 1) := by decide +kernel
theorem dX5_tone_15 : decode cX5_tone 15 = .ok (.ireturn, 1) := by decide +kernel
set_option maxRecDepth 20000 in
theorem ggX5_toneAt_X5_isMelody : GoodIn wsX5_toneAt wsX5_isMelody := goodIn_r _ [6, 7, 8, 9, 10, 5, 11, 22, 23, 24, 25, 26, 27, 28, 29, 30, 31, 32, 33, 34, 35, 36, 37, 38, 39, 40, 41, 42, 43, 44] (by decide +kernel) (by decide +kernel)
set_option maxRecDepth 20000 in
theorem gX5_toneAt_X5_isMelody : GoodIn wsX5_toneAt (wsV RX5 89 RX5 yX5_isMelody wsX5_isMelody) := goodIn_app (goodIn_of _ (by decide +kernel)) ggX5_toneAt_X5_isMelody
set_option maxRecDepth 20000 in
theorem ggX5_toneAt_X5_in : GoodIn wsX5_toneAt wsX5_in := goodIn_r _ [11] (by decide +kernel) (by decide +kernel)
set_option maxRecDepth 20000 in
theorem gX5_toneAt_X5_in : GoodIn wsX5_toneAt (va_wsS RX5 72 yX5_in wsX5_in) := goodIn_app (goodIn_of _ (by decide +kernel)) ggX5_toneAt_X5_in
set_option maxRecDepth 20000 in
theorem ggX5_toneAt_X5_tone : GoodIn wsX5_toneAt wsX5_tone := goodIn_r _ [15, 16, 17, 22, 23, 24, 25, 26, 27, 28, 29, 30, 31, 32, 33, 34, 35, 36, 37, 38, 39, 40, 41, 42, 43, 44] (by decide +kernel) (by decide +kernel)
set_option maxRecDepth 20000 in
theorem gX5_toneAt_X5_tone : GoodIn wsX5_toneAt (wsV RX5 92 RX5 yX5_tone wsX5_tone) := goodIn_app (goodIn_of _ (by decide +kernel)) ggX5_toneAt_X5_tone
set_option maxRecDepth 20000 in
theorem ggX5_toneAt_X5_fails : GoodIn wsX5_toneAt wsX5_fails := goodIn_r _ [21, 8, 22, 23, 24, 25, 26, 27, 28, 29, 30, 31, 32, 33, 34, 35, 36, 37, 38, 39, 40, 41, 42, 43, 44] (by decide +kernel) (by decide +kernel)
set_option maxRecDepth 20000 in
theorem gX5_toneAt_X5_fails : GoodIn wsX5_toneAt (wsV RX5 83 RX5 yX5_fails wsX5_fails) := goodIn_app (goodIn_of _ (by decide +kernel)) ggX5_toneAt_X5_fails
theorem dX5_toneAt_0 : decode cX5_toneAt 0 = .ok (.aload_n 0, 1) := by decide +kernel
theorem dX5_toneAt_1 : decode cX5_toneAt 1 = .ok (.iload_n 1, 1) := by decide +kernel
theorem dX5_toneAt_2 : decode cX5_toneAt 2 = .ok (.invokevirtual 89, 3) := by decide +kernel
theorem dX5_toneAt_5 : decode cX5_toneAt 5 = .ok (.ifCond .ne 5, 3) := by decide +kernel
theorem dX5_toneAt_8 : decode cX5_toneAt 8 = .ok (.iconst 0, 1) := by decide +kernel
theorem dX5_toneAt_9 : decode cX5_toneAt 9 = .ok (.ireturn, 1) := by decide +kernel
theorem dX5_toneAt_10 : decode cX5_toneAt 10 = .ok (.iload_n 2, 1) := by decide +kernel
theorem dX5_toneAt_11 : decode cX5_toneAt 11 = .ok (.iconst 0, 1) := by decide +kernel
theorem dX5_toneAt_12 : decode cX5_toneAt 12 = .ok (.aload_n 0, 1) := by decide +kernel
theorem dX5_toneAt_13 : decode cX5_toneAt 13 = .ok (.getfield 13, 3) := by decide +kernel
theorem dX5_toneAt_16 : decode cX5_toneAt 16 = .ok (.iload_n 1, 1) := by decide +kernel
theorem dX5_toneAt_17 : decode cX5_toneAt 17 = .ok (.iaload, 1) := by decide +kernel
theorem dX5_toneAt_18 : decode cX5_toneAt 18 = .ok (.iconst 1, 1) := by decide +kernel
theorem dX5_toneAt_19 : decode cX5_toneAt 19 = .ok (.isub, 1) := by decide +kernel
theorem dX5_toneAt_20 : decode cX5_toneAt 20 = .ok (.invokestatic 72, 3) := by decide +kernel
theorem dX5_toneAt_23 : decode cX5_toneAt 23 = .ok (.ifCond .eq 12, 3) := by decide +kernel
theorem dX5_toneAt_26 : decode cX5_toneAt 26 = .ok (.aload_n 0, 1) := by decide +kernel
theorem dX5_toneAt_27 : decode cX5_toneAt 27 = .ok (.iload_n 1, 1) := by decide +kernel
theorem dX5_toneAt_28 : decode cX5_toneAt 28 = .ok (.iload_n 2, 1) := by decide +kernel
theorem dX5_toneAt_29 : decode cX5_toneAt 29 = .ok (.invokevirtual 92, 3) := by decide +kernel
theorem dX5_toneAt_32 : decode cX5_toneAt 32 = .ok (.goto 8, 3) := by decide +kernel
theorem dX5_toneAt_35 : decode cX5_toneAt 35 = .ok (.aload_n 0, 1) := by decide +kernel
theorem dX5_toneAt_36 : decode cX5_toneAt 36 = .ok (.iconst 1, 1) := by decide +kernel
theorem dX5_toneAt_37 : decode cX5_toneAt 37 = .ok (.invokevirtual 83, 3) := by decide +kernel
theorem dX5_toneAt_40 : decode cX5_toneAt 40 = .ok (.ireturn, 1) := by decide +kernel
set_option maxRecDepth 20000 in
theorem ggX5_shifted_X5_isMelody : GoodIn wsX5_shifted wsX5_isMelody := goodIn_r _ [6, 7, 8, 9, 10, 5, 11, 22, 23, 24, 25, 26, 27, 28, 29, 30, 31, 32, 33, 34, 35, 36, 37, 38, 39, 40, 41, 42, 43, 44] (by decide +kernel) (by decide +kernel)
set_option maxRecDepth 20000 in
theorem gX5_shifted_X5_isMelody : GoodIn wsX5_shifted (wsV RX5 89 RX5 yX5_isMelody wsX5_isMelody) := goodIn_app (goodIn_of _ (by decide +kernel)) ggX5_shifted_X5_isMelody
set_option maxRecDepth 20000 in
theorem ggX5_shifted_X5_in : GoodIn wsX5_shifted wsX5_in := goodIn_r _ [11] (by decide +kernel) (by decide +kernel)
set_option maxRecDepth 20000 in
theorem gX5_shifted_X5_in : GoodIn wsX5_shifted (va_wsS RX5 72 yX5_in wsX5_in) := goodIn_app (goodIn_of _ (by decide +kernel)) ggX5_shifted_X5_in
set_option maxRecDepth 20000 in
theorem ggX5_shifted_X5_fails : GoodIn wsX5_shifted wsX5_fails := goodIn_r _ [15, 8, 22, 23, 24, 25, 26, 27, 28, 29, 30, 31, 32, 33, 34, 35, 36, 37, 38, 39, 40, 41, 42, 43, 44] (by decide +kernel) (by decide +kernel)
set_option maxRecDepth 20000 in
theorem gX5_shifted_X5_fails : GoodIn wsX5_shifted (wsV RX5 83 RX5 yX5_fails wsX5_fails) := goodIn_app (goodIn_of _ (by decide +kernel)) ggX5_shifted_X5_fails
set_option maxRecDepth 20000 in
theorem ggX5_shifted_X5_tone : GoodIn wsX5_shifted wsX5_tone := goodIn_r _ [19, 20, 21, 22, 23, 24, 25, 26, 27, 28, 29, 30, 31, 32, 33, 34, 35, 36, 37, 38, 39, 40, 41, 42, 43, 44] (by decide +kernel) (by decide +kernel)
set_option maxRecDepth 20000 in
theorem gX5_shifted_X5_tone : GoodIn wsX5_shifted (wsV RX5 92 RX5 yX5_tone wsX5_tone) := goodIn_app (goodIn_of _ (by decide +kernel)) ggX5_shifted_X5_tone
theorem dX5_shifted_0 : decode cX5_shifted 0 = .ok (.aload_n 0, 1) := by decide +kernel
theorem dX5_shifted_1 : decode cX5_shifted 1 = .ok (.iload_n 1, 1) := by decide +kernel
theorem dX5_shifted_2 : decode cX5_shifted 2 = .ok (.invokevirtual 89, 3) := by decide +kernel
theorem dX5_shifted_5 : decode cX5_shifted 5 = .ok (.ifCond .ne 5, 3) := by decide +kernel
theorem dX5_shifted_8 : decode cX5_shifted 8 = .ok (.lconst 0, 1) := by decide +kernel
theorem dX5_shifted_9 : decode cX5_shifted 9 = .ok (.lreturn, 1) := by decide +kernel
theorem dX5_shifted_10 : decode cX5_shifted 10 = .ok (.iload_n 2, 1) := by decide +kernel
theorem dX5_shifted_11 : decode cX5_shifted 11 = .ok (.iconst 0, 1) := by decide +kernel
theorem dX5_shifted_12 : decode cX5_shifted 12 = .ok (.bipush 15, 2) := by decide +kernel
theorem dX5_shifted_14 : decode cX5_shifted 14 = .ok (.invokestatic 72, 3) := by decide +kernel
theorem dX5_shifted_17 : decode cX5_shifted 17 = .ok (.ifCond .ne 10, 3) := by decide +kernel
theorem dX5_shifted_20 : decode cX5_shifted 20 = .ok (.aload_n 0, 1) := by decide +kernel
theorem dX5_shifted_21 : decode cX5_shifted 21 = .ok (.iconst 2, 1) := by decide +kernel
theorem dX5_shifted_22 : decode cX5_shifted 22 = .ok (.invokevirtual 83, 3) := by decide +kernel
theorem dX5_shifted_25 : decode cX5_shifted 25 = .ok (.i2l, 1) := by decide +kernel
theorem dX5_shifted_26 : decode cX5_shifted 26 = .ok (.lreturn, 1) := by decide +kernel
theorem dX5_shifted_27 : decode cX5_shifted 27 = .ok (.lconst 0, 1) := by decide +kernel
theorem dX5_shifted_28 : decode cX5_shifted 28 = .ok (.lstore_n 3, 1) := by decide +kernel
theorem dX5_shifted_29 : decode cX5_shifted 29 = .ok (.aload_n 0, 1) := by decide +kernel
theorem dX5_shifted_30 : decode cX5_shifted 30 = .ok (.getfield 13, 3) := by decide +kernel
theorem dX5_shifted_33 : decode cX5_shifted 33 = .ok (.iload_n 1, 1) := by decide +kernel
theorem dX5_shifted_34 : decode cX5_shifted 34 = .ok (.iaload, 1) := by decide +kernel
theorem dX5_shifted_35 : decode cX5_shifted 35 = .ok (.iconst 1, 1) := by decide +kernel
theorem dX5_shifted_36 : decode cX5_shifted 36 = .ok (.isub, 1) := by decide +kernel
theorem dX5_shifted_37 : decode cX5_shifted 37 = .ok (.istore 5, 2) := by decide +kernel
theorem dX5_shifted_39 : decode cX5_shifted 39 = .ok (.iload 5, 2) := by decide +kernel
theorem dX5_shifted_41 : decode cX5_shifted 41 = .ok (.ifCond .lt 27, 3) := by decide +kernel
theorem dX5_shifted_44 : decode cX5_shifted 44 = .ok (.lload_n 3, 1) := by decide +kernel
theorem dX5_shifted_45 : decode cX5_shifted 45 = .ok (.iconst 4, 1) := by decide +kernel
theorem dX5_shifted_46 : decode cX5_shifted 46 = .ok (.lshl, 1) := by decide +kernel
theorem dX5_shifted_47 : decode cX5_shifted 47 = .ok (.aload_n 0, 1) := by decide +kernel
theorem dX5_shifted_48 : decode cX5_shifted 48 = .ok (.iload_n 1, 1) := by decide +kernel
theorem dX5_shifted_49 : decode cX5_shifted 49 = .ok (.iload 5, 2) := by decide +kernel
theorem dX5_shifted_51 : decode cX5_shifted 51 = .ok (.invokevirtual 92, 3) := by decide +kernel
theorem dX5_shifted_54 : decode cX5_shifted 54 = .ok (.iload_n 2, 1) := by decide +kernel
theorem dX5_shifted_55 : decode cX5_shifted 55 = .ok (.iadd, 1) := by decide +kernel
theorem dX5_shifted_56 : decode cX5_shifted 56 = .ok (.bipush 16, 2) := by decide +kernel
theorem dX5_shifted_58 : decode cX5_shifted 58 = .ok (.irem, 1) := by decide +kernel
theorem dX5_shifted_59 : decode cX5_shifted 59 = .ok (.i2l, 1) := by decide +kernel
theorem dX5_shifted_60 : decode cX5_shifted 60 = .ok (.lor, 1) := by decide +kernel
theorem dX5_shifted_61 : decode cX5_shifted 61 = .ok (.lstore_n 3, 1) := by decide +kernel
theorem dX5_shifted_62 : decode cX5_shifted 62 = .ok (.iinc 5 (-1), 3) := by decide +kernel
theorem dX5_shifted_65 : decode cX5_shifted 65 = .ok (.goto (-26), 3) := by decide +kernel
theorem dX5_shifted_68 : decode cX5_shifted 68 = .ok (.lload_n 3, 1) := by decide +kernel
theorem dX5_shifted_69 : decode cX5_shifted 69 = .ok (.lreturn, 1) := by decide +kernel
set_option maxRecDepth 20000 in
theorem ggX5_turned_X5_isMelody : GoodIn wsX5_turned wsX5_isMelody := goodIn_r _ [6, 7, 8, 9, 10, 5, 11, 18, 19, 20, 21, 22, 23, 24, 25, 26, 27, 28, 29, 30, 31, 32, 33, 34, 35, 36, 37, 38, 39, 40] (by decide +kernel) (by decide +kernel)
set_option maxRecDepth 20000 in
theorem gX5_turned_X5_isMelody : GoodIn wsX5_turned (wsV RX5 89 RX5 yX5_isMelody wsX5_isMelody) := goodIn_app (goodIn_of _ (by decide +kernel)) ggX5_turned_X5_isMelody
set_option maxRecDepth 20000 in
theorem ggX5_turned_X5_tone : GoodIn wsX5_turned wsX5_tone := goodIn_r _ [15, 16, 17, 18, 19, 20, 21, 22, 23, 24, 25, 26, 27, 28, 29, 30, 31, 32, 33, 34, 35, 36, 37, 38, 39, 40] (by decide +kernel) (by decide +kernel)
set_option maxRecDepth 20000 in
theorem gX5_turned_X5_tone : GoodIn wsX5_turned (wsV RX5 92 RX5 yX5_tone wsX5_tone) := goodIn_app (goodIn_of _ (by decide +kernel)) ggX5_turned_X5_tone
theorem dX5_turned_0 : decode cX5_turned 0 = .ok (.aload_n 0, 1) := by decide +kernel
theorem dX5_turned_1 : decode cX5_turned 1 = .ok (.iload_n 1, 1) := by decide +kernel
theorem dX5_turned_2 : decode cX5_turned 2 = .ok (.invokevirtual 89, 3) := by decide +kernel
theorem dX5_turned_5 : decode cX5_turned 5 = .ok (.ifCond .ne 5, 3) := by decide +kernel
theorem dX5_turned_8 : decode cX5_turned 8 = .ok (.lconst 0, 1) := by decide +kernel
theorem dX5_turned_9 : decode cX5_turned 9 = .ok (.lreturn, 1) := by decide +kernel
theorem dX5_turned_10 : decode cX5_turned 10 = .ok (.lconst 0, 1) := by decide +kernel
theorem dX5_turned_11 : decode cX5_turned 11 = .ok (.lstore_n 2, 1) := by decide +kernel
theorem dX5_turned_12 : decode cX5_turned 12 = .ok (.iconst 0, 1) := by decide +kernel
theorem dX5_turned_13 : decode cX5_turned 13 = .ok (.istore 4, 2) := by decide +kernel
theorem dX5_turned_15 : decode cX5_turned 15 = .ok (.iload 4, 2) := by decide +kernel
theorem dX5_turned_17 : decode cX5_turned 17 = .ok (.aload_n 0, 1) := by decide +kernel
theorem dX5_turned_18 : decode cX5_turned 18 = .ok (.getfield 13, 3) := by decide +kernel
theorem dX5_turned_21 : decode cX5_turned 21 = .ok (.iload_n 1, 1) := by decide +kernel
theorem dX5_turned_22 : decode cX5_turned 22 = .ok (.iaload, 1) := by decide +kernel
theorem dX5_turned_23 : decode cX5_turned 23 = .ok (.if_icmp .ge 22, 3) := by decide +kernel
theorem dX5_turned_26 : decode cX5_turned 26 = .ok (.lload_n 2, 1) := by decide +kernel
theorem dX5_turned_27 : decode cX5_turned 27 = .ok (.iconst 4, 1) := by decide +kernel
theorem dX5_turned_28 : decode cX5_turned 28 = .ok (.lshl, 1) := by decide +kernel
theorem dX5_turned_29 : decode cX5_turned 29 = .ok (.aload_n 0, 1) := by decide +kernel
theorem dX5_turned_30 : decode cX5_turned 30 = .ok (.iload_n 1, 1) := by decide +kernel
theorem dX5_turned_31 : decode cX5_turned 31 = .ok (.iload 4, 2) := by decide +kernel
theorem dX5_turned_33 : decode cX5_turned 33 = .ok (.invokevirtual 92, 3) := by decide +kernel
theorem dX5_turned_36 : decode cX5_turned 36 = .ok (.i2l, 1) := by decide +kernel
theorem dX5_turned_37 : decode cX5_turned 37 = .ok (.lor, 1) := by decide +kernel
theorem dX5_turned_38 : decode cX5_turned 38 = .ok (.lstore_n 2, 1) := by decide +kernel
theorem dX5_turned_39 : decode cX5_turned 39 = .ok (.iinc 4 1, 3) := by decide +kernel
theorem dX5_turned_42 : decode cX5_turned 42 = .ok (.goto (-27), 3) := by decide +kernel
theorem dX5_turned_45 : decode cX5_turned 45 = .ok (.lload_n 2, 1) := by decide +kernel
theorem dX5_turned_46 : decode cX5_turned 46 = .ok (.lreturn, 1) := by decide +kernel
set_option maxRecDepth 20000 in
theorem ggX5_areAlike_X5_in : GoodIn wsX5_areAlike wsX5_in := goodIn_r _ [7] (by decide +kernel) (by decide +kernel)
set_option maxRecDepth 20000 in
theorem gX5_areAlike_X5_in : GoodIn wsX5_areAlike (va_wsS RX5 72 yX5_in wsX5_in) := goodIn_app (goodIn_of _ (by decide +kernel)) ggX5_areAlike_X5_in
set_option maxRecDepth 20000 in
theorem ggX5_areAlike_X5_tone : GoodIn wsX5_areAlike wsX5_tone := goodIn_r _ [11, 12, 13, 14, 15, 16, 17, 18, 19, 20, 21, 22, 23, 24, 25, 26, 27, 28, 29, 30, 31, 32, 33, 34, 35, 36] (by decide +kernel) (by decide +kernel)
set_option maxRecDepth 20000 in
theorem gX5_areAlike_X5_tone : GoodIn wsX5_areAlike (wsV RX5 92 RX5 yX5_tone wsX5_tone) := goodIn_app (goodIn_of _ (by decide +kernel)) ggX5_areAlike_X5_tone
theorem dX5_areAlike_0 : decode cX5_areAlike 0 = .ok (.aload_n 0, 1) := by decide +kernel
theorem dX5_areAlike_1 : decode cX5_areAlike 1 = .ok (.iload_n 1, 1) := by decide +kernel
theorem dX5_areAlike_2 : decode cX5_areAlike 2 = .ok (.iconst 0, 1) := by decide +kernel
theorem dX5_areAlike_3 : decode cX5_areAlike 3 = .ok (.aload_n 0, 1) := by decide +kernel
theorem dX5_areAlike_4 : decode cX5_areAlike 4 = .ok (.getfield 76, 3) := by decide +kernel
theorem dX5_areAlike_7 : decode cX5_areAlike 7 = .ok (.iconst 1, 1) := by decide +kernel
theorem dX5_areAlike_8 : decode cX5_areAlike 8 = .ok (.isub, 1) := by decide +kernel
theorem dX5_areAlike_9 : decode cX5_areAlike 9 = .ok (.invokestatic 72, 3) := by decide +kernel
theorem dX5_areAlike_12 : decode cX5_areAlike 12 = .ok (.ifCond .eq 21, 3) := by decide +kernel
theorem dX5_areAlike_15 : decode cX5_areAlike 15 = .ok (.iload_n 2, 1) := by decide +kernel
theorem dX5_areAlike_16 : decode cX5_areAlike 16 = .ok (.iconst 0, 1) := by decide +kernel
theorem dX5_areAlike_17 : decode cX5_areAlike 17 = .ok (.aload_n 0, 1) := by decide +kernel
theorem dX5_areAlike_18 : decode cX5_areAlike 18 = .ok (.getfield 76, 3) := by decide +kernel
theorem dX5_areAlike_21 : decode cX5_areAlike 21 = .ok (.iconst 1, 1) := by decide +kernel
theorem dX5_areAlike_22 : decode cX5_areAlike 22 = .ok (.isub, 1) := by decide +kernel
theorem dX5_areAlike_23 : decode cX5_areAlike 23 = .ok (.invokestatic 72, 3) := by decide +kernel
theorem dX5_areAlike_26 : decode cX5_areAlike 26 = .ok (.ifCond .eq 7, 3) := by decide +kernel
theorem dX5_areAlike_29 : decode cX5_areAlike 29 = .ok (.iconst 0, 1) := by decide +kernel
theorem dX5_areAlike_30 : decode cX5_areAlike 30 = .ok (.goto 4, 3) := by decide +kernel
theorem dX5_areAlike_33 : decode cX5_areAlike 33 = .ok (.iconst 1, 1) := by decide +kernel
theorem dX5_areAlike_34 : decode cX5_areAlike 34 = .ok (.putfield 68, 3) := by decide +kernel
theorem dX5_areAlike_37 : decode cX5_areAlike 37 = .ok (.aload_n 0, 1) := by decide +kernel
theorem dX5_areAlike_38 : decode cX5_areAlike 38 = .ok (.getfield 68, 3) := by decide +kernel
theorem dX5_areAlike_41 : decode cX5_areAlike 41 = .ok (.ifCond .gt 18, 3) := by decide +kernel
theorem dX5_areAlike_44 : decode cX5_areAlike 44 = .ok (.aload_n 0, 1) := by decide +kernel
theorem dX5_areAlike_45 : decode cX5_areAlike 45 = .ok (.getfield 13, 3) := by decide +kernel
theorem dX5_areAlike_48 : decode cX5_areAlike 48 = .ok (.iload_n 1, 1) := by decide +kernel
theorem dX5_areAlike_49 : decode cX5_areAlike 49 = .ok (.iaload, 1) := by decide +kernel
theorem dX5_areAlike_50 : decode cX5_areAlike 50 = .ok (.aload_n 0, 1) := by decide +kernel
theorem dX5_areAlike_51 : decode cX5_areAlike 51 = .ok (.getfield 13, 3) := by decide +kernel
theorem dX5_areAlike_54 : decode cX5_areAlike 54 = .ok (.iload_n 2, 1) := by decide +kernel
theorem dX5_areAlike_55 : decode cX5_areAlike 55 = .ok (.iaload, 1) := by decide +kernel
theorem dX5_areAlike_56 : decode cX5_areAlike 56 = .ok (.if_icmp .eq 5, 3) := by decide +kernel
theorem dX5_areAlike_59 : decode cX5_areAlike 59 = .ok (.iconst 0, 1) := by decide +kernel
theorem dX5_areAlike_60 : decode cX5_areAlike 60 = .ok (.ireturn, 1) := by decide +kernel
theorem dX5_areAlike_61 : decode cX5_areAlike 61 = .ok (.iconst 1, 1) := by decide +kernel
theorem dX5_areAlike_62 : decode cX5_areAlike 62 = .ok (.istore_n 3, 1) := by decide +kernel
theorem dX5_areAlike_63 : decode cX5_areAlike 63 = .ok (.iconst 1, 1) := by decide +kernel
theorem dX5_areAlike_64 : decode cX5_areAlike 64 = .ok (.istore 4, 2) := by decide +kernel
theorem dX5_areAlike_66 : decode cX5_areAlike 66 = .ok (.iload 4, 2) := by decide +kernel
theorem dX5_areAlike_68 : decode cX5_areAlike 68 = .ok (.aload_n 0, 1) := by decide +kernel
theorem dX5_areAlike_69 : decode cX5_areAlike 69 = .ok (.getfield 13, 3) := by decide +kernel
theorem dX5_areAlike_72 : decode cX5_areAlike 72 = .ok (.iload_n 1, 1) := by decide +kernel
theorem dX5_areAlike_73 : decode cX5_areAlike 73 = .ok (.iaload, 1) := by decide +kernel
theorem dX5_areAlike_74 : decode cX5_areAlike 74 = .ok (.if_icmp .ge 54, 3) := by decide +kernel
theorem dX5_areAlike_77 : decode cX5_areAlike 77 = .ok (.iload_n 3, 1) := by decide +kernel
theorem dX5_areAlike_78 : decode cX5_areAlike 78 = .ok (.ifCond .eq 42, 3) := by decide +kernel
theorem dX5_areAlike_81 : decode cX5_areAlike 81 = .ok (.aload_n 0, 1) := by decide +kernel
theorem dX5_areAlike_82 : decode cX5_areAlike 82 = .ok (.iload_n 1, 1) := by decide +kernel
theorem dX5_areAlike_83 : decode cX5_areAlike 83 = .ok (.iload 4, 2) := by decide +kernel
theorem dX5_areAlike_85 : decode cX5_areAlike 85 = .ok (.invokevirtual 92, 3) := by decide +kernel
theorem dX5_areAlike_88 : decode cX5_areAlike 88 = .ok (.aload_n 0, 1) := by decide +kernel
theorem dX5_areAlike_89 : decode cX5_areAlike 89 = .ok (.iload_n 2, 1) := by decide +kernel
theorem dX5_areAlike_90 : decode cX5_areAlike 90 = .ok (.iload 4, 2) := by decide +kernel
theorem dX5_areAlike_92 : decode cX5_areAlike 92 = .ok (.invokevirtual 92, 3) := by decide +kernel
theorem dX5_areAlike_95 : decode cX5_areAlike 95 = .ok (.isub, 1) := by decide +kernel
theorem dX5_areAlike_96 : decode cX5_areAlike 96 = .ok (.aload_n 0, 1) := by decide +kernel
theorem dX5_areAlike_97 : decode cX5_areAlike 97 = .ok (.iload_n 1, 1) := by decide +kernel
theorem dX5_areAlike_98 : decode cX5_areAlike 98 = .ok (.iconst 0, 1) := by decide +kernel
theorem dX5_areAlike_99 : decode cX5_areAlike 99 = .ok (.invokevirtual 92, 3) := by decide +kernel
theorem dX5_areAlike_102 : decode cX5_areAlike 102 = .ok (.isub, 1) := by decide +kernel
theorem dX5_areAlike_103 : decode cX5_areAlike 103 = .ok (.aload_n 0, 1) := by decide +kernel
theorem dX5_areAlike_104 : decode cX5_areAlike 104 = .ok (.iload_n 2, 1) := by decide +kernel
theorem dX5_areAlike_105 : decode cX5_areAlike 105 = .ok (.iconst 0, 1) := by decide +kernel
theorem dX5_areAlike_106 : decode cX5_areAlike 106 = .ok (.invokevirtual 92, 3) := by decide +kernel
theorem dX5_areAlike_109 : decode cX5_areAlike 109 = .ok (.iadd, 1) := by decide +kernel
theorem dX5_areAlike_110 : decode cX5_areAlike 110 = .ok (.bipush 16, 2) := by decide +kernel
theorem dX5_areAlike_112 : decode cX5_areAlike 112 = .ok (.irem, 1) := by decide +kernel
theorem dX5_areAlike_113 : decode cX5_areAlike 113 = .ok (.ifCond .ne 7, 3) := by decide +kernel
theorem dX5_areAlike_116 : decode cX5_areAlike 116 = .ok (.iconst 1, 1) := by decide +kernel
theorem dX5_areAlike_117 : decode cX5_areAlike 117 = .ok (.goto 4, 3) := by decide +kernel
theorem dX5_areAlike_120 : decode cX5_areAlike 120 = .ok (.iconst 0, 1) := by decide +kernel
theorem dX5_areAlike_121 : decode cX5_areAlike 121 = .ok (.istore_n 3, 1) := by decide +kernel
theorem dX5_areAlike_122 : decode cX5_areAlike 122 = .ok (.iinc 4 1, 3) := by decide +kernel
theorem dX5_areAlike_125 : decode cX5_areAlike 125 = .ok (.goto (-59), 3) := by decide +kernel
theorem dX5_areAlike_128 : decode cX5_areAlike 128 = .ok (.iload_n 3, 1) := by decide +kernel
theorem dX5_areAlike_129 : decode cX5_areAlike 129 = .ok (.ireturn, 1) := by decide +kernel
set_option maxRecDepth 20000 in
theorem ggX5_license_X5_isHouse : GoodIn wsX5_license wsX5_isHouse := goodIn_r _ [8, 9, 10, 7, 11] (by decide +kernel) (by decide +kernel)
set_option maxRecDepth 20000 in
theorem gX5_license_X5_isHouse : GoodIn wsX5_license (va_wsS RX5 79 yX5_isHouse wsX5_isHouse) := goodIn_app (goodIn_of _ (by decide +kernel)) ggX5_license_X5_isHouse
set_option maxRecDepth 20000 in
theorem ggX5_license_X5_in : GoodIn wsX5_license wsX5_in := goodIn_r _ [11] (by decide +kernel) (by decide +kernel)
set_option maxRecDepth 20000 in
theorem gX5_license_X5_in : GoodIn wsX5_license (va_wsS RX5 72 yX5_in wsX5_in) := goodIn_app (goodIn_of _ (by decide +kernel)) ggX5_license_X5_in
set_option maxRecDepth 20000 in
theorem ggX5_license_X5_fails : GoodIn wsX5_license wsX5_fails := goodIn_r _ [15, 2, 16, 17, 18, 19, 20, 21, 22, 23, 24, 25, 26, 27, 28, 29, 30, 31, 32, 33, 34, 35, 36, 37, 38] (by decide +kernel) (by decide +kernel)
set_option maxRecDepth 20000 in
theorem gX5_license_X5_fails : GoodIn wsX5_license (wsV RX5 83 RX5 yX5_fails wsX5_fails) := goodIn_app (goodIn_of _ (by decide +kernel)) ggX5_license_X5_fails
theorem dX5_license_0 : decode cX5_license 0 = .ok (.aload_n 0, 1) := by decide +kernel
theorem dX5_license_1 : decode cX5_license 1 = .ok (.iload_n 1, 1) := by decide +kernel
theorem dX5_license_2 : decode cX5_license 2 = .ok (.invokestatic 79, 3) := by decide +kernel
theorem dX5_license_5 : decode cX5_license 5 = .ok (.ifCond .eq 17, 3) := by decide +kernel
theorem dX5_license_8 : decode cX5_license 8 = .ok (.iload_n 2, 1) := by decide +kernel
theorem dX5_license_9 : decode cX5_license 9 = .ok (.iconst 0, 1) := by decide +kernel
theorem dX5_license_10 : decode cX5_license 10 = .ok (.aload_n 0, 1) := by decide +kernel
theorem dX5_license_11 : decode cX5_license 11 = .ok (.getfield 76, 3) := by decide +kernel
theorem dX5_license_14 : decode cX5_license 14 = .ok (.iconst 1, 1) := by decide +kernel
theorem dX5_license_15 : decode cX5_license 15 = .ok (.isub, 1) := by decide +kernel
theorem dX5_license_16 : decode cX5_license 16 = .ok (.invokestatic 72, 3) := by decide +kernel
theorem dX5_license_19 : decode cX5_license 19 = .ok (.ifCond .ne 7, 3) := by decide +kernel
theorem dX5_license_22 : decode cX5_license 22 = .ok (.iconst 1, 1) := by decide +kernel
theorem dX5_license_23 : decode cX5_license 23 = .ok (.goto 19, 3) := by decide +kernel
theorem dX5_license_26 : decode cX5_license 26 = .ok (.iload_n 3, 1) := by decide +kernel
theorem dX5_license_27 : decode cX5_license 27 = .ok (.iconst 1, 1) := by decide +kernel
theorem dX5_license_28 : decode cX5_license 28 = .ok (.sipush 1000, 3) := by decide +kernel
theorem dX5_license_31 : decode cX5_license 31 = .ok (.invokestatic 72, 3) := by decide +kernel
theorem dX5_license_34 : decode cX5_license 34 = .ok (.ifCond .ne 7, 3) := by decide +kernel
theorem dX5_license_37 : decode cX5_license 37 = .ok (.iconst 2, 1) := by decide +kernel
theorem dX5_license_38 : decode cX5_license 38 = .ok (.goto 4, 3) := by decide +kernel
theorem dX5_license_41 : decode cX5_license 41 = .ok (.iconst 0, 1) := by decide +kernel
theorem dX5_license_42 : decode cX5_license 42 = .ok (.putfield 68, 3) := by decide +kernel
theorem dX5_license_45 : decode cX5_license 45 = .ok (.aload_n 0, 1) := by decide +kernel
theorem dX5_license_46 : decode cX5_license 46 = .ok (.getfield 68, 3) := by decide +kernel
theorem dX5_license_49 : decode cX5_license 49 = .ok (.ifCond .le 5, 3) := by decide +kernel
theorem dX5_license_52 : decode cX5_license 52 = .ok (.iconst 0, 1) := by decide +kernel
theorem dX5_license_53 : decode cX5_license 53 = .ok (.ireturn, 1) := by decide +kernel
theorem dX5_license_54 : decode cX5_license 54 = .ok (.bipush 12, 2) := by decide +kernel
theorem dX5_license_56 : decode cX5_license 56 = .ok (.iload_n 1, 1) := by decide +kernel
theorem dX5_license_57 : decode cX5_license 57 = .ok (.imul, 1) := by decide +kernel
theorem dX5_license_58 : decode cX5_license 58 = .ok (.iload_n 2, 1) := by decide +kernel
theorem dX5_license_59 : decode cX5_license 59 = .ok (.iadd, 1) := by decide +kernel
theorem dX5_license_60 : decode cX5_license 60 = .ok (.istore 4, 2) := by decide +kernel
theorem dX5_license_62 : decode cX5_license 62 = .ok (.aload_n 0, 1) := by decide +kernel
theorem dX5_license_63 : decode cX5_license 63 = .ok (.getfield 7, 3) := by decide +kernel
theorem dX5_license_66 : decode cX5_license 66 = .ok (.iload_n 2, 1) := by decide +kernel
theorem dX5_license_67 : decode cX5_license 67 = .ok (.iaload, 1) := by decide +kernel
theorem dX5_license_68 : decode cX5_license 68 = .ok (.iload_n 1, 1) := by decide +kernel
theorem dX5_license_69 : decode cX5_license 69 = .ok (.if_icmp .eq 18, 3) := by decide +kernel
theorem dX5_license_72 : decode cX5_license 72 = .ok (.aload_n 0, 1) := by decide +kernel
theorem dX5_license_73 : decode cX5_license 73 = .ok (.getfield 29, 3) := by decide +kernel
theorem dX5_license_76 : decode cX5_license 76 = .ok (.iload 4, 2) := by decide +kernel
theorem dX5_license_78 : decode cX5_license 78 = .ok (.iaload, 1) := by decide +kernel
theorem dX5_license_79 : decode cX5_license 79 = .ok (.iload_n 3, 1) := by decide +kernel
theorem dX5_license_80 : decode cX5_license 80 = .ok (.iadd, 1) := by decide +kernel
theorem dX5_license_81 : decode cX5_license 81 = .ok (.sipush 1000, 3) := by decide +kernel
theorem dX5_license_84 : decode cX5_license 84 = .ok (.if_icmp .le 9, 3) := by decide +kernel
theorem dX5_license_87 : decode cX5_license 87 = .ok (.aload_n 0, 1) := by decide +kernel
theorem dX5_license_88 : decode cX5_license 88 = .ok (.iconst 3, 1) := by decide +kernel
theorem dX5_license_89 : decode cX5_license 89 = .ok (.invokevirtual 83, 3) := by decide +kernel
theorem dX5_license_92 : decode cX5_license 92 = .ok (.ireturn, 1) := by decide +kernel
theorem dX5_license_93 : decode cX5_license 93 = .ok (.aload_n 0, 1) := by decide +kernel
theorem dX5_license_94 : decode cX5_license 94 = .ok (.getfield 29, 3) := by decide +kernel
theorem dX5_license_97 : decode cX5_license 97 = .ok (.iload 4, 2) := by decide +kernel
theorem dX5_license_99 : decode cX5_license 99 = .ok (.dup2, 1) := by decide +kernel
theorem dX5_license_100 : decode cX5_license 100 = .ok (.iaload, 1) := by decide +kernel
theorem dX5_license_101 : decode cX5_license 101 = .ok (.iload_n 3, 1) := by decide +kernel
theorem dX5_license_102 : decode cX5_license 102 = .ok (.iadd, 1) := by decide +kernel
theorem dX5_license_103 : decode cX5_license 103 = .ok (.iastore, 1) := by decide +kernel
theorem dX5_license_104 : decode cX5_license 104 = .ok (.aload_n 0, 1) := by decide +kernel
theorem dX5_license_105 : decode cX5_license 105 = .ok (.getfield 29, 3) := by decide +kernel
theorem dX5_license_108 : decode cX5_license 108 = .ok (.iload 4, 2) := by decide +kernel
theorem dX5_license_110 : decode cX5_license 110 = .ok (.iaload, 1) := by decide +kernel
theorem dX5_license_111 : decode cX5_license 111 = .ok (.ireturn, 1) := by decide +kernel
theorem dX5_isQuiet_0 : decode cX5_isQuiet 0 = .ok (.aload_n 0, 1) := by decide +kernel
theorem dX5_isQuiet_1 : decode cX5_isQuiet 1 = .ok (.getfield 96, 3) := by decide +kernel
theorem dX5_isQuiet_4 : decode cX5_isQuiet 4 = .ok (.sipush 1000, 3) := by decide +kernel
theorem dX5_isQuiet_7 : decode cX5_isQuiet 7 = .ok (.irem, 1) := by decide +kernel
theorem dX5_isQuiet_8 : decode cX5_isQuiet 8 = .ok (.istore_n 2, 1) := by decide +kernel
theorem dX5_isQuiet_9 : decode cX5_isQuiet 9 = .ok (.aload_n 0, 1) := by decide +kernel
theorem dX5_isQuiet_10 : decode cX5_isQuiet 10 = .ok (.getfield 32, 3) := by decide +kernel
theorem dX5_isQuiet_13 : decode cX5_isQuiet 13 = .ok (.iload_n 1, 1) := by decide +kernel
theorem dX5_isQuiet_14 : decode cX5_isQuiet 14 = .ok (.iaload, 1) := by decide +kernel
theorem dX5_isQuiet_15 : decode cX5_isQuiet 15 = .ok (.aload_n 0, 1) := by decide +kernel
theorem dX5_isQuiet_16 : decode cX5_isQuiet 16 = .ok (.getfield 35, 3) := by decide +kernel
theorem dX5_isQuiet_19 : decode cX5_isQuiet 19 = .ok (.iload_n 1, 1) := by decide +kernel
theorem dX5_isQuiet_20 : decode cX5_isQuiet 20 = .ok (.iaload, 1) := by decide +kernel
theorem dX5_isQuiet_21 : decode cX5_isQuiet 21 = .ok (.if_icmp .gt 29, 3) := by decide +kernel
theorem dX5_isQuiet_24 : decode cX5_isQuiet 24 = .ok (.iload_n 2, 1) := by decide +kernel
theorem dX5_isQuiet_25 : decode cX5_isQuiet 25 = .ok (.aload_n 0, 1) := by decide +kernel
theorem dX5_isQuiet_26 : decode cX5_isQuiet 26 = .ok (.getfield 32, 3) := by decide +kernel
theorem dX5_isQuiet_29 : decode cX5_isQuiet 29 = .ok (.iload_n 1, 1) := by decide +kernel
theorem dX5_isQuiet_30 : decode cX5_isQuiet 30 = .ok (.iaload, 1) := by decide +kernel
theorem dX5_isQuiet_31 : decode cX5_isQuiet 31 = .ok (.if_icmp .lt 17, 3) := by decide +kernel
theorem dX5_isQuiet_34 : decode cX5_isQuiet 34 = .ok (.iload_n 2, 1) := by decide +kernel
theorem dX5_isQuiet_35 : decode cX5_isQuiet 35 = .ok (.aload_n 0, 1) := by decide +kernel
theorem dX5_isQuiet_36 : decode cX5_isQuiet 36 = .ok (.getfield 35, 3) := by decide +kernel
theorem dX5_isQuiet_39 : decode cX5_isQuiet 39 = .ok (.iload_n 1, 1) := by decide +kernel
theorem dX5_isQuiet_40 : decode cX5_isQuiet 40 = .ok (.iaload, 1) := by decide +kernel
theorem dX5_isQuiet_41 : decode cX5_isQuiet 41 = .ok (.if_icmp .ge 7, 3) := by decide +kernel
theorem dX5_isQuiet_44 : decode cX5_isQuiet 44 = .ok (.iconst 1, 1) := by decide +kernel
theorem dX5_isQuiet_45 : decode cX5_isQuiet 45 = .ok (.goto 4, 3) := by decide +kernel
theorem dX5_isQuiet_48 : decode cX5_isQuiet 48 = .ok (.iconst 0, 1) := by decide +kernel
theorem dX5_isQuiet_49 : decode cX5_isQuiet 49 = .ok (.ireturn, 1) := by decide +kernel
theorem dX5_isQuiet_50 : decode cX5_isQuiet 50 = .ok (.iload_n 2, 1) := by decide +kernel
theorem dX5_isQuiet_51 : decode cX5_isQuiet 51 = .ok (.aload_n 0, 1) := by decide +kernel
theorem dX5_isQuiet_52 : decode cX5_isQuiet 52 = .ok (.getfield 32, 3) := by decide +kernel
theorem dX5_isQuiet_55 : decode cX5_isQuiet 55 = .ok (.iload_n 1, 1) := by decide +kernel
theorem dX5_isQuiet_56 : decode cX5_isQuiet 56 = .ok (.iaload, 1) := by decide +kernel
theorem dX5_isQuiet_57 : decode cX5_isQuiet 57 = .ok (.if_icmp .ge 13, 3) := by decide +kernel
theorem dX5_isQuiet_60 : decode cX5_isQuiet 60 = .ok (.iload_n 2, 1) := by decide +kernel
theorem dX5_isQuiet_61 : decode cX5_isQuiet 61 = .ok (.aload_n 0, 1) := by decide +kernel
theorem dX5_isQuiet_62 : decode cX5_isQuiet 62 = .ok (.getfield 35, 3) := by decide +kernel
theorem dX5_isQuiet_65 : decode cX5_isQuiet 65 = .ok (.iload_n 1, 1) := by decide +kernel
theorem dX5_isQuiet_66 : decode cX5_isQuiet 66 = .ok (.iaload, 1) := by decide +kernel
theorem dX5_isQuiet_67 : decode cX5_isQuiet 67 = .ok (.if_icmp .ge 7, 3) := by decide +kernel
theorem dX5_isQuiet_70 : decode cX5_isQuiet 70 = .ok (.iconst 1, 1) := by decide +kernel
theorem dX5_isQuiet_71 : decode cX5_isQuiet 71 = .ok (.goto 4, 3) := by decide +kernel
theorem dX5_isQuiet_74 : decode cX5_isQuiet 74 = .ok (.iconst 0, 1) := by decide +kernel
theorem dX5_isQuiet_75 : decode cX5_isQuiet 75 = .ok (.ireturn, 1) := by decide +kernel
set_option maxRecDepth 20000 in
theorem ggX5_setQuiet_X5_isHouse : GoodIn wsX5_setQuiet wsX5_isHouse := goodIn_r _ [7, 8, 9, 6, 10] (by decide +kernel) (by decide +kernel)
set_option maxRecDepth 20000 in
theorem gX5_setQuiet_X5_isHouse : GoodIn wsX5_setQuiet (va_wsS RX5 79 yX5_isHouse wsX5_isHouse) := goodIn_app (goodIn_of _ (by decide +kernel)) ggX5_setQuiet_X5_isHouse
set_option maxRecDepth 20000 in
theorem ggX5_setQuiet_X5_in : GoodIn wsX5_setQuiet wsX5_in := goodIn_r _ [10] (by decide +kernel) (by decide +kernel)
set_option maxRecDepth 20000 in
theorem gX5_setQuiet_X5_in : GoodIn wsX5_setQuiet (va_wsS RX5 72 yX5_in wsX5_in) := goodIn_app (goodIn_of _ (by decide +kernel)) ggX5_setQuiet_X5_in
set_option maxRecDepth 20000 in
theorem ggX5_setQuiet_X5_isQuiet : GoodIn wsX5_setQuiet wsX5_isQuiet := goodIn_r _ [14, 15, 2, 3, 16, 17, 18, 19, 20, 21, 22, 23, 24, 25, 26, 27, 28, 29, 30, 31, 32, 33, 34, 35, 36, 37, 38] (by decide +kernel) (by decide +kernel)
set_option maxRecDepth 20000 in
theorem gX5_setQuiet_X5_isQuiet : GoodIn wsX5_setQuiet (wsV RX5 99 RX5 yX5_isQuiet wsX5_isQuiet) := goodIn_app (goodIn_of _ (by decide +kernel)) ggX5_setQuiet_X5_isQuiet
theorem dX5_setQuiet_0 : decode cX5_setQuiet 0 = .ok (.aload_n 0, 1) := by decide +kernel
theorem dX5_setQuiet_1 : decode cX5_setQuiet 1 = .ok (.iload_n 1, 1) := by decide +kernel
theorem dX5_setQuiet_2 : decode cX5_setQuiet 2 = .ok (.invokestatic 79, 3) := by decide +kernel
theorem dX5_setQuiet_5 : decode cX5_setQuiet 5 = .ok (.ifCond .ne 7, 3) := by decide +kernel
theorem dX5_setQuiet_8 : decode cX5_setQuiet 8 = .ok (.iconst 1, 1) := by decide +kernel
theorem dX5_setQuiet_9 : decode cX5_setQuiet 9 = .ok (.goto 30, 3) := by decide +kernel
theorem dX5_setQuiet_12 : decode cX5_setQuiet 12 = .ok (.iload_n 2, 1) := by decide +kernel
theorem dX5_setQuiet_13 : decode cX5_setQuiet 13 = .ok (.iconst 0, 1) := by decide +kernel
theorem dX5_setQuiet_14 : decode cX5_setQuiet 14 = .ok (.sipush 999, 3) := by decide +kernel
theorem dX5_setQuiet_17 : decode cX5_setQuiet 17 = .ok (.invokestatic 72, 3) := by decide +kernel
theorem dX5_setQuiet_20 : decode cX5_setQuiet 20 = .ok (.ifCond .eq 14, 3) := by decide +kernel
theorem dX5_setQuiet_23 : decode cX5_setQuiet 23 = .ok (.iload_n 3, 1) := by decide +kernel
theorem dX5_setQuiet_24 : decode cX5_setQuiet 24 = .ok (.iconst 0, 1) := by decide +kernel
theorem dX5_setQuiet_25 : decode cX5_setQuiet 25 = .ok (.sipush 999, 3) := by decide +kernel
theorem dX5_setQuiet_28 : decode cX5_setQuiet 28 = .ok (.invokestatic 72, 3) := by decide +kernel
theorem dX5_setQuiet_31 : decode cX5_setQuiet 31 = .ok (.ifCond .ne 7, 3) := by decide +kernel
theorem dX5_setQuiet_34 : decode cX5_setQuiet 34 = .ok (.iconst 2, 1) := by decide +kernel
theorem dX5_setQuiet_35 : decode cX5_setQuiet 35 = .ok (.goto 4, 3) := by decide +kernel
theorem dX5_setQuiet_38 : decode cX5_setQuiet 38 = .ok (.iconst 0, 1) := by decide +kernel
theorem dX5_setQuiet_39 : decode cX5_setQuiet 39 = .ok (.putfield 68, 3) := by decide +kernel
theorem dX5_setQuiet_42 : decode cX5_setQuiet 42 = .ok (.aload_n 0, 1) := by decide +kernel
theorem dX5_setQuiet_43 : decode cX5_setQuiet 43 = .ok (.getfield 68, 3) := by decide +kernel
theorem dX5_setQuiet_46 : decode cX5_setQuiet 46 = .ok (.ifCond .le 5, 3) := by decide +kernel
theorem dX5_setQuiet_49 : decode cX5_setQuiet 49 = .ok (.iconst 0, 1) := by decide +kernel
theorem dX5_setQuiet_50 : decode cX5_setQuiet 50 = .ok (.ireturn, 1) := by decide +kernel
theorem dX5_setQuiet_51 : decode cX5_setQuiet 51 = .ok (.aload_n 0, 1) := by decide +kernel
theorem dX5_setQuiet_52 : decode cX5_setQuiet 52 = .ok (.getfield 32, 3) := by decide +kernel
theorem dX5_setQuiet_55 : decode cX5_setQuiet 55 = .ok (.iload_n 1, 1) := by decide +kernel
theorem dX5_setQuiet_56 : decode cX5_setQuiet 56 = .ok (.iload_n 2, 1) := by decide +kernel
theorem dX5_setQuiet_57 : decode cX5_setQuiet 57 = .ok (.iastore, 1) := by decide +kernel
theorem dX5_setQuiet_58 : decode cX5_setQuiet 58 = .ok (.aload_n 0, 1) := by decide +kernel
theorem dX5_setQuiet_59 : decode cX5_setQuiet 59 = .ok (.getfield 35, 3) := by decide +kernel
theorem dX5_setQuiet_62 : decode cX5_setQuiet 62 = .ok (.iload_n 1, 1) := by decide +kernel
theorem dX5_setQuiet_63 : decode cX5_setQuiet 63 = .ok (.iload_n 3, 1) := by decide +kernel
theorem dX5_setQuiet_64 : decode cX5_setQuiet 64 = .ok (.iastore, 1) := by decide +kernel
theorem dX5_setQuiet_65 : decode cX5_setQuiet 65 = .ok (.aload_n 0, 1) := by decide +kernel
theorem dX5_setQuiet_66 : decode cX5_setQuiet 66 = .ok (.iload_n 1, 1) := by decide +kernel
theorem dX5_setQuiet_67 : decode cX5_setQuiet 67 = .ok (.invokevirtual 99, 3) := by decide +kernel
theorem dX5_setQuiet_70 : decode cX5_setQuiet 70 = .ok (.ireturn, 1) := by decide +kernel
set_option maxRecDepth 20000 in
theorem ggX5_lay_X5_isHouse : GoodIn wsX5_lay wsX5_isHouse := goodIn_r _ [9, 10, 11, 8, 12] (by decide +kernel) (by decide +kernel)
set_option maxRecDepth 20000 in
theorem gX5_lay_X5_isHouse : GoodIn wsX5_lay (va_wsS RX5 79 yX5_isHouse wsX5_isHouse) := goodIn_app (goodIn_of _ (by decide +kernel)) ggX5_lay_X5_isHouse
set_option maxRecDepth 20000 in
theorem ggX5_lay_X5_in : GoodIn wsX5_lay wsX5_in := goodIn_r _ [12] (by decide +kernel) (by decide +kernel)
set_option maxRecDepth 20000 in
theorem gX5_lay_X5_in : GoodIn wsX5_lay (va_wsS RX5 72 yX5_in wsX5_in) := goodIn_app (goodIn_of _ (by decide +kernel)) ggX5_lay_X5_in
theorem dX5_lay_0 : decode cX5_lay 0 = .ok (.aload_n 0, 1) := by decide +kernel
theorem dX5_lay_1 : decode cX5_lay 1 = .ok (.iload_n 1, 1) := by decide +kernel
theorem dX5_lay_2 : decode cX5_lay 2 = .ok (.invokestatic 79, 3) := by decide +kernel
theorem dX5_lay_5 : decode cX5_lay 5 = .ok (.ifCond .eq 31, 3) := by decide +kernel
theorem dX5_lay_8 : decode cX5_lay 8 = .ok (.iload_n 2, 1) := by decide +kernel
theorem dX5_lay_9 : decode cX5_lay 9 = .ok (.iconst 0, 1) := by decide +kernel
theorem dX5_lay_10 : decode cX5_lay 10 = .ok (.iconst 2, 1) := by decide +kernel
theorem dX5_lay_11 : decode cX5_lay 11 = .ok (.invokestatic 72, 3) := by decide +kernel
theorem dX5_lay_14 : decode cX5_lay 14 = .ok (.ifCond .eq 22, 3) := by decide +kernel
theorem dX5_lay_17 : decode cX5_lay 17 = .ok (.iload_n 3, 1) := by decide +kernel
theorem dX5_lay_18 : decode cX5_lay 18 = .ok (.iconst (-1), 1) := by decide +kernel
theorem dX5_lay_19 : decode cX5_lay 19 = .ok (.if_icmp .eq 21, 3) := by decide +kernel
theorem dX5_lay_22 : decode cX5_lay 22 = .ok (.iload_n 3, 1) := by decide +kernel
theorem dX5_lay_23 : decode cX5_lay 23 = .ok (.iconst 0, 1) := by decide +kernel
theorem dX5_lay_24 : decode cX5_lay 24 = .ok (.aload_n 0, 1) := by decide +kernel
theorem dX5_lay_25 : decode cX5_lay 25 = .ok (.getfield 76, 3) := by decide +kernel
theorem dX5_lay_28 : decode cX5_lay 28 = .ok (.iconst 1, 1) := by decide +kernel
theorem dX5_lay_29 : decode cX5_lay 29 = .ok (.isub, 1) := by decide +kernel
theorem dX5_lay_30 : decode cX5_lay 30 = .ok (.invokestatic 72, 3) := by decide +kernel
theorem dX5_lay_33 : decode cX5_lay 33 = .ok (.ifCond .ne 7, 3) := by decide +kernel
theorem dX5_lay_36 : decode cX5_lay 36 = .ok (.iconst 1, 1) := by decide +kernel
theorem dX5_lay_37 : decode cX5_lay 37 = .ok (.goto 19, 3) := by decide +kernel
theorem dX5_lay_40 : decode cX5_lay 40 = .ok (.iload 4, 2) := by decide +kernel
theorem dX5_lay_42 : decode cX5_lay 42 = .ok (.iconst 1, 1) := by decide +kernel
theorem dX5_lay_43 : decode cX5_lay 43 = .ok (.bipush 9, 2) := by decide +kernel
theorem dX5_lay_45 : decode cX5_lay 45 = .ok (.invokestatic 72, 3) := by decide +kernel
theorem dX5_lay_48 : decode cX5_lay 48 = .ok (.ifCond .ne 7, 3) := by decide +kernel
theorem dX5_lay_51 : decode cX5_lay 51 = .ok (.iconst 2, 1) := by decide +kernel
theorem dX5_lay_52 : decode cX5_lay 52 = .ok (.goto 4, 3) := by decide +kernel
theorem dX5_lay_55 : decode cX5_lay 55 = .ok (.iconst 0, 1) := by decide +kernel
theorem dX5_lay_56 : decode cX5_lay 56 = .ok (.putfield 68, 3) := by decide +kernel
theorem dX5_lay_59 : decode cX5_lay 59 = .ok (.aload_n 0, 1) := by decide +kernel
theorem dX5_lay_60 : decode cX5_lay 60 = .ok (.getfield 68, 3) := by decide +kernel
theorem dX5_lay_63 : decode cX5_lay 63 = .ok (.ifCond .le 5, 3) := by decide +kernel
theorem dX5_lay_66 : decode cX5_lay 66 = .ok (.iconst 0, 1) := by decide +kernel
theorem dX5_lay_67 : decode cX5_lay 67 = .ok (.ireturn, 1) := by decide +kernel
theorem dX5_lay_68 : decode cX5_lay 68 = .ok (.iconst 3, 1) := by decide +kernel
theorem dX5_lay_69 : decode cX5_lay 69 = .ok (.iload_n 1, 1) := by decide +kernel
theorem dX5_lay_70 : decode cX5_lay 70 = .ok (.imul, 1) := by decide +kernel
theorem dX5_lay_71 : decode cX5_lay 71 = .ok (.iload_n 2, 1) := by decide +kernel
theorem dX5_lay_72 : decode cX5_lay 72 = .ok (.iadd, 1) := by decide +kernel
theorem dX5_lay_73 : decode cX5_lay 73 = .ok (.istore 5, 2) := by decide +kernel
theorem dX5_lay_75 : decode cX5_lay 75 = .ok (.aload_n 0, 1) := by decide +kernel
theorem dX5_lay_76 : decode cX5_lay 76 = .ok (.getfield 20, 3) := by decide +kernel
theorem dX5_lay_79 : decode cX5_lay 79 = .ok (.iload 5, 2) := by decide +kernel
theorem dX5_lay_81 : decode cX5_lay 81 = .ok (.iaload, 1) := by decide +kernel
theorem dX5_lay_82 : decode cX5_lay 82 = .ok (.iconst 1, 1) := by decide +kernel
theorem dX5_lay_83 : decode cX5_lay 83 = .ok (.isub, 1) := by decide +kernel
theorem dX5_lay_84 : decode cX5_lay 84 = .ok (.istore 6, 2) := by decide +kernel
theorem dX5_lay_86 : decode cX5_lay 86 = .ok (.aload_n 0, 1) := by decide +kernel
theorem dX5_lay_87 : decode cX5_lay 87 = .ok (.getfield 20, 3) := by decide +kernel
theorem dX5_lay_90 : decode cX5_lay 90 = .ok (.iload 5, 2) := by decide +kernel
theorem dX5_lay_92 : decode cX5_lay 92 = .ok (.iload_n 3, 1) := by decide +kernel
theorem dX5_lay_93 : decode cX5_lay 93 = .ok (.iconst 1, 1) := by decide +kernel
theorem dX5_lay_94 : decode cX5_lay 94 = .ok (.iadd, 1) := by decide +kernel
theorem dX5_lay_95 : decode cX5_lay 95 = .ok (.iastore, 1) := by decide +kernel
theorem dX5_lay_96 : decode cX5_lay 96 = .ok (.aload_n 0, 1) := by decide +kernel
theorem dX5_lay_97 : decode cX5_lay 97 = .ok (.getfield 23, 3) := by decide +kernel
theorem dX5_lay_100 : decode cX5_lay 100 = .ok (.iload 5, 2) := by decide +kernel
theorem dX5_lay_102 : decode cX5_lay 102 = .ok (.iload 4, 2) := by decide +kernel
theorem dX5_lay_104 : decode cX5_lay 104 = .ok (.iastore, 1) := by decide +kernel
theorem dX5_lay_105 : decode cX5_lay 105 = .ok (.aload_n 0, 1) := by decide +kernel
theorem dX5_lay_106 : decode cX5_lay 106 = .ok (.getfield 26, 3) := by decide +kernel
theorem dX5_lay_109 : decode cX5_lay 109 = .ok (.iload 5, 2) := by decide +kernel
theorem dX5_lay_111 : decode cX5_lay 111 = .ok (.iconst 0, 1) := by decide +kernel
theorem dX5_lay_112 : decode cX5_lay 112 = .ok (.iastore, 1) := by decide +kernel
theorem dX5_lay_113 : decode cX5_lay 113 = .ok (.iload 6, 2) := by decide +kernel
theorem dX5_lay_115 : decode cX5_lay 115 = .ok (.ireturn, 1) := by decide +kernel
theorem dX5_breaks_0 : decode cX5_breaks 0 = .ok (.aload_n 0, 1) := by decide +kernel
theorem dX5_breaks_1 : decode cX5_breaks 1 = .ok (.getfield 38, 3) := by decide +kernel
theorem dX5_breaks_4 : decode cX5_breaks 4 = .ok (.iload_n 1, 1) := by decide +kernel
theorem dX5_breaks_5 : decode cX5_breaks 5 = .ok (.iconst 1, 1) := by decide +kernel
theorem dX5_breaks_6 : decode cX5_breaks 6 = .ok (.iastore, 1) := by decide +kernel
theorem dX5_breaks_7 : decode cX5_breaks 7 = .ok (.iconst 0, 1) := by decide +kernel
theorem dX5_breaks_8 : decode cX5_breaks 8 = .ok (.istore_n 2, 1) := by decide +kernel
theorem dX5_breaks_9 : decode cX5_breaks 9 = .ok (.iload_n 2, 1) := by decide +kernel
theorem dX5_breaks_10 : decode cX5_breaks 10 = .ok (.iconst 3, 1) := by decide +kernel
theorem dX5_breaks_11 : decode cX5_breaks 11 = .ok (.if_icmp .ge 20, 3) := by decide +kernel
theorem dX5_breaks_14 : decode cX5_breaks 14 = .ok (.aload_n 0, 1) := by decide +kernel
theorem dX5_breaks_15 : decode cX5_breaks 15 = .ok (.getfield 26, 3) := by decide +kernel
theorem dX5_breaks_18 : decode cX5_breaks 18 = .ok (.iconst 3, 1) := by decide +kernel
theorem dX5_breaks_19 : decode cX5_breaks 19 = .ok (.iload_n 1, 1) := by decide +kernel
theorem dX5_breaks_20 : decode cX5_breaks 20 = .ok (.imul, 1) := by decide +kernel
theorem dX5_breaks_21 : decode cX5_breaks 21 = .ok (.iload_n 2, 1) := by decide +kernel
theorem dX5_breaks_22 : decode cX5_breaks 22 = .ok (.iadd, 1) := by decide +kernel
theorem dX5_breaks_23 : decode cX5_breaks 23 = .ok (.iconst 0, 1) := by decide +kernel
theorem dX5_breaks_24 : decode cX5_breaks 24 = .ok (.iastore, 1) := by decide +kernel
theorem dX5_breaks_25 : decode cX5_breaks 25 = .ok (.iinc 2 1, 3) := by decide +kernel
theorem dX5_breaks_28 : decode cX5_breaks 28 = .ok (.goto (-19), 3) := by decide +kernel
theorem dX5_breaks_31 : decode cX5_breaks 31 = .ok (.return_, 1) := by decide +kernel
theorem dX5_begins_0 : decode cX5_begins 0 = .ok (.aload_n 0, 1) := by decide +kernel
theorem dX5_begins_1 : decode cX5_begins 1 = .ok (.getfield 26, 3) := by decide +kernel
theorem dX5_begins_4 : decode cX5_begins 4 = .ok (.iload_n 1, 1) := by decide +kernel
theorem dX5_begins_5 : decode cX5_begins 5 = .ok (.aload_n 0, 1) := by decide +kernel
theorem dX5_begins_6 : decode cX5_begins 6 = .ok (.getfield 96, 3) := by decide +kernel
theorem dX5_begins_9 : decode cX5_begins 9 = .ok (.iconst 2, 1) := by decide +kernel
theorem dX5_begins_10 : decode cX5_begins 10 = .ok (.aload_n 0, 1) := by decide +kernel
theorem dX5_begins_11 : decode cX5_begins 11 = .ok (.getfield 13, 3) := by decide +kernel
theorem dX5_begins_14 : decode cX5_begins 14 = .ok (.aload_n 0, 1) := by decide +kernel
theorem dX5_begins_15 : decode cX5_begins 15 = .ok (.getfield 20, 3) := by decide +kernel
theorem dX5_begins_18 : decode cX5_begins 18 = .ok (.iload_n 1, 1) := by decide +kernel
theorem dX5_begins_19 : decode cX5_begins 19 = .ok (.iaload, 1) := by decide +kernel
theorem dX5_begins_20 : decode cX5_begins 20 = .ok (.iconst 1, 1) := by decide +kernel
theorem dX5_begins_21 : decode cX5_begins 21 = .ok (.isub, 1) := by decide +kernel
theorem dX5_begins_22 : decode cX5_begins 22 = .ok (.iaload, 1) := by decide +kernel
theorem dX5_begins_23 : decode cX5_begins 23 = .ok (.imul, 1) := by decide +kernel
theorem dX5_begins_24 : decode cX5_begins 24 = .ok (.iadd, 1) := by decide +kernel
theorem dX5_begins_25 : decode cX5_begins 25 = .ok (.iastore, 1) := by decide +kernel
theorem dX5_begins_26 : decode cX5_begins 26 = .ok (.return_, 1) := by decide +kernel
set_option maxRecDepth 20000 in
theorem ggX5_press_X5_isHouse : GoodIn wsX5_press wsX5_isHouse := goodIn_r _ [12, 13, 14, 11, 15] (by decide +kernel) (by decide +kernel)
set_option maxRecDepth 20000 in
theorem gX5_press_X5_isHouse : GoodIn wsX5_press (va_wsS RX5 79 yX5_isHouse wsX5_isHouse) := goodIn_app (goodIn_of _ (by decide +kernel)) ggX5_press_X5_isHouse
set_option maxRecDepth 20000 in
theorem ggX5_press_X5_in : GoodIn wsX5_press wsX5_in := goodIn_r _ [15] (by decide +kernel) (by decide +kernel)
set_option maxRecDepth 20000 in
theorem gX5_press_X5_in : GoodIn wsX5_press (va_wsS RX5 72 yX5_in wsX5_in) := goodIn_app (goodIn_of _ (by decide +kernel)) ggX5_press_X5_in
set_option maxRecDepth 20000 in
theorem ggX5_press_X5_fails : GoodIn wsX5_press wsX5_fails := goodIn_r _ [19, 1, 36, 37, 38, 39, 40, 41, 42, 43, 44, 45, 46, 47, 48, 49, 50, 51, 52, 53, 54, 55, 56, 57, 58] (by decide +kernel) (by decide +kernel)
set_option maxRecDepth 20000 in
theorem gX5_press_X5_fails : GoodIn wsX5_press (wsV RX5 83 RX5 yX5_fails wsX5_fails) := goodIn_app (goodIn_of _ (by decide +kernel)) ggX5_press_X5_fails
set_option maxRecDepth 20000 in
theorem ggX5_press_X5_isQuiet : GoodIn wsX5_press wsX5_isQuiet := goodIn_r _ [23, 24, 25, 26, 36, 37, 38, 39, 40, 41, 42, 43, 44, 45, 46, 47, 48, 49, 50, 51, 52, 53, 54, 55, 56, 57, 58] (by decide +kernel) (by decide +kernel)
set_option maxRecDepth 20000 in
theorem gX5_press_X5_isQuiet : GoodIn wsX5_press (wsV RX5 99 RX5 yX5_isQuiet wsX5_isQuiet) := goodIn_app (goodIn_of _ (by decide +kernel)) ggX5_press_X5_isQuiet
set_option maxRecDepth 20000 in
theorem ggX5_press_X5_breaks : GoodIn wsX5_press wsX5_breaks := goodIn_r _ [30, 3, 4, 36, 37, 38, 39, 40, 41, 42, 43, 44, 45, 46, 47, 48, 49, 50, 51, 52, 53, 54, 55, 56, 57, 58] (by decide +kernel) (by decide +kernel)
set_option maxRecDepth 20000 in
theorem gX5_press_X5_breaks : GoodIn wsX5_press (wsV RX5 102 RX5 yX5_breaks wsX5_breaks) := goodIn_app (goodIn_of _ (by decide +kernel)) ggX5_press_X5_breaks
set_option maxRecDepth 20000 in
theorem ggX5_press_X5_begins : GoodIn wsX5_press wsX5_begins := goodIn_r _ [34, 4, 24, 35, 2, 36, 37, 38, 39, 40, 41, 42, 43, 44, 45, 46, 47, 48, 49, 50, 51, 52, 53, 54, 55, 56, 57, 58] (by decide +kernel) (by decide +kernel)
set_option maxRecDepth 20000 in
theorem gX5_press_X5_begins : GoodIn wsX5_press (wsV RX5 106 RX5 yX5_begins wsX5_begins) := goodIn_app (goodIn_of _ (by decide +kernel)) ggX5_press_X5_begins
theorem dX5_press_0 : decode cX5_press 0 = .ok (.aload_n 0, 1) := by decide +kernel
theorem dX5_press_1 : decode cX5_press 1 = .ok (.iload_n 1, 1) := by decide +kernel
theorem dX5_press_2 : decode cX5_press 2 = .ok (.invokestatic 79, 3) := by decide +kernel
theorem dX5_press_5 : decode cX5_press 5 = .ok (.ifCond .eq 12, 3) := by decide +kernel
theorem dX5_press_8 : decode cX5_press 8 = .ok (.iload_n 2, 1) := by decide +kernel
theorem dX5_press_9 : decode cX5_press 9 = .ok (.iconst 0, 1) := by decide +kernel
theorem dX5_press_10 : decode cX5_press 10 = .ok (.iconst 2, 1) := by decide +kernel
theorem dX5_press_11 : decode cX5_press 11 = .ok (.invokestatic 72, 3) := by decide +kernel
theorem dX5_press_14 : decode cX5_press 14 = .ok (.ifCond .ne 7, 3) := by decide +kernel
theorem dX5_press_17 : decode cX5_press 17 = .ok (.iconst 1, 1) := by decide +kernel
theorem dX5_press_18 : decode cX5_press 18 = .ok (.goto 4, 3) := by decide +kernel
theorem dX5_press_21 : decode cX5_press 21 = .ok (.iconst 0, 1) := by decide +kernel
theorem dX5_press_22 : decode cX5_press 22 = .ok (.putfield 68, 3) := by decide +kernel
theorem dX5_press_25 : decode cX5_press 25 = .ok (.aload_n 0, 1) := by decide +kernel
theorem dX5_press_26 : decode cX5_press 26 = .ok (.getfield 68, 3) := by decide +kernel
theorem dX5_press_29 : decode cX5_press 29 = .ok (.ifCond .le 5, 3) := by decide +kernel
theorem dX5_press_32 : decode cX5_press 32 = .ok (.iconst 0, 1) := by decide +kernel
theorem dX5_press_33 : decode cX5_press 33 = .ok (.ireturn, 1) := by decide +kernel
theorem dX5_press_34 : decode cX5_press 34 = .ok (.iconst 3, 1) := by decide +kernel
theorem dX5_press_35 : decode cX5_press 35 = .ok (.iload_n 1, 1) := by decide +kernel
theorem dX5_press_36 : decode cX5_press 36 = .ok (.imul, 1) := by decide +kernel
theorem dX5_press_37 : decode cX5_press 37 = .ok (.iload_n 2, 1) := by decide +kernel
theorem dX5_press_38 : decode cX5_press 38 = .ok (.iadd, 1) := by decide +kernel
theorem dX5_press_39 : decode cX5_press 39 = .ok (.istore_n 3, 1) := by decide +kernel
theorem dX5_press_40 : decode cX5_press 40 = .ok (.aload_n 0, 1) := by decide +kernel
theorem dX5_press_41 : decode cX5_press 41 = .ok (.getfield 20, 3) := by decide +kernel
theorem dX5_press_44 : decode cX5_press 44 = .ok (.iload_n 3, 1) := by decide +kernel
theorem dX5_press_45 : decode cX5_press 45 = .ok (.iaload, 1) := by decide +kernel
theorem dX5_press_46 : decode cX5_press 46 = .ok (.ifCond .ne 9, 3) := by decide +kernel
theorem dX5_press_49 : decode cX5_press 49 = .ok (.aload_n 0, 1) := by decide +kernel
theorem dX5_press_50 : decode cX5_press 50 = .ok (.iconst 2, 1) := by decide +kernel
theorem dX5_press_51 : decode cX5_press 51 = .ok (.invokevirtual 83, 3) := by decide +kernel
theorem dX5_press_54 : decode cX5_press 54 = .ok (.ireturn, 1) := by decide +kernel
theorem dX5_press_55 : decode cX5_press 55 = .ok (.aload_n 0, 1) := by decide +kernel
theorem dX5_press_56 : decode cX5_press 56 = .ok (.getfield 38, 3) := by decide +kernel
theorem dX5_press_59 : decode cX5_press 59 = .ok (.iload_n 1, 1) := by decide +kernel
theorem dX5_press_60 : decode cX5_press 60 = .ok (.iaload, 1) := by decide +kernel
theorem dX5_press_61 : decode cX5_press 61 = .ok (.iconst 1, 1) := by decide +kernel
theorem dX5_press_62 : decode cX5_press 62 = .ok (.if_icmp .eq 12, 3) := by decide +kernel
theorem dX5_press_65 : decode cX5_press 65 = .ok (.aload_n 0, 1) := by decide +kernel
theorem dX5_press_66 : decode cX5_press 66 = .ok (.getfield 26, 3) := by decide +kernel
theorem dX5_press_69 : decode cX5_press 69 = .ok (.iload_n 3, 1) := by decide +kernel
theorem dX5_press_70 : decode cX5_press 70 = .ok (.iaload, 1) := by decide +kernel
theorem dX5_press_71 : decode cX5_press 71 = .ok (.ifCond .le 5, 3) := by decide +kernel
theorem dX5_press_74 : decode cX5_press 74 = .ok (.iconst 0, 1) := by decide +kernel
theorem dX5_press_75 : decode cX5_press 75 = .ok (.ireturn, 1) := by decide +kernel
theorem dX5_press_76 : decode cX5_press 76 = .ok (.aload_n 0, 1) := by decide +kernel
theorem dX5_press_77 : decode cX5_press 77 = .ok (.iload_n 1, 1) := by decide +kernel
theorem dX5_press_78 : decode cX5_press 78 = .ok (.invokevirtual 99, 3) := by decide +kernel
theorem dX5_press_81 : decode cX5_press 81 = .ok (.ifCond .eq 15, 3) := by decide +kernel
theorem dX5_press_84 : decode cX5_press 84 = .ok (.aload_n 0, 1) := by decide +kernel
theorem dX5_press_85 : decode cX5_press 85 = .ok (.getfield 50, 3) := by decide +kernel
theorem dX5_press_88 : decode cX5_press 88 = .ok (.iload_n 1, 1) := by decide +kernel
theorem dX5_press_89 : decode cX5_press 89 = .ok (.dup2, 1) := by decide +kernel
theorem dX5_press_90 : decode cX5_press 90 = .ok (.iaload, 1) := by decide +kernel
theorem dX5_press_91 : decode cX5_press 91 = .ok (.iconst 1, 1) := by decide +kernel
theorem dX5_press_92 : decode cX5_press 92 = .ok (.iadd, 1) := by decide +kernel
theorem dX5_press_93 : decode cX5_press 93 = .ok (.iastore, 1) := by decide +kernel
theorem dX5_press_94 : decode cX5_press 94 = .ok (.iconst 2, 1) := by decide +kernel
theorem dX5_press_95 : decode cX5_press 95 = .ok (.ireturn, 1) := by decide +kernel
theorem dX5_press_96 : decode cX5_press 96 = .ok (.bipush 12, 2) := by decide +kernel
theorem dX5_press_98 : decode cX5_press 98 = .ok (.iload_n 1, 1) := by decide +kernel
theorem dX5_press_99 : decode cX5_press 99 = .ok (.imul, 1) := by decide +kernel
theorem dX5_press_100 : decode cX5_press 100 = .ok (.aload_n 0, 1) := by decide +kernel
theorem dX5_press_101 : decode cX5_press 101 = .ok (.getfield 20, 3) := by decide +kernel
theorem dX5_press_104 : decode cX5_press 104 = .ok (.iload_n 3, 1) := by decide +kernel
theorem dX5_press_105 : decode cX5_press 105 = .ok (.iaload, 1) := by decide +kernel
theorem dX5_press_106 : decode cX5_press 106 = .ok (.iadd, 1) := by decide +kernel
theorem dX5_press_107 : decode cX5_press 107 = .ok (.iconst 1, 1) := by decide +kernel
theorem dX5_press_108 : decode cX5_press 108 = .ok (.isub, 1) := by decide +kernel
theorem dX5_press_109 : decode cX5_press 109 = .ok (.istore 4, 2) := by decide +kernel
theorem dX5_press_111 : decode cX5_press 111 = .ok (.aload_n 0, 1) := by decide +kernel
theorem dX5_press_112 : decode cX5_press 112 = .ok (.getfield 7, 3) := by decide +kernel
theorem dX5_press_115 : decode cX5_press 115 = .ok (.aload_n 0, 1) := by decide +kernel
theorem dX5_press_116 : decode cX5_press 116 = .ok (.getfield 20, 3) := by decide +kernel
theorem dX5_press_119 : decode cX5_press 119 = .ok (.iload_n 3, 1) := by decide +kernel
theorem dX5_press_120 : decode cX5_press 120 = .ok (.iaload, 1) := by decide +kernel
theorem dX5_press_121 : decode cX5_press 121 = .ok (.iconst 1, 1) := by decide +kernel
theorem dX5_press_122 : decode cX5_press 122 = .ok (.isub, 1) := by decide +kernel
theorem dX5_press_123 : decode cX5_press 123 = .ok (.iaload, 1) := by decide +kernel
theorem dX5_press_124 : decode cX5_press 124 = .ok (.iload_n 1, 1) := by decide +kernel
theorem dX5_press_125 : decode cX5_press 125 = .ok (.if_icmp .ne 7, 3) := by decide +kernel
theorem dX5_press_128 : decode cX5_press 128 = .ok (.iconst 1, 1) := by decide +kernel
theorem dX5_press_129 : decode cX5_press 129 = .ok (.goto 4, 3) := by decide +kernel
theorem dX5_press_132 : decode cX5_press 132 = .ok (.iconst 0, 1) := by decide +kernel
theorem dX5_press_133 : decode cX5_press 133 = .ok (.istore 5, 2) := by decide +kernel
theorem dX5_press_135 : decode cX5_press 135 = .ok (.iload 5, 2) := by decide +kernel
theorem dX5_press_137 : decode cX5_press 137 = .ok (.ifCond .ne 15, 3) := by decide +kernel
theorem dX5_press_140 : decode cX5_press 140 = .ok (.aload_n 0, 1) := by decide +kernel
theorem dX5_press_141 : decode cX5_press 141 = .ok (.getfield 29, 3) := by decide +kernel
theorem dX5_press_144 : decode cX5_press 144 = .ok (.iload 4, 2) := by decide +kernel
theorem dX5_press_146 : decode cX5_press 146 = .ok (.iaload, 1) := by decide +kernel
theorem dX5_press_147 : decode cX5_press 147 = .ok (.ifCond .ne 5, 3) := by decide +kernel
theorem dX5_press_150 : decode cX5_press 150 = .ok (.iconst 0, 1) := by decide +kernel
theorem dX5_press_151 : decode cX5_press 151 = .ok (.ireturn, 1) := by decide +kernel
theorem dX5_press_152 : decode cX5_press 152 = .ok (.aload_n 0, 1) := by decide +kernel
theorem dX5_press_153 : decode cX5_press 153 = .ok (.getfield 23, 3) := by decide +kernel
theorem dX5_press_156 : decode cX5_press 156 = .ok (.iload_n 3, 1) := by decide +kernel
theorem dX5_press_157 : decode cX5_press 157 = .ok (.iaload, 1) := by decide +kernel
theorem dX5_press_158 : decode cX5_press 158 = .ok (.istore 6, 2) := by decide +kernel
theorem dX5_press_160 : decode cX5_press 160 = .ok (.iconst 0, 1) := by decide +kernel
theorem dX5_press_161 : decode cX5_press 161 = .ok (.istore 7, 2) := by decide +kernel
theorem dX5_press_163 : decode cX5_press 163 = .ok (.iload 7, 2) := by decide +kernel
theorem dX5_press_165 : decode cX5_press 165 = .ok (.iconst 3, 1) := by decide +kernel
theorem dX5_press_166 : decode cX5_press 166 = .ok (.if_icmp .ge 43, 3) := by decide +kernel
theorem dX5_press_169 : decode cX5_press 169 = .ok (.iload 6, 2) := by decide +kernel
theorem dX5_press_171 : decode cX5_press 171 = .ok (.aload_n 0, 1) := by decide +kernel
theorem dX5_press_172 : decode cX5_press 172 = .ok (.getfield 26, 3) := by decide +kernel
theorem dX5_press_175 : decode cX5_press 175 = .ok (.iconst 3, 1) := by decide +kernel
theorem dX5_press_176 : decode cX5_press 176 = .ok (.iload_n 1, 1) := by decide +kernel
theorem dX5_press_177 : decode cX5_press 177 = .ok (.imul, 1) := by decide +kernel
theorem dX5_press_178 : decode cX5_press 178 = .ok (.iload 7, 2) := by decide +kernel
theorem dX5_press_180 : decode cX5_press 180 = .ok (.iadd, 1) := by decide +kernel
theorem dX5_press_181 : decode cX5_press 181 = .ok (.iaload, 1) := by decide +kernel
theorem dX5_press_182 : decode cX5_press 182 = .ok (.ifCond .le 17, 3) := by decide +kernel
theorem dX5_press_185 : decode cX5_press 185 = .ok (.aload_n 0, 1) := by decide +kernel
theorem dX5_press_186 : decode cX5_press 186 = .ok (.getfield 23, 3) := by decide +kernel
theorem dX5_press_189 : decode cX5_press 189 = .ok (.iconst 3, 1) := by decide +kernel
theorem dX5_press_190 : decode cX5_press 190 = .ok (.iload_n 1, 1) := by decide +kernel
theorem dX5_press_191 : decode cX5_press 191 = .ok (.imul, 1) := by decide +kernel
theorem dX5_press_192 : decode cX5_press 192 = .ok (.iload 7, 2) := by decide +kernel
theorem dX5_press_194 : decode cX5_press 194 = .ok (.iadd, 1) := by decide +kernel
theorem dX5_press_195 : decode cX5_press 195 = .ok (.iaload, 1) := by decide +kernel
theorem dX5_press_196 : decode cX5_press 196 = .ok (.goto 4, 3) := by decide +kernel
theorem dX5_press_199 : decode cX5_press 199 = .ok (.iconst 0, 1) := by decide +kernel
theorem dX5_press_200 : decode cX5_press 200 = .ok (.iadd, 1) := by decide +kernel
theorem dX5_press_201 : decode cX5_press 201 = .ok (.istore 6, 2) := by decide +kernel
theorem dX5_press_203 : decode cX5_press 203 = .ok (.iinc 7 1, 3) := by decide +kernel
theorem dX5_press_206 : decode cX5_press 206 = .ok (.goto (-43), 3) := by decide +kernel
theorem dX5_press_209 : decode cX5_press 209 = .ok (.iload 6, 2) := by decide +kernel
theorem dX5_press_211 : decode cX5_press 211 = .ok (.bipush 10, 2) := by decide +kernel
theorem dX5_press_213 : decode cX5_press 213 = .ok (.if_icmp .le 10, 3) := by decide +kernel
theorem dX5_press_216 : decode cX5_press 216 = .ok (.aload_n 0, 1) := by decide +kernel
theorem dX5_press_217 : decode cX5_press 217 = .ok (.iload_n 1, 1) := by decide +kernel
theorem dX5_press_218 : decode cX5_press 218 = .ok (.invokevirtual 102, 3) := by decide +kernel
theorem dX5_press_221 : decode cX5_press 221 = .ok (.iconst 3, 1) := by decide +kernel
theorem dX5_press_222 : decode cX5_press 222 = .ok (.ireturn, 1) := by decide +kernel
theorem dX5_press_223 : decode cX5_press 223 = .ok (.aload_n 0, 1) := by decide +kernel
theorem dX5_press_224 : decode cX5_press 224 = .ok (.getfield 29, 3) := by decide +kernel
theorem dX5_press_227 : decode cX5_press 227 = .ok (.iload 4, 2) := by decide +kernel
theorem dX5_press_229 : decode cX5_press 229 = .ok (.dup2, 1) := by decide +kernel
theorem dX5_press_230 : decode cX5_press 230 = .ok (.iaload, 1) := by decide +kernel
theorem dX5_press_231 : decode cX5_press 231 = .ok (.iload 5, 2) := by decide +kernel
theorem dX5_press_233 : decode cX5_press 233 = .ok (.ifCond .eq 7, 3) := by decide +kernel
theorem dX5_press_236 : decode cX5_press 236 = .ok (.iconst 0, 1) := by decide +kernel
theorem dX5_press_237 : decode cX5_press 237 = .ok (.goto 4, 3) := by decide +kernel
theorem dX5_press_240 : decode cX5_press 240 = .ok (.iconst 1, 1) := by decide +kernel
theorem dX5_press_241 : decode cX5_press 241 = .ok (.isub, 1) := by decide +kernel
theorem dX5_press_242 : decode cX5_press 242 = .ok (.iastore, 1) := by decide +kernel
theorem dX5_press_243 : decode cX5_press 243 = .ok (.aload_n 0, 1) := by decide +kernel
theorem dX5_press_244 : decode cX5_press 244 = .ok (.iload_n 3, 1) := by decide +kernel
theorem dX5_press_245 : decode cX5_press 245 = .ok (.invokevirtual 106, 3) := by decide +kernel
theorem dX5_press_248 : decode cX5_press 248 = .ok (.iconst 1, 1) := by decide +kernel
theorem dX5_press_249 : decode cX5_press 249 = .ok (.ireturn, 1) := by decide +kernel
set_option maxRecDepth 20000 in
theorem ggX5_fault_X5_isHouse : GoodIn wsX5_fault wsX5_isHouse := goodIn_r _ [12, 13, 14, 11, 15] (by decide +kernel) (by decide +kernel)
set_option maxRecDepth 20000 in
theorem gX5_fault_X5_isHouse : GoodIn wsX5_fault (va_wsS RX5 79 yX5_isHouse wsX5_isHouse) := goodIn_app (goodIn_of _ (by decide +kernel)) ggX5_fault_X5_isHouse
set_option maxRecDepth 20000 in
theorem ggX5_fault_X5_begins : GoodIn wsX5_fault wsX5_begins := goodIn_r _ [19, 5, 7, 20, 4, 25, 26, 27, 28, 29, 30, 31, 32, 33, 34, 35, 36, 37, 38, 39, 40, 41, 42, 43, 44, 45, 46, 47] (by decide +kernel) (by decide +kernel)
set_option maxRecDepth 20000 in
theorem gX5_fault_X5_begins : GoodIn wsX5_fault (wsV RX5 106 RX5 yX5_begins wsX5_begins) := goodIn_app (goodIn_of _ (by decide +kernel)) ggX5_fault_X5_begins
set_option maxRecDepth 20000 in
theorem ggX5_fault_X5_breaks : GoodIn wsX5_fault wsX5_breaks := goodIn_r _ [24, 1, 5, 25, 26, 27, 28, 29, 30, 31, 32, 33, 34, 35, 36, 37, 38, 39, 40, 41, 42, 43, 44, 45, 46, 47] (by decide +kernel) (by decide +kernel)
set_option maxRecDepth 20000 in
theorem gX5_fault_X5_breaks : GoodIn wsX5_fault (wsV RX5 102 RX5 yX5_breaks wsX5_breaks) := goodIn_app (goodIn_of _ (by decide +kernel)) ggX5_fault_X5_breaks
theorem dX5_fault_0 : decode cX5_fault 0 = .ok (.aload_n 0, 1) := by decide +kernel
theorem dX5_fault_1 : decode cX5_fault 1 = .ok (.iload_n 1, 1) := by decide +kernel
theorem dX5_fault_2 : decode cX5_fault 2 = .ok (.invokestatic 79, 3) := by decide +kernel
theorem dX5_fault_5 : decode cX5_fault 5 = .ok (.ifCond .ne 7, 3) := by decide +kernel
theorem dX5_fault_8 : decode cX5_fault 8 = .ok (.iconst 1, 1) := by decide +kernel
theorem dX5_fault_9 : decode cX5_fault 9 = .ok (.goto 27, 3) := by decide +kernel
theorem dX5_fault_12 : decode cX5_fault 12 = .ok (.aload_n 0, 1) := by decide +kernel
theorem dX5_fault_13 : decode cX5_fault 13 = .ok (.getfield 38, 3) := by decide +kernel
theorem dX5_fault_16 : decode cX5_fault 16 = .ok (.iload_n 1, 1) := by decide +kernel
theorem dX5_fault_17 : decode cX5_fault 17 = .ok (.iaload, 1) := by decide +kernel
theorem dX5_fault_18 : decode cX5_fault 18 = .ok (.iconst 1, 1) := by decide +kernel
theorem dX5_fault_19 : decode cX5_fault 19 = .ok (.if_icmp .eq 12, 3) := by decide +kernel
theorem dX5_fault_22 : decode cX5_fault 22 = .ok (.aload_n 0, 1) := by decide +kernel
theorem dX5_fault_23 : decode cX5_fault 23 = .ok (.getfield 109, 3) := by decide +kernel
theorem dX5_fault_26 : decode cX5_fault 26 = .ok (.bipush 100, 2) := by decide +kernel
theorem dX5_fault_28 : decode cX5_fault 28 = .ok (.if_icmp .ne 7, 3) := by decide +kernel
theorem dX5_fault_31 : decode cX5_fault 31 = .ok (.iconst 2, 1) := by decide +kernel
theorem dX5_fault_32 : decode cX5_fault 32 = .ok (.goto 4, 3) := by decide +kernel
theorem dX5_fault_35 : decode cX5_fault 35 = .ok (.iconst 0, 1) := by decide +kernel
theorem dX5_fault_36 : decode cX5_fault 36 = .ok (.putfield 68, 3) := by decide +kernel
theorem dX5_fault_39 : decode cX5_fault 39 = .ok (.aload_n 0, 1) := by decide +kernel
theorem dX5_fault_40 : decode cX5_fault 40 = .ok (.getfield 68, 3) := by decide +kernel
theorem dX5_fault_43 : decode cX5_fault 43 = .ok (.ifCond .le 5, 3) := by decide +kernel
theorem dX5_fault_46 : decode cX5_fault 46 = .ok (.iconst 0, 1) := by decide +kernel
theorem dX5_fault_47 : decode cX5_fault 47 = .ok (.ireturn, 1) := by decide +kernel
theorem dX5_fault_48 : decode cX5_fault 48 = .ok (.iconst 0, 1) := by decide +kernel
theorem dX5_fault_49 : decode cX5_fault 49 = .ok (.istore_n 2, 1) := by decide +kernel
theorem dX5_fault_50 : decode cX5_fault 50 = .ok (.bipush 12, 2) := by decide +kernel
theorem dX5_fault_52 : decode cX5_fault 52 = .ok (.iload_n 1, 1) := by decide +kernel
theorem dX5_fault_53 : decode cX5_fault 53 = .ok (.iconst 4, 1) := by decide +kernel
theorem dX5_fault_54 : decode cX5_fault 54 = .ok (.idiv, 1) := by decide +kernel
theorem dX5_fault_55 : decode cX5_fault 55 = .ok (.imul, 1) := by decide +kernel
theorem dX5_fault_56 : decode cX5_fault 56 = .ok (.istore_n 3, 1) := by decide +kernel
theorem dX5_fault_57 : decode cX5_fault 57 = .ok (.iload_n 3, 1) := by decide +kernel
theorem dX5_fault_58 : decode cX5_fault 58 = .ok (.bipush 12, 2) := by decide +kernel
theorem dX5_fault_60 : decode cX5_fault 60 = .ok (.iload_n 1, 1) := by decide +kernel
theorem dX5_fault_61 : decode cX5_fault 61 = .ok (.iconst 4, 1) := by decide +kernel
theorem dX5_fault_62 : decode cX5_fault 62 = .ok (.idiv, 1) := by decide +kernel
theorem dX5_fault_63 : decode cX5_fault 63 = .ok (.imul, 1) := by decide +kernel
theorem dX5_fault_64 : decode cX5_fault 64 = .ok (.bipush 12, 2) := by decide +kernel
theorem dX5_fault_66 : decode cX5_fault 66 = .ok (.iadd, 1) := by decide +kernel
theorem dX5_fault_67 : decode cX5_fault 67 = .ok (.if_icmp .ge 58, 3) := by decide +kernel
theorem dX5_fault_70 : decode cX5_fault 70 = .ok (.aload_n 0, 1) := by decide +kernel
theorem dX5_fault_71 : decode cX5_fault 71 = .ok (.getfield 38, 3) := by decide +kernel
theorem dX5_fault_74 : decode cX5_fault 74 = .ok (.iload_n 3, 1) := by decide +kernel
theorem dX5_fault_75 : decode cX5_fault 75 = .ok (.iconst 3, 1) := by decide +kernel
theorem dX5_fault_76 : decode cX5_fault 76 = .ok (.idiv, 1) := by decide +kernel
theorem dX5_fault_77 : decode cX5_fault 77 = .ok (.iaload, 1) := by decide +kernel
theorem dX5_fault_78 : decode cX5_fault 78 = .ok (.ifCond .ne 41, 3) := by decide +kernel
theorem dX5_fault_81 : decode cX5_fault 81 = .ok (.aload_n 0, 1) := by decide +kernel
theorem dX5_fault_82 : decode cX5_fault 82 = .ok (.getfield 20, 3) := by decide +kernel
theorem dX5_fault_85 : decode cX5_fault 85 = .ok (.iload_n 3, 1) := by decide +kernel
theorem dX5_fault_86 : decode cX5_fault 86 = .ok (.iaload, 1) := by decide +kernel
theorem dX5_fault_87 : decode cX5_fault 87 = .ok (.ifCond .le 32, 3) := by decide +kernel
theorem dX5_fault_90 : decode cX5_fault 90 = .ok (.aload_n 0, 1) := by decide +kernel
theorem dX5_fault_91 : decode cX5_fault 91 = .ok (.getfield 26, 3) := by decide +kernel
theorem dX5_fault_94 : decode cX5_fault 94 = .ok (.iload_n 3, 1) := by decide +kernel
theorem dX5_fault_95 : decode cX5_fault 95 = .ok (.iaload, 1) := by decide +kernel
theorem dX5_fault_96 : decode cX5_fault 96 = .ok (.ifCond .ne 23, 3) := by decide +kernel
theorem dX5_fault_99 : decode cX5_fault 99 = .ok (.aload_n 0, 1) := by decide +kernel
theorem dX5_fault_100 : decode cX5_fault 100 = .ok (.iload_n 3, 1) := by decide +kernel
theorem dX5_fault_101 : decode cX5_fault 101 = .ok (.invokevirtual 106, 3) := by decide +kernel
theorem dX5_fault_104 : decode cX5_fault 104 = .ok (.iload_n 2, 1) := by decide +kernel
theorem dX5_fault_105 : decode cX5_fault 105 = .ok (.iload_n 3, 1) := by decide +kernel
theorem dX5_fault_106 : decode cX5_fault 106 = .ok (.iconst 3, 1) := by decide +kernel
theorem dX5_fault_107 : decode cX5_fault 107 = .ok (.idiv, 1) := by decide +kernel
theorem dX5_fault_108 : decode cX5_fault 108 = .ok (.iload_n 1, 1) := by decide +kernel
theorem dX5_fault_109 : decode cX5_fault 109 = .ok (.if_icmp .ne 7, 3) := by decide +kernel
theorem dX5_fault_112 : decode cX5_fault 112 = .ok (.iconst 0, 1) := by decide +kernel
theorem dX5_fault_113 : decode cX5_fault 113 = .ok (.goto 4, 3) := by decide +kernel
theorem dX5_fault_116 : decode cX5_fault 116 = .ok (.iconst 1, 1) := by decide +kernel
theorem dX5_fault_117 : decode cX5_fault 117 = .ok (.iadd, 1) := by decide +kernel
theorem dX5_fault_118 : decode cX5_fault 118 = .ok (.istore_n 2, 1) := by decide +kernel
theorem dX5_fault_119 : decode cX5_fault 119 = .ok (.iinc 3 1, 3) := by decide +kernel
theorem dX5_fault_122 : decode cX5_fault 122 = .ok (.goto (-65), 3) := by decide +kernel
theorem dX5_fault_125 : decode cX5_fault 125 = .ok (.aload_n 0, 1) := by decide +kernel
theorem dX5_fault_126 : decode cX5_fault 126 = .ok (.iload_n 1, 1) := by decide +kernel
theorem dX5_fault_127 : decode cX5_fault 127 = .ok (.invokevirtual 102, 3) := by decide +kernel
theorem dX5_fault_130 : decode cX5_fault 130 = .ok (.aload_n 0, 1) := by decide +kernel
theorem dX5_fault_131 : decode cX5_fault 131 = .ok (.getfield 65, 3) := by decide +kernel
theorem dX5_fault_134 : decode cX5_fault 134 = .ok (.aload_n 0, 1) := by decide +kernel
theorem dX5_fault_135 : decode cX5_fault 135 = .ok (.getfield 109, 3) := by decide +kernel
theorem dX5_fault_138 : decode cX5_fault 138 = .ok (.bipush 10, 2) := by decide +kernel
theorem dX5_fault_140 : decode cX5_fault 140 = .ok (.aload_n 0, 1) := by decide +kernel
theorem dX5_fault_141 : decode cX5_fault 141 = .ok (.getfield 96, 3) := by decide +kernel
theorem dX5_fault_144 : decode cX5_fault 144 = .ok (.imul, 1) := by decide +kernel
theorem dX5_fault_145 : decode cX5_fault 145 = .ok (.iload_n 1, 1) := by decide +kernel
theorem dX5_fault_146 : decode cX5_fault 146 = .ok (.iadd, 1) := by decide +kernel
theorem dX5_fault_147 : decode cX5_fault 147 = .ok (.iastore, 1) := by decide +kernel
theorem dX5_fault_148 : decode cX5_fault 148 = .ok (.aload_n 0, 1) := by decide +kernel
theorem dX5_fault_149 : decode cX5_fault 149 = .ok (.dup, 1) := by decide +kernel
theorem dX5_fault_150 : decode cX5_fault 150 = .ok (.getfield 109, 3) := by decide +kernel
theorem dX5_fault_153 : decode cX5_fault 153 = .ok (.iconst 1, 1) := by decide +kernel
theorem dX5_fault_154 : decode cX5_fault 154 = .ok (.iadd, 1) := by decide +kernel
theorem dX5_fault_155 : decode cX5_fault 155 = .ok (.putfield 109, 3) := by decide +kernel
theorem dX5_fault_158 : decode cX5_fault 158 = .ok (.aload_n 0, 1) := by decide +kernel
theorem dX5_fault_159 : decode cX5_fault 159 = .ok (.getfield 56, 3) := by decide +kernel
theorem dX5_fault_162 : decode cX5_fault 162 = .ok (.iload_n 1, 1) := by decide +kernel
theorem dX5_fault_163 : decode cX5_fault 163 = .ok (.dup2, 1) := by decide +kernel
theorem dX5_fault_164 : decode cX5_fault 164 = .ok (.iaload, 1) := by decide +kernel
theorem dX5_fault_165 : decode cX5_fault 165 = .ok (.iconst 1, 1) := by decide +kernel
theorem dX5_fault_166 : decode cX5_fault 166 = .ok (.iadd, 1) := by decide +kernel
theorem dX5_fault_167 : decode cX5_fault 167 = .ok (.iastore, 1) := by decide +kernel
theorem dX5_fault_168 : decode cX5_fault 168 = .ok (.iload_n 2, 1) := by decide +kernel
theorem dX5_fault_169 : decode cX5_fault 169 = .ok (.ireturn, 1) := by decide +kernel
set_option maxRecDepth 20000 in
theorem ggX5_repair_X5_isHouse : GoodIn wsX5_repair wsX5_isHouse := goodIn_r _ [9, 10, 11, 8, 12] (by decide +kernel) (by decide +kernel)
set_option maxRecDepth 20000 in
theorem gX5_repair_X5_isHouse : GoodIn wsX5_repair (va_wsS RX5 79 yX5_isHouse wsX5_isHouse) := goodIn_app (goodIn_of _ (by decide +kernel)) ggX5_repair_X5_isHouse
set_option maxRecDepth 20000 in
theorem ggX5_repair_X5_fails : GoodIn wsX5_repair wsX5_fails := goodIn_r _ [16, 1, 17, 18, 19, 20, 21, 22, 23, 24, 25, 26, 27, 28, 29, 30, 31, 32, 33, 34, 35, 36, 37, 38, 39] (by decide +kernel) (by decide +kernel)
set_option maxRecDepth 20000 in
theorem gX5_repair_X5_fails : GoodIn wsX5_repair (wsV RX5 83 RX5 yX5_fails wsX5_fails) := goodIn_app (goodIn_of _ (by decide +kernel)) ggX5_repair_X5_fails
theorem dX5_repair_0 : decode cX5_repair 0 = .ok (.aload_n 0, 1) := by decide +kernel
theorem dX5_repair_1 : decode cX5_repair 1 = .ok (.iload_n 1, 1) := by decide +kernel
theorem dX5_repair_2 : decode cX5_repair 2 = .ok (.invokestatic 79, 3) := by decide +kernel
theorem dX5_repair_5 : decode cX5_repair 5 = .ok (.ifCond .eq 7, 3) := by decide +kernel
theorem dX5_repair_8 : decode cX5_repair 8 = .ok (.iconst 0, 1) := by decide +kernel
theorem dX5_repair_9 : decode cX5_repair 9 = .ok (.goto 4, 3) := by decide +kernel
theorem dX5_repair_12 : decode cX5_repair 12 = .ok (.iconst 1, 1) := by decide +kernel
theorem dX5_repair_13 : decode cX5_repair 13 = .ok (.putfield 68, 3) := by decide +kernel
theorem dX5_repair_16 : decode cX5_repair 16 = .ok (.aload_n 0, 1) := by decide +kernel
theorem dX5_repair_17 : decode cX5_repair 17 = .ok (.getfield 68, 3) := by decide +kernel
theorem dX5_repair_20 : decode cX5_repair 20 = .ok (.ifCond .le 5, 3) := by decide +kernel
theorem dX5_repair_23 : decode cX5_repair 23 = .ok (.iconst 0, 1) := by decide +kernel
theorem dX5_repair_24 : decode cX5_repair 24 = .ok (.ireturn, 1) := by decide +kernel
theorem dX5_repair_25 : decode cX5_repair 25 = .ok (.iload_n 1, 1) := by decide +kernel
theorem dX5_repair_26 : decode cX5_repair 26 = .ok (.iconst 4, 1) := by decide +kernel
theorem dX5_repair_27 : decode cX5_repair 27 = .ok (.idiv, 1) := by decide +kernel
theorem dX5_repair_28 : decode cX5_repair 28 = .ok (.istore_n 2, 1) := by decide +kernel
theorem dX5_repair_29 : decode cX5_repair 29 = .ok (.aload_n 0, 1) := by decide +kernel
theorem dX5_repair_30 : decode cX5_repair 30 = .ok (.getfield 38, 3) := by decide +kernel
theorem dX5_repair_33 : decode cX5_repair 33 = .ok (.iload_n 1, 1) := by decide +kernel
theorem dX5_repair_34 : decode cX5_repair 34 = .ok (.iaload, 1) := by decide +kernel
theorem dX5_repair_35 : decode cX5_repair 35 = .ok (.ifCond .eq 12, 3) := by decide +kernel
theorem dX5_repair_38 : decode cX5_repair 38 = .ok (.aload_n 0, 1) := by decide +kernel
theorem dX5_repair_39 : decode cX5_repair 39 = .ok (.getfield 59, 3) := by decide +kernel
theorem dX5_repair_42 : decode cX5_repair 42 = .ok (.iload_n 2, 1) := by decide +kernel
theorem dX5_repair_43 : decode cX5_repair 43 = .ok (.iaload, 1) := by decide +kernel
theorem dX5_repair_44 : decode cX5_repair 44 = .ok (.ifCond .le 9, 3) := by decide +kernel
theorem dX5_repair_47 : decode cX5_repair 47 = .ok (.aload_n 0, 1) := by decide +kernel
theorem dX5_repair_48 : decode cX5_repair 48 = .ok (.iconst 2, 1) := by decide +kernel
theorem dX5_repair_49 : decode cX5_repair 49 = .ok (.invokevirtual 83, 3) := by decide +kernel
theorem dX5_repair_52 : decode cX5_repair 52 = .ok (.ireturn, 1) := by decide +kernel
theorem dX5_repair_53 : decode cX5_repair 53 = .ok (.aload_n 0, 1) := by decide +kernel
theorem dX5_repair_54 : decode cX5_repair 54 = .ok (.getfield 59, 3) := by decide +kernel
theorem dX5_repair_57 : decode cX5_repair 57 = .ok (.iload_n 2, 1) := by decide +kernel
theorem dX5_repair_58 : decode cX5_repair 58 = .ok (.aload_n 0, 1) := by decide +kernel
theorem dX5_repair_59 : decode cX5_repair 59 = .ok (.getfield 96, 3) := by decide +kernel
theorem dX5_repair_62 : decode cX5_repair 62 = .ok (.bipush 50, 2) := by decide +kernel
theorem dX5_repair_64 : decode cX5_repair 64 = .ok (.iadd, 1) := by decide +kernel
theorem dX5_repair_65 : decode cX5_repair 65 = .ok (.iastore, 1) := by decide +kernel
theorem dX5_repair_66 : decode cX5_repair 66 = .ok (.aload_n 0, 1) := by decide +kernel
theorem dX5_repair_67 : decode cX5_repair 67 = .ok (.getfield 62, 3) := by decide +kernel
theorem dX5_repair_70 : decode cX5_repair 70 = .ok (.iload_n 2, 1) := by decide +kernel
theorem dX5_repair_71 : decode cX5_repair 71 = .ok (.iload_n 1, 1) := by decide +kernel
theorem dX5_repair_72 : decode cX5_repair 72 = .ok (.iastore, 1) := by decide +kernel
theorem dX5_repair_73 : decode cX5_repair 73 = .ok (.aload_n 0, 1) := by decide +kernel
theorem dX5_repair_74 : decode cX5_repair 74 = .ok (.getfield 59, 3) := by decide +kernel
theorem dX5_repair_77 : decode cX5_repair 77 = .ok (.iload_n 2, 1) := by decide +kernel
theorem dX5_repair_78 : decode cX5_repair 78 = .ok (.iaload, 1) := by decide +kernel
theorem dX5_repair_79 : decode cX5_repair 79 = .ok (.ireturn, 1) := by decide +kernel
set_option maxRecDepth 20000 in
theorem ggX5_rings_X5_isQuiet : GoodIn wsX5_rings wsX5_isQuiet := goodIn_r _ [9, 10, 11, 12, 13, 14, 15, 16, 17, 18, 19, 20, 21, 22, 23, 24, 25, 26, 27, 28, 29, 30, 31, 32, 33, 34, 35] (by decide +kernel) (by decide +kernel)
set_option maxRecDepth 20000 in
theorem gX5_rings_X5_isQuiet : GoodIn wsX5_rings (wsV RX5 99 RX5 yX5_isQuiet wsX5_isQuiet) := goodIn_app (goodIn_of _ (by decide +kernel)) ggX5_rings_X5_isQuiet
theorem dX5_rings_0 : decode cX5_rings 0 = .ok (.iconst 0, 1) := by decide +kernel
theorem dX5_rings_1 : decode cX5_rings 1 = .ok (.istore_n 2, 1) := by decide +kernel
theorem dX5_rings_2 : decode cX5_rings 2 = .ok (.iconst 0, 1) := by decide +kernel
theorem dX5_rings_3 : decode cX5_rings 3 = .ok (.istore_n 3, 1) := by decide +kernel
theorem dX5_rings_4 : decode cX5_rings 4 = .ok (.iload_n 3, 1) := by decide +kernel
theorem dX5_rings_5 : decode cX5_rings 5 = .ok (.iconst 3, 1) := by decide +kernel
theorem dX5_rings_6 : decode cX5_rings 6 = .ok (.if_icmp .ge 32, 3) := by decide +kernel
theorem dX5_rings_9 : decode cX5_rings 9 = .ok (.iload_n 2, 1) := by decide +kernel
theorem dX5_rings_10 : decode cX5_rings 10 = .ok (.ifCond .ne 16, 3) := by decide +kernel
theorem dX5_rings_13 : decode cX5_rings 13 = .ok (.aload_n 0, 1) := by decide +kernel
theorem dX5_rings_14 : decode cX5_rings 14 = .ok (.getfield 26, 3) := by decide +kernel
theorem dX5_rings_17 : decode cX5_rings 17 = .ok (.iconst 3, 1) := by decide +kernel
theorem dX5_rings_18 : decode cX5_rings 18 = .ok (.iload_n 1, 1) := by decide +kernel
theorem dX5_rings_19 : decode cX5_rings 19 = .ok (.imul, 1) := by decide +kernel
theorem dX5_rings_20 : decode cX5_rings 20 = .ok (.iload_n 3, 1) := by decide +kernel
theorem dX5_rings_21 : decode cX5_rings 21 = .ok (.iadd, 1) := by decide +kernel
theorem dX5_rings_22 : decode cX5_rings 22 = .ok (.iaload, 1) := by decide +kernel
theorem dX5_rings_23 : decode cX5_rings 23 = .ok (.ifCond .le 7, 3) := by decide +kernel
theorem dX5_rings_26 : decode cX5_rings 26 = .ok (.iconst 1, 1) := by decide +kernel
theorem dX5_rings_27 : decode cX5_rings 27 = .ok (.goto 4, 3) := by decide +kernel
theorem dX5_rings_30 : decode cX5_rings 30 = .ok (.iconst 0, 1) := by decide +kernel
theorem dX5_rings_31 : decode cX5_rings 31 = .ok (.istore_n 2, 1) := by decide +kernel
theorem dX5_rings_32 : decode cX5_rings 32 = .ok (.iinc 3 1, 3) := by decide +kernel
theorem dX5_rings_35 : decode cX5_rings 35 = .ok (.goto (-31), 3) := by decide +kernel
theorem dX5_rings_38 : decode cX5_rings 38 = .ok (.iload_n 2, 1) := by decide +kernel
theorem dX5_rings_39 : decode cX5_rings 39 = .ok (.ifCond .eq 59, 3) := by decide +kernel
theorem dX5_rings_42 : decode cX5_rings 42 = .ok (.aload_n 0, 1) := by decide +kernel
theorem dX5_rings_43 : decode cX5_rings 43 = .ok (.getfield 44, 3) := by decide +kernel
theorem dX5_rings_46 : decode cX5_rings 46 = .ok (.iload_n 1, 1) := by decide +kernel
theorem dX5_rings_47 : decode cX5_rings 47 = .ok (.dup2, 1) := by decide +kernel
theorem dX5_rings_48 : decode cX5_rings 48 = .ok (.iaload, 1) := by decide +kernel
theorem dX5_rings_49 : decode cX5_rings 49 = .ok (.iconst 1, 1) := by decide +kernel
theorem dX5_rings_50 : decode cX5_rings 50 = .ok (.iadd, 1) := by decide +kernel
theorem dX5_rings_51 : decode cX5_rings 51 = .ok (.iastore, 1) := by decide +kernel
theorem dX5_rings_52 : decode cX5_rings 52 = .ok (.aload_n 0, 1) := by decide +kernel
theorem dX5_rings_53 : decode cX5_rings 53 = .ok (.getfield 47, 3) := by decide +kernel
theorem dX5_rings_56 : decode cX5_rings 56 = .ok (.iload_n 1, 1) := by decide +kernel
theorem dX5_rings_57 : decode cX5_rings 57 = .ok (.dup2, 1) := by decide +kernel
theorem dX5_rings_58 : decode cX5_rings 58 = .ok (.iaload, 1) := by decide +kernel
theorem dX5_rings_59 : decode cX5_rings 59 = .ok (.aload_n 0, 1) := by decide +kernel
theorem dX5_rings_60 : decode cX5_rings 60 = .ok (.iload_n 1, 1) := by decide +kernel
theorem dX5_rings_61 : decode cX5_rings 61 = .ok (.invokevirtual 99, 3) := by decide +kernel
theorem dX5_rings_64 : decode cX5_rings 64 = .ok (.ifCond .eq 7, 3) := by decide +kernel
theorem dX5_rings_67 : decode cX5_rings 67 = .ok (.iconst 1, 1) := by decide +kernel
theorem dX5_rings_68 : decode cX5_rings 68 = .ok (.goto 4, 3) := by decide +kernel
theorem dX5_rings_71 : decode cX5_rings 71 = .ok (.iconst 0, 1) := by decide +kernel
theorem dX5_rings_72 : decode cX5_rings 72 = .ok (.iadd, 1) := by decide +kernel
theorem dX5_rings_73 : decode cX5_rings 73 = .ok (.iastore, 1) := by decide +kernel
theorem dX5_rings_74 : decode cX5_rings 74 = .ok (.aload_n 0, 1) := by decide +kernel
theorem dX5_rings_75 : decode cX5_rings 75 = .ok (.getfield 53, 3) := by decide +kernel
theorem dX5_rings_78 : decode cX5_rings 78 = .ok (.iload_n 1, 1) := by decide +kernel
theorem dX5_rings_79 : decode cX5_rings 79 = .ok (.aload_n 0, 1) := by decide +kernel
theorem dX5_rings_80 : decode cX5_rings 80 = .ok (.iload_n 1, 1) := by decide +kernel
theorem dX5_rings_81 : decode cX5_rings 81 = .ok (.invokevirtual 99, 3) := by decide +kernel
theorem dX5_rings_84 : decode cX5_rings 84 = .ok (.ifCond .eq 7, 3) := by decide +kernel
theorem dX5_rings_87 : decode cX5_rings 87 = .ok (.iconst 1, 1) := by decide +kernel
theorem dX5_rings_88 : decode cX5_rings 88 = .ok (.goto 9, 3) := by decide +kernel
theorem dX5_rings_91 : decode cX5_rings 91 = .ok (.aload_n 0, 1) := by decide +kernel
theorem dX5_rings_92 : decode cX5_rings 92 = .ok (.getfield 53, 3) := by decide +kernel
theorem dX5_rings_95 : decode cX5_rings 95 = .ok (.iload_n 1, 1) := by decide +kernel
theorem dX5_rings_96 : decode cX5_rings 96 = .ok (.iaload, 1) := by decide +kernel
theorem dX5_rings_97 : decode cX5_rings 97 = .ok (.iastore, 1) := by decide +kernel
theorem dX5_rings_98 : decode cX5_rings 98 = .ok (.return_, 1) := by decide +kernel
set_option maxRecDepth 20000 in
theorem ggX5_second_X5_rings : GoodIn wsX5_second wsX5_rings := goodIn_r _ [13, 2, 14, 15, 7, 16, 17, 18, 12, 19, 1, 20, 21, 22, 23, 24, 25, 26, 27, 28, 29, 30, 31, 32, 33, 34, 35, 36, 37, 38, 39, 40, 41, 42, 43, 44] (by decide +kernel) (by decide +kernel)
set_option maxRecDepth 20000 in
theorem gX5_second_X5_rings : GoodIn wsX5_second (wsV RX5 112 RX5 yX5_rings wsX5_rings) := goodIn_app (goodIn_of _ (by decide +kernel)) ggX5_second_X5_rings
theorem dX5_second_0 : decode cX5_second 0 = .ok (.iconst 0, 1) := by decide +kernel
theorem dX5_second_1 : decode cX5_second 1 = .ok (.istore_n 1, 1) := by decide +kernel
theorem dX5_second_2 : decode cX5_second 2 = .ok (.iload_n 1, 1) := by decide +kernel
theorem dX5_second_3 : decode cX5_second 3 = .ok (.bipush 8, 2) := by decide +kernel
theorem dX5_second_5 : decode cX5_second 5 = .ok (.if_icmp .ge 14, 3) := by decide +kernel
theorem dX5_second_8 : decode cX5_second 8 = .ok (.aload_n 0, 1) := by decide +kernel
theorem dX5_second_9 : decode cX5_second 9 = .ok (.iload_n 1, 1) := by decide +kernel
theorem dX5_second_10 : decode cX5_second 10 = .ok (.invokevirtual 112, 3) := by decide +kernel
theorem dX5_second_13 : decode cX5_second 13 = .ok (.iinc 1 1, 3) := by decide +kernel
theorem dX5_second_16 : decode cX5_second 16 = .ok (.goto (-14), 3) := by decide +kernel
theorem dX5_second_19 : decode cX5_second 19 = .ok (.aload_n 0, 1) := by decide +kernel
theorem dX5_second_20 : decode cX5_second 20 = .ok (.dup, 1) := by decide +kernel
theorem dX5_second_21 : decode cX5_second 21 = .ok (.getfield 96, 3) := by decide +kernel
theorem dX5_second_24 : decode cX5_second 24 = .ok (.iconst 1, 1) := by decide +kernel
theorem dX5_second_25 : decode cX5_second 25 = .ok (.iadd, 1) := by decide +kernel
theorem dX5_second_26 : decode cX5_second 26 = .ok (.putfield 96, 3) := by decide +kernel
theorem dX5_second_29 : decode cX5_second 29 = .ok (.iconst 0, 1) := by decide +kernel
theorem dX5_second_30 : decode cX5_second 30 = .ok (.istore_n 1, 1) := by decide +kernel
theorem dX5_second_31 : decode cX5_second 31 = .ok (.iload_n 1, 1) := by decide +kernel
theorem dX5_second_32 : decode cX5_second 32 = .ok (.bipush 24, 2) := by decide +kernel
theorem dX5_second_34 : decode cX5_second 34 = .ok (.if_icmp .ge 38, 3) := by decide +kernel
theorem dX5_second_37 : decode cX5_second 37 = .ok (.aload_n 0, 1) := by decide +kernel
theorem dX5_second_38 : decode cX5_second 38 = .ok (.getfield 26, 3) := by decide +kernel
theorem dX5_second_41 : decode cX5_second 41 = .ok (.iload_n 1, 1) := by decide +kernel
theorem dX5_second_42 : decode cX5_second 42 = .ok (.aload_n 0, 1) := by decide +kernel
theorem dX5_second_43 : decode cX5_second 43 = .ok (.getfield 26, 3) := by decide +kernel
theorem dX5_second_46 : decode cX5_second 46 = .ok (.iload_n 1, 1) := by decide +kernel
theorem dX5_second_47 : decode cX5_second 47 = .ok (.iaload, 1) := by decide +kernel
theorem dX5_second_48 : decode cX5_second 48 = .ok (.aload_n 0, 1) := by decide +kernel
theorem dX5_second_49 : decode cX5_second 49 = .ok (.getfield 96, 3) := by decide +kernel
theorem dX5_second_52 : decode cX5_second 52 = .ok (.if_icmp .gt 7, 3) := by decide +kernel
theorem dX5_second_55 : decode cX5_second 55 = .ok (.iconst 0, 1) := by decide +kernel
theorem dX5_second_56 : decode cX5_second 56 = .ok (.goto 9, 3) := by decide +kernel
theorem dX5_second_59 : decode cX5_second 59 = .ok (.aload_n 0, 1) := by decide +kernel
theorem dX5_second_60 : decode cX5_second 60 = .ok (.getfield 26, 3) := by decide +kernel
theorem dX5_second_63 : decode cX5_second 63 = .ok (.iload_n 1, 1) := by decide +kernel
theorem dX5_second_64 : decode cX5_second 64 = .ok (.iaload, 1) := by decide +kernel
theorem dX5_second_65 : decode cX5_second 65 = .ok (.iastore, 1) := by decide +kernel
theorem dX5_second_66 : decode cX5_second 66 = .ok (.iinc 1 1, 3) := by decide +kernel
theorem dX5_second_69 : decode cX5_second 69 = .ok (.goto (-38), 3) := by decide +kernel
theorem dX5_second_72 : decode cX5_second 72 = .ok (.iconst 0, 1) := by decide +kernel
theorem dX5_second_73 : decode cX5_second 73 = .ok (.istore_n 1, 1) := by decide +kernel
theorem dX5_second_74 : decode cX5_second 74 = .ok (.iload_n 1, 1) := by decide +kernel
theorem dX5_second_75 : decode cX5_second 75 = .ok (.iconst 2, 1) := by decide +kernel
theorem dX5_second_76 : decode cX5_second 76 = .ok (.if_icmp .ge 41, 3) := by decide +kernel
theorem dX5_second_79 : decode cX5_second 79 = .ok (.aload_n 0, 1) := by decide +kernel
theorem dX5_second_80 : decode cX5_second 80 = .ok (.getfield 59, 3) := by decide +kernel
theorem dX5_second_83 : decode cX5_second 83 = .ok (.iload_n 1, 1) := by decide +kernel
theorem dX5_second_84 : decode cX5_second 84 = .ok (.iaload, 1) := by decide +kernel
theorem dX5_second_85 : decode cX5_second 85 = .ok (.aload_n 0, 1) := by decide +kernel
theorem dX5_second_86 : decode cX5_second 86 = .ok (.getfield 96, 3) := by decide +kernel
theorem dX5_second_89 : decode cX5_second 89 = .ok (.if_icmp .ne 22, 3) := by decide +kernel
theorem dX5_second_92 : decode cX5_second 92 = .ok (.aload_n 0, 1) := by decide +kernel
theorem dX5_second_93 : decode cX5_second 93 = .ok (.getfield 38, 3) := by decide +kernel
theorem dX5_second_96 : decode cX5_second 96 = .ok (.aload_n 0, 1) := by decide +kernel
theorem dX5_second_97 : decode cX5_second 97 = .ok (.getfield 62, 3) := by decide +kernel
theorem dX5_second_100 : decode cX5_second 100 = .ok (.iload_n 1, 1) := by decide +kernel
theorem dX5_second_101 : decode cX5_second 101 = .ok (.iaload, 1) := by decide +kernel
theorem dX5_second_102 : decode cX5_second 102 = .ok (.iconst 0, 1) := by decide +kernel
theorem dX5_second_103 : decode cX5_second 103 = .ok (.iastore, 1) := by decide +kernel
theorem dX5_second_104 : decode cX5_second 104 = .ok (.aload_n 0, 1) := by decide +kernel
theorem dX5_second_105 : decode cX5_second 105 = .ok (.getfield 59, 3) := by decide +kernel
theorem dX5_second_108 : decode cX5_second 108 = .ok (.iload_n 1, 1) := by decide +kernel
theorem dX5_second_109 : decode cX5_second 109 = .ok (.iconst 0, 1) := by decide +kernel
theorem dX5_second_110 : decode cX5_second 110 = .ok (.iastore, 1) := by decide +kernel
theorem dX5_second_111 : decode cX5_second 111 = .ok (.iinc 1 1, 3) := by decide +kernel
theorem dX5_second_114 : decode cX5_second 114 = .ok (.goto (-40), 3) := by decide +kernel
theorem dX5_second_117 : decode cX5_second 117 = .ok (.iconst 0, 1) := by decide +kernel
theorem dX5_second_118 : decode cX5_second 118 = .ok (.istore_n 1, 1) := by decide +kernel
theorem dX5_second_119 : decode cX5_second 119 = .ok (.iload_n 1, 1) := by decide +kernel
theorem dX5_second_120 : decode cX5_second 120 = .ok (.bipush 8, 2) := by decide +kernel
theorem dX5_second_122 : decode cX5_second 122 = .ok (.if_icmp .ge 60, 3) := by decide +kernel
theorem dX5_second_125 : decode cX5_second 125 = .ok (.aload_n 0, 1) := by decide +kernel
theorem dX5_second_126 : decode cX5_second 126 = .ok (.getfield 96, 3) := by decide +kernel
theorem dX5_second_129 : decode cX5_second 129 = .ok (.sipush 1000, 3) := by decide +kernel
theorem dX5_second_132 : decode cX5_second 132 = .ok (.irem, 1) := by decide +kernel
theorem dX5_second_133 : decode cX5_second 133 = .ok (.ifCond .ne 49, 3) := by decide +kernel
theorem dX5_second_136 : decode cX5_second 136 = .ok (.aload_n 0, 1) := by decide +kernel
theorem dX5_second_137 : decode cX5_second 137 = .ok (.getfield 41, 3) := by decide +kernel
theorem dX5_second_140 : decode cX5_second 140 = .ok (.iload_n 1, 1) := by decide +kernel
theorem dX5_second_141 : decode cX5_second 141 = .ok (.dup2, 1) := by decide +kernel
theorem dX5_second_142 : decode cX5_second 142 = .ok (.iaload, 1) := by decide +kernel
theorem dX5_second_143 : decode cX5_second 143 = .ok (.iconst 1, 1) := by decide +kernel
theorem dX5_second_144 : decode cX5_second 144 = .ok (.aload_n 0, 1) := by decide +kernel
theorem dX5_second_145 : decode cX5_second 145 = .ok (.getfield 53, 3) := by decide +kernel
theorem dX5_second_148 : decode cX5_second 148 = .ok (.iload_n 1, 1) := by decide +kernel
theorem dX5_second_149 : decode cX5_second 149 = .ok (.iaload, 1) := by decide +kernel
theorem dX5_second_150 : decode cX5_second 150 = .ok (.isub, 1) := by decide +kernel
theorem dX5_second_151 : decode cX5_second 151 = .ok (.iconst 3, 1) := by decide +kernel
theorem dX5_second_152 : decode cX5_second 152 = .ok (.aload_n 0, 1) := by decide +kernel
theorem dX5_second_153 : decode cX5_second 153 = .ok (.getfield 56, 3) := by decide +kernel
theorem dX5_second_156 : decode cX5_second 156 = .ok (.iload_n 1, 1) := by decide +kernel
theorem dX5_second_157 : decode cX5_second 157 = .ok (.iaload, 1) := by decide +kernel
theorem dX5_second_158 : decode cX5_second 158 = .ok (.imul, 1) := by decide +kernel
theorem dX5_second_159 : decode cX5_second 159 = .ok (.isub, 1) := by decide +kernel
theorem dX5_second_160 : decode cX5_second 160 = .ok (.iadd, 1) := by decide +kernel
theorem dX5_second_161 : decode cX5_second 161 = .ok (.iastore, 1) := by decide +kernel
theorem dX5_second_162 : decode cX5_second 162 = .ok (.aload_n 0, 1) := by decide +kernel
theorem dX5_second_163 : decode cX5_second 163 = .ok (.getfield 53, 3) := by decide +kernel
theorem dX5_second_166 : decode cX5_second 166 = .ok (.iload_n 1, 1) := by decide +kernel
theorem dX5_second_167 : decode cX5_second 167 = .ok (.iconst 0, 1) := by decide +kernel
theorem dX5_second_168 : decode cX5_second 168 = .ok (.iastore, 1) := by decide +kernel
theorem dX5_second_169 : decode cX5_second 169 = .ok (.aload_n 0, 1) := by decide +kernel
theorem dX5_second_170 : decode cX5_second 170 = .ok (.getfield 56, 3) := by decide +kernel
theorem dX5_second_173 : decode cX5_second 173 = .ok (.iload_n 1, 1) := by decide +kernel
theorem dX5_second_174 : decode cX5_second 174 = .ok (.iconst 0, 1) := by decide +kernel
theorem dX5_second_175 : decode cX5_second 175 = .ok (.iastore, 1) := by decide +kernel
theorem dX5_second_176 : decode cX5_second 176 = .ok (.iinc 1 1, 3) := by decide +kernel
theorem dX5_second_179 : decode cX5_second 179 = .ok (.goto (-60), 3) := by decide +kernel
theorem dX5_second_182 : decode cX5_second 182 = .ok (.return_, 1) := by decide +kernel
set_option maxRecDepth 20000 in
theorem ggX5_pass_X5_in : GoodIn wsX5_pass wsX5_in := goodIn_r _ [7] (by decide +kernel) (by decide +kernel)
set_option maxRecDepth 20000 in
theorem gX5_pass_X5_in : GoodIn wsX5_pass (va_wsS RX5 72 yX5_in wsX5_in) := goodIn_app (goodIn_of _ (by decide +kernel)) ggX5_pass_X5_in
set_option maxRecDepth 20000 in
theorem ggX5_pass_X5_second : GoodIn wsX5_pass wsX5_second := goodIn_r _ [11, 1, 12, 13, 14, 15, 16, 17, 18, 19, 20, 21, 6, 22, 23, 24, 25, 26, 27, 28, 29, 30, 31, 32, 33, 34, 35, 36, 37, 38, 39, 40, 41, 42, 43, 44, 45, 46, 47, 48, 49, 50, 51, 52, 53] (by decide +kernel) (by decide +kernel)
set_option maxRecDepth 20000 in
theorem gX5_pass_X5_second : GoodIn wsX5_pass (wsV RX5 116 RX5 yX5_second wsX5_second) := goodIn_app (goodIn_of _ (by decide +kernel)) ggX5_pass_X5_second
theorem dX5_pass_0 : decode cX5_pass 0 = .ok (.aload_n 0, 1) := by decide +kernel
theorem dX5_pass_1 : decode cX5_pass 1 = .ok (.iload_n 1, 1) := by decide +kernel
theorem dX5_pass_2 : decode cX5_pass 2 = .ok (.iconst 1, 1) := by decide +kernel
theorem dX5_pass_3 : decode cX5_pass 3 = .ok (.sipush 2000, 3) := by decide +kernel
theorem dX5_pass_6 : decode cX5_pass 6 = .ok (.invokestatic 72, 3) := by decide +kernel
theorem dX5_pass_9 : decode cX5_pass 9 = .ok (.ifCond .ne 7, 3) := by decide +kernel
theorem dX5_pass_12 : decode cX5_pass 12 = .ok (.iconst 1, 1) := by decide +kernel
theorem dX5_pass_13 : decode cX5_pass 13 = .ok (.goto 19, 3) := by decide +kernel
theorem dX5_pass_16 : decode cX5_pass 16 = .ok (.aload_n 0, 1) := by decide +kernel
theorem dX5_pass_17 : decode cX5_pass 17 = .ok (.getfield 96, 3) := by decide +kernel
theorem dX5_pass_20 : decode cX5_pass 20 = .ok (.iload_n 1, 1) := by decide +kernel
theorem dX5_pass_21 : decode cX5_pass 21 = .ok (.iadd, 1) := by decide +kernel
theorem dX5_pass_22 : decode cX5_pass 22 = .ok (.ldc 115, 2) := by decide +kernel
theorem dX5_pass_24 : decode cX5_pass 24 = .ok (.if_icmp .le 7, 3) := by decide +kernel
theorem dX5_pass_27 : decode cX5_pass 27 = .ok (.iconst 2, 1) := by decide +kernel
theorem dX5_pass_28 : decode cX5_pass 28 = .ok (.goto 4, 3) := by decide +kernel
theorem dX5_pass_31 : decode cX5_pass 31 = .ok (.iconst 0, 1) := by decide +kernel
theorem dX5_pass_32 : decode cX5_pass 32 = .ok (.putfield 68, 3) := by decide +kernel
theorem dX5_pass_35 : decode cX5_pass 35 = .ok (.aload_n 0, 1) := by decide +kernel
theorem dX5_pass_36 : decode cX5_pass 36 = .ok (.getfield 68, 3) := by decide +kernel
theorem dX5_pass_39 : decode cX5_pass 39 = .ok (.ifCond .le 5, 3) := by decide +kernel
theorem dX5_pass_42 : decode cX5_pass 42 = .ok (.iconst 0, 1) := by decide +kernel
theorem dX5_pass_43 : decode cX5_pass 43 = .ok (.ireturn, 1) := by decide +kernel
theorem dX5_pass_44 : decode cX5_pass 44 = .ok (.iconst 0, 1) := by decide +kernel
theorem dX5_pass_45 : decode cX5_pass 45 = .ok (.istore_n 2, 1) := by decide +kernel
theorem dX5_pass_46 : decode cX5_pass 46 = .ok (.iload_n 2, 1) := by decide +kernel
theorem dX5_pass_47 : decode cX5_pass 47 = .ok (.iload_n 1, 1) := by decide +kernel
theorem dX5_pass_48 : decode cX5_pass 48 = .ok (.if_icmp .ge 13, 3) := by decide +kernel
theorem dX5_pass_51 : decode cX5_pass 51 = .ok (.aload_n 0, 1) := by decide +kernel
theorem dX5_pass_52 : decode cX5_pass 52 = .ok (.invokevirtual 116, 3) := by decide +kernel
theorem dX5_pass_55 : decode cX5_pass 55 = .ok (.iinc 2 1, 3) := by decide +kernel
theorem dX5_pass_58 : decode cX5_pass 58 = .ok (.goto (-12), 3) := by decide +kernel
theorem dX5_pass_61 : decode cX5_pass 61 = .ok (.aload_n 0, 1) := by decide +kernel
theorem dX5_pass_62 : decode cX5_pass 62 = .ok (.getfield 96, 3) := by decide +kernel
theorem dX5_pass_65 : decode cX5_pass 65 = .ok (.ireturn, 1) := by decide +kernel
theorem dX5_time_0 : decode cX5_time 0 = .ok (.aload_n 0, 1) := by decide +kernel
theorem dX5_time_1 : decode cX5_time 1 = .ok (.iconst 0, 1) := by decide +kernel
theorem dX5_time_2 : decode cX5_time 2 = .ok (.putfield 68, 3) := by decide +kernel
theorem dX5_time_5 : decode cX5_time 5 = .ok (.aload_n 0, 1) := by decide +kernel
theorem dX5_time_6 : decode cX5_time 6 = .ok (.getfield 96, 3) := by decide +kernel
theorem dX5_time_9 : decode cX5_time 9 = .ok (.ireturn, 1) := by decide +kernel
set_option maxRecDepth 20000 in
theorem ggX5_isSeen_X5_isHouse : GoodIn wsX5_isSeen wsX5_isHouse := goodIn_r _ [5, 6, 7, 4, 8] (by decide +kernel) (by decide +kernel)
set_option maxRecDepth 20000 in
theorem gX5_isSeen_X5_isHouse : GoodIn wsX5_isSeen (va_wsS RX5 79 yX5_isHouse wsX5_isHouse) := goodIn_app (goodIn_of _ (by decide +kernel)) ggX5_isSeen_X5_isHouse
theorem dX5_isSeen_0 : decode cX5_isSeen 0 = .ok (.aload_n 0, 1) := by decide +kernel
theorem dX5_isSeen_1 : decode cX5_isSeen 1 = .ok (.iload_n 1, 1) := by decide +kernel
theorem dX5_isSeen_2 : decode cX5_isSeen 2 = .ok (.invokestatic 79, 3) := by decide +kernel
theorem dX5_isSeen_5 : decode cX5_isSeen 5 = .ok (.ifCond .eq 7, 3) := by decide +kernel
theorem dX5_isSeen_8 : decode cX5_isSeen 8 = .ok (.iconst 0, 1) := by decide +kernel
theorem dX5_isSeen_9 : decode cX5_isSeen 9 = .ok (.goto 4, 3) := by decide +kernel
theorem dX5_isSeen_12 : decode cX5_isSeen 12 = .ok (.iconst 1, 1) := by decide +kernel
theorem dX5_isSeen_13 : decode cX5_isSeen 13 = .ok (.putfield 68, 3) := by decide +kernel
theorem dX5_isSeen_16 : decode cX5_isSeen 16 = .ok (.aload_n 0, 1) := by decide +kernel
theorem dX5_isSeen_17 : decode cX5_isSeen 17 = .ok (.getfield 68, 3) := by decide +kernel
theorem dX5_isSeen_20 : decode cX5_isSeen 20 = .ok (.ifCond .ne 7, 3) := by decide +kernel
theorem dX5_isSeen_23 : decode cX5_isSeen 23 = .ok (.iconst 1, 1) := by decide +kernel
theorem dX5_isSeen_24 : decode cX5_isSeen 24 = .ok (.goto 4, 3) := by decide +kernel
theorem dX5_isSeen_27 : decode cX5_isSeen 27 = .ok (.iconst 0, 1) := by decide +kernel
theorem dX5_isSeen_28 : decode cX5_isSeen 28 = .ok (.ireturn, 1) := by decide +kernel
set_option maxRecDepth 20000 in
theorem ggX5_ringing_X5_isSeen : GoodIn wsX5_ringing wsX5_isSeen := goodIn_r _ [6, 7, 8, 9, 5, 10, 11, 12, 13, 14, 15, 16, 17, 18, 19, 20, 21, 22, 23, 24, 25, 26, 27, 28, 29, 30, 31, 32, 33, 34, 35, 36] (by decide +kernel) (by decide +kernel)
set_option maxRecDepth 20000 in
theorem gX5_ringing_X5_isSeen : GoodIn wsX5_ringing (wsV RX5 119 RX5 yX5_isSeen wsX5_isSeen) := goodIn_app (goodIn_of _ (by decide +kernel)) ggX5_ringing_X5_isSeen
theorem dX5_ringing_0 : decode cX5_ringing 0 = .ok (.aload_n 0, 1) := by decide +kernel
theorem dX5_ringing_1 : decode cX5_ringing 1 = .ok (.iload_n 1, 1) := by decide +kernel
theorem dX5_ringing_2 : decode cX5_ringing 2 = .ok (.invokevirtual 119, 3) := by decide +kernel
theorem dX5_ringing_5 : decode cX5_ringing 5 = .ok (.ifCond .ne 5, 3) := by decide +kernel
theorem dX5_ringing_8 : decode cX5_ringing 8 = .ok (.iconst 0, 1) := by decide +kernel
theorem dX5_ringing_9 : decode cX5_ringing 9 = .ok (.ireturn, 1) := by decide +kernel
theorem dX5_ringing_10 : decode cX5_ringing 10 = .ok (.iconst 0, 1) := by decide +kernel
theorem dX5_ringing_11 : decode cX5_ringing 11 = .ok (.istore_n 2, 1) := by decide +kernel
theorem dX5_ringing_12 : decode cX5_ringing 12 = .ok (.iconst 0, 1) := by decide +kernel
theorem dX5_ringing_13 : decode cX5_ringing 13 = .ok (.istore_n 3, 1) := by decide +kernel
theorem dX5_ringing_14 : decode cX5_ringing 14 = .ok (.iload_n 3, 1) := by decide +kernel
theorem dX5_ringing_15 : decode cX5_ringing 15 = .ok (.iconst 3, 1) := by decide +kernel
theorem dX5_ringing_16 : decode cX5_ringing 16 = .ok (.if_icmp .ge 32, 3) := by decide +kernel
theorem dX5_ringing_19 : decode cX5_ringing 19 = .ok (.iload_n 2, 1) := by decide +kernel
theorem dX5_ringing_20 : decode cX5_ringing 20 = .ok (.aload_n 0, 1) := by decide +kernel
theorem dX5_ringing_21 : decode cX5_ringing 21 = .ok (.getfield 26, 3) := by decide +kernel
theorem dX5_ringing_24 : decode cX5_ringing 24 = .ok (.iconst 3, 1) := by decide +kernel
theorem dX5_ringing_25 : decode cX5_ringing 25 = .ok (.iload_n 1, 1) := by decide +kernel
theorem dX5_ringing_26 : decode cX5_ringing 26 = .ok (.imul, 1) := by decide +kernel
theorem dX5_ringing_27 : decode cX5_ringing 27 = .ok (.iload_n 3, 1) := by decide +kernel
theorem dX5_ringing_28 : decode cX5_ringing 28 = .ok (.iadd, 1) := by decide +kernel
theorem dX5_ringing_29 : decode cX5_ringing 29 = .ok (.iaload, 1) := by decide +kernel
theorem dX5_ringing_30 : decode cX5_ringing 30 = .ok (.ifCond .le 9, 3) := by decide +kernel
theorem dX5_ringing_33 : decode cX5_ringing 33 = .ok (.iconst 1, 1) := by decide +kernel
theorem dX5_ringing_34 : decode cX5_ringing 34 = .ok (.iload_n 3, 1) := by decide +kernel
theorem dX5_ringing_35 : decode cX5_ringing 35 = .ok (.ishl, 1) := by decide +kernel
theorem dX5_ringing_36 : decode cX5_ringing 36 = .ok (.goto 4, 3) := by decide +kernel
theorem dX5_ringing_39 : decode cX5_ringing 39 = .ok (.iconst 0, 1) := by decide +kernel
theorem dX5_ringing_40 : decode cX5_ringing 40 = .ok (.ior, 1) := by decide +kernel
theorem dX5_ringing_41 : decode cX5_ringing 41 = .ok (.istore_n 2, 1) := by decide +kernel
theorem dX5_ringing_42 : decode cX5_ringing 42 = .ok (.iinc 3 1, 3) := by decide +kernel
theorem dX5_ringing_45 : decode cX5_ringing 45 = .ok (.goto (-31), 3) := by decide +kernel
theorem dX5_ringing_48 : decode cX5_ringing 48 = .ok (.iload_n 2, 1) := by decide +kernel
theorem dX5_ringing_49 : decode cX5_ringing 49 = .ok (.ireturn, 1) := by decide +kernel
set_option maxRecDepth 20000 in
theorem ggX5_isSound_X5_isSeen : GoodIn wsX5_isSound wsX5_isSeen := goodIn_r _ [6, 7, 8, 9, 5, 10, 11, 12, 13, 14, 15, 16, 17, 18, 19, 20, 21, 22, 23, 24, 25, 26, 27, 28, 29, 30, 31, 32, 33, 34, 35, 36] (by decide +kernel) (by decide +kernel)
set_option maxRecDepth 20000 in
theorem gX5_isSound_X5_isSeen : GoodIn wsX5_isSound (wsV RX5 119 RX5 yX5_isSeen wsX5_isSeen) := goodIn_app (goodIn_of _ (by decide +kernel)) ggX5_isSound_X5_isSeen
theorem dX5_isSound_0 : decode cX5_isSound 0 = .ok (.aload_n 0, 1) := by decide +kernel
theorem dX5_isSound_1 : decode cX5_isSound 1 = .ok (.iload_n 1, 1) := by decide +kernel
theorem dX5_isSound_2 : decode cX5_isSound 2 = .ok (.invokevirtual 119, 3) := by decide +kernel
theorem dX5_isSound_5 : decode cX5_isSound 5 = .ok (.ifCond .eq 16, 3) := by decide +kernel
theorem dX5_isSound_8 : decode cX5_isSound 8 = .ok (.aload_n 0, 1) := by decide +kernel
theorem dX5_isSound_9 : decode cX5_isSound 9 = .ok (.getfield 38, 3) := by decide +kernel
theorem dX5_isSound_12 : decode cX5_isSound 12 = .ok (.iload_n 1, 1) := by decide +kernel
theorem dX5_isSound_13 : decode cX5_isSound 13 = .ok (.iaload, 1) := by decide +kernel
theorem dX5_isSound_14 : decode cX5_isSound 14 = .ok (.ifCond .ne 7, 3) := by decide +kernel
theorem dX5_isSound_17 : decode cX5_isSound 17 = .ok (.iconst 1, 1) := by decide +kernel
theorem dX5_isSound_18 : decode cX5_isSound 18 = .ok (.goto 4, 3) := by decide +kernel
theorem dX5_isSound_21 : decode cX5_isSound 21 = .ok (.iconst 0, 1) := by decide +kernel
theorem dX5_isSound_22 : decode cX5_isSound 22 = .ok (.ireturn, 1) := by decide +kernel
set_option maxRecDepth 20000 in
theorem ggX5_ringsLeft_X5_isHouse : GoodIn wsX5_ringsLeft wsX5_isHouse := goodIn_r _ [8, 9, 10, 7, 11] (by decide +kernel) (by decide +kernel)
end
section
set_option maxRecDepth 20000 in
theorem gX5_ringsLeft_X5_isHouse : GoodIn wsX5_ringsLeft (va_wsS RX5 79 yX5_isHouse wsX5_isHouse) := goodIn_app (goodIn_of _ (by decide +kernel)) ggX5_ringsLeft_X5_isHouse
set_option maxRecDepth 20000 in
theorem ggX5_ringsLeft_X5_in : GoodIn wsX5_ringsLeft wsX5_in := goodIn_r _ [11] (by decide +kernel) (by decide +kernel)
set_option maxRecDepth 20000 in
theorem gX5_ringsLeft_X5_in : GoodIn wsX5_ringsLeft (va_wsS RX5 72 yX5_in wsX5_in) := goodIn_app (goodIn_of _ (by decide +kernel)) ggX5_ringsLeft_X5_in
theorem dX5_ringsLeft_0 : decode cX5_ringsLeft 0 = .ok (.aload_n 0, 1) := by decide +kernel
theorem dX5_ringsLeft_1 : decode cX5_ringsLeft 1 = .ok (.iload_n 1, 1) := by decide +kernel
theorem dX5_ringsLeft_2 : decode cX5_ringsLeft 2 = .ok (.invokestatic 79, 3) := by decide +kernel
theorem dX5_ringsLeft_5 : decode cX5_ringsLeft 5 = .ok (.ifCond .eq 21, 3) := by decide +kernel
theorem dX5_ringsLeft_8 : decode cX5_ringsLeft 8 = .ok (.iload_n 2, 1) := by decide +kernel
theorem dX5_ringsLeft_9 : decode cX5_ringsLeft 9 = .ok (.iconst 0, 1) := by decide +kernel
theorem dX5_ringsLeft_10 : decode cX5_ringsLeft 10 = .ok (.aload_n 0, 1) := by decide +kernel
theorem dX5_ringsLeft_11 : decode cX5_ringsLeft 11 = .ok (.getfield 76, 3) := by decide +kernel
theorem dX5_ringsLeft_14 : decode cX5_ringsLeft 14 = .ok (.iconst 1, 1) := by decide +kernel
theorem dX5_ringsLeft_15 : decode cX5_ringsLeft 15 = .ok (.isub, 1) := by decide +kernel
theorem dX5_ringsLeft_16 : decode cX5_ringsLeft 16 = .ok (.invokestatic 72, 3) := by decide +kernel
theorem dX5_ringsLeft_19 : decode cX5_ringsLeft 19 = .ok (.ifCond .eq 7, 3) := by decide +kernel
theorem dX5_ringsLeft_22 : decode cX5_ringsLeft 22 = .ok (.iconst 0, 1) := by decide +kernel
theorem dX5_ringsLeft_23 : decode cX5_ringsLeft 23 = .ok (.goto 4, 3) := by decide +kernel
theorem dX5_ringsLeft_26 : decode cX5_ringsLeft 26 = .ok (.iconst 1, 1) := by decide +kernel
theorem dX5_ringsLeft_27 : decode cX5_ringsLeft 27 = .ok (.putfield 68, 3) := by decide +kernel
theorem dX5_ringsLeft_30 : decode cX5_ringsLeft 30 = .ok (.aload_n 0, 1) := by decide +kernel
theorem dX5_ringsLeft_31 : decode cX5_ringsLeft 31 = .ok (.getfield 68, 3) := by decide +kernel
theorem dX5_ringsLeft_34 : decode cX5_ringsLeft 34 = .ok (.ifCond .le 5, 3) := by decide +kernel
theorem dX5_ringsLeft_37 : decode cX5_ringsLeft 37 = .ok (.iconst 0, 1) := by decide +kernel
theorem dX5_ringsLeft_38 : decode cX5_ringsLeft 38 = .ok (.ireturn, 1) := by decide +kernel
theorem dX5_ringsLeft_39 : decode cX5_ringsLeft 39 = .ok (.aload_n 0, 1) := by decide +kernel
theorem dX5_ringsLeft_40 : decode cX5_ringsLeft 40 = .ok (.getfield 7, 3) := by decide +kernel
theorem dX5_ringsLeft_43 : decode cX5_ringsLeft 43 = .ok (.iload_n 2, 1) := by decide +kernel
theorem dX5_ringsLeft_44 : decode cX5_ringsLeft 44 = .ok (.iaload, 1) := by decide +kernel
theorem dX5_ringsLeft_45 : decode cX5_ringsLeft 45 = .ok (.iload_n 1, 1) := by decide +kernel
theorem dX5_ringsLeft_46 : decode cX5_ringsLeft 46 = .ok (.if_icmp .ne 7, 3) := by decide +kernel
theorem dX5_ringsLeft_49 : decode cX5_ringsLeft 49 = .ok (.iconst (-1), 1) := by decide +kernel
theorem dX5_ringsLeft_50 : decode cX5_ringsLeft 50 = .ok (.goto 14, 3) := by decide +kernel
theorem dX5_ringsLeft_53 : decode cX5_ringsLeft 53 = .ok (.aload_n 0, 1) := by decide +kernel
theorem dX5_ringsLeft_54 : decode cX5_ringsLeft 54 = .ok (.getfield 29, 3) := by decide +kernel
theorem dX5_ringsLeft_57 : decode cX5_ringsLeft 57 = .ok (.bipush 12, 2) := by decide +kernel
theorem dX5_ringsLeft_59 : decode cX5_ringsLeft 59 = .ok (.iload_n 1, 1) := by decide +kernel
theorem dX5_ringsLeft_60 : decode cX5_ringsLeft 60 = .ok (.imul, 1) := by decide +kernel
theorem dX5_ringsLeft_61 : decode cX5_ringsLeft 61 = .ok (.iload_n 2, 1) := by decide +kernel
theorem dX5_ringsLeft_62 : decode cX5_ringsLeft 62 = .ok (.iadd, 1) := by decide +kernel
theorem dX5_ringsLeft_63 : decode cX5_ringsLeft 63 = .ok (.iaload, 1) := by decide +kernel
theorem dX5_ringsLeft_64 : decode cX5_ringsLeft 64 = .ok (.ireturn, 1) := by decide +kernel
set_option maxRecDepth 20000 in
theorem ggX5_points_X5_isSeen : GoodIn wsX5_points wsX5_isSeen := goodIn_r _ [6, 7, 8, 9, 5, 10, 11, 12, 13, 14, 15, 16, 17, 18, 19, 20, 21, 22, 23, 24, 25, 26, 27, 28, 29, 30, 31, 32, 33, 34, 35, 36] (by decide +kernel) (by decide +kernel)
set_option maxRecDepth 20000 in
theorem gX5_points_X5_isSeen : GoodIn wsX5_points (wsV RX5 119 RX5 yX5_isSeen wsX5_isSeen) := goodIn_app (goodIn_of _ (by decide +kernel)) ggX5_points_X5_isSeen
theorem dX5_points_0 : decode cX5_points 0 = .ok (.aload_n 0, 1) := by decide +kernel
theorem dX5_points_1 : decode cX5_points 1 = .ok (.iload_n 1, 1) := by decide +kernel
theorem dX5_points_2 : decode cX5_points 2 = .ok (.invokevirtual 119, 3) := by decide +kernel
theorem dX5_points_5 : decode cX5_points 5 = .ok (.ifCond .eq 12, 3) := by decide +kernel
theorem dX5_points_8 : decode cX5_points 8 = .ok (.aload_n 0, 1) := by decide +kernel
theorem dX5_points_9 : decode cX5_points 9 = .ok (.getfield 41, 3) := by decide +kernel
theorem dX5_points_12 : decode cX5_points 12 = .ok (.iload_n 1, 1) := by decide +kernel
theorem dX5_points_13 : decode cX5_points 13 = .ok (.iaload, 1) := by decide +kernel
theorem dX5_points_14 : decode cX5_points 14 = .ok (.goto 4, 3) := by decide +kernel
theorem dX5_points_17 : decode cX5_points 17 = .ok (.iconst 0, 1) := by decide +kernel
theorem dX5_points_18 : decode cX5_points 18 = .ok (.ireturn, 1) := by decide +kernel
set_option maxRecDepth 20000 in
theorem ggX5_secondsRung_X5_isSeen : GoodIn wsX5_secondsRung wsX5_isSeen := goodIn_r _ [6, 7, 8, 9, 5, 10, 11, 12, 13, 14, 15, 16, 17, 18, 19, 20, 21, 22, 23, 24, 25, 26, 27, 28, 29, 30, 31, 32, 33, 34, 35, 36] (by decide +kernel) (by decide +kernel)
set_option maxRecDepth 20000 in
theorem gX5_secondsRung_X5_isSeen : GoodIn wsX5_secondsRung (wsV RX5 119 RX5 yX5_isSeen wsX5_isSeen) := goodIn_app (goodIn_of _ (by decide +kernel)) ggX5_secondsRung_X5_isSeen
theorem dX5_secondsRung_0 : decode cX5_secondsRung 0 = .ok (.aload_n 0, 1) := by decide +kernel
theorem dX5_secondsRung_1 : decode cX5_secondsRung 1 = .ok (.iload_n 1, 1) := by decide +kernel
theorem dX5_secondsRung_2 : decode cX5_secondsRung 2 = .ok (.invokevirtual 119, 3) := by decide +kernel
theorem dX5_secondsRung_5 : decode cX5_secondsRung 5 = .ok (.ifCond .eq 12, 3) := by decide +kernel
theorem dX5_secondsRung_8 : decode cX5_secondsRung 8 = .ok (.aload_n 0, 1) := by decide +kernel
theorem dX5_secondsRung_9 : decode cX5_secondsRung 9 = .ok (.getfield 44, 3) := by decide +kernel
theorem dX5_secondsRung_12 : decode cX5_secondsRung 12 = .ok (.iload_n 1, 1) := by decide +kernel
theorem dX5_secondsRung_13 : decode cX5_secondsRung 13 = .ok (.iaload, 1) := by decide +kernel
theorem dX5_secondsRung_14 : decode cX5_secondsRung 14 = .ok (.goto 4, 3) := by decide +kernel
theorem dX5_secondsRung_17 : decode cX5_secondsRung 17 = .ok (.iconst 0, 1) := by decide +kernel
theorem dX5_secondsRung_18 : decode cX5_secondsRung 18 = .ok (.ireturn, 1) := by decide +kernel
set_option maxRecDepth 20000 in
theorem ggX5_quietBroken_X5_isSeen : GoodIn wsX5_quietBroken wsX5_isSeen := goodIn_r _ [6, 7, 8, 9, 5, 10, 11, 12, 13, 14, 15, 16, 17, 18, 19, 20, 21, 22, 23, 24, 25, 26, 27, 28, 29, 30, 31, 32, 33, 34, 35, 36] (by decide +kernel) (by decide +kernel)
set_option maxRecDepth 20000 in
theorem gX5_quietBroken_X5_isSeen : GoodIn wsX5_quietBroken (wsV RX5 119 RX5 yX5_isSeen wsX5_isSeen) := goodIn_app (goodIn_of _ (by decide +kernel)) ggX5_quietBroken_X5_isSeen
theorem dX5_quietBroken_0 : decode cX5_quietBroken 0 = .ok (.aload_n 0, 1) := by decide +kernel
theorem dX5_quietBroken_1 : decode cX5_quietBroken 1 = .ok (.iload_n 1, 1) := by decide +kernel
theorem dX5_quietBroken_2 : decode cX5_quietBroken 2 = .ok (.invokevirtual 119, 3) := by decide +kernel
theorem dX5_quietBroken_5 : decode cX5_quietBroken 5 = .ok (.ifCond .eq 12, 3) := by decide +kernel
theorem dX5_quietBroken_8 : decode cX5_quietBroken 8 = .ok (.aload_n 0, 1) := by decide +kernel
theorem dX5_quietBroken_9 : decode cX5_quietBroken 9 = .ok (.getfield 47, 3) := by decide +kernel
theorem dX5_quietBroken_12 : decode cX5_quietBroken 12 = .ok (.iload_n 1, 1) := by decide +kernel
theorem dX5_quietBroken_13 : decode cX5_quietBroken 13 = .ok (.iaload, 1) := by decide +kernel
theorem dX5_quietBroken_14 : decode cX5_quietBroken 14 = .ok (.goto 4, 3) := by decide +kernel
theorem dX5_quietBroken_17 : decode cX5_quietBroken 17 = .ok (.iconst 0, 1) := by decide +kernel
theorem dX5_quietBroken_18 : decode cX5_quietBroken 18 = .ok (.ireturn, 1) := by decide +kernel
set_option maxRecDepth 20000 in
theorem ggX5_hushed_X5_isSeen : GoodIn wsX5_hushed wsX5_isSeen := goodIn_r _ [6, 7, 8, 9, 5, 10, 11, 12, 13, 14, 15, 16, 17, 18, 19, 20, 21, 22, 23, 24, 25, 26, 27, 28, 29, 30, 31, 32, 33, 34, 35, 36] (by decide +kernel) (by decide +kernel)
set_option maxRecDepth 20000 in
theorem gX5_hushed_X5_isSeen : GoodIn wsX5_hushed (wsV RX5 119 RX5 yX5_isSeen wsX5_isSeen) := goodIn_app (goodIn_of _ (by decide +kernel)) ggX5_hushed_X5_isSeen
theorem dX5_hushed_0 : decode cX5_hushed 0 = .ok (.aload_n 0, 1) := by decide +kernel
theorem dX5_hushed_1 : decode cX5_hushed 1 = .ok (.iload_n 1, 1) := by decide +kernel
theorem dX5_hushed_2 : decode cX5_hushed 2 = .ok (.invokevirtual 119, 3) := by decide +kernel
theorem dX5_hushed_5 : decode cX5_hushed 5 = .ok (.ifCond .eq 12, 3) := by decide +kernel
theorem dX5_hushed_8 : decode cX5_hushed 8 = .ok (.aload_n 0, 1) := by decide +kernel
theorem dX5_hushed_9 : decode cX5_hushed 9 = .ok (.getfield 50, 3) := by decide +kernel
theorem dX5_hushed_12 : decode cX5_hushed 12 = .ok (.iload_n 1, 1) := by decide +kernel
theorem dX5_hushed_13 : decode cX5_hushed 13 = .ok (.iaload, 1) := by decide +kernel
theorem dX5_hushed_14 : decode cX5_hushed 14 = .ok (.goto 4, 3) := by decide +kernel
theorem dX5_hushed_17 : decode cX5_hushed 17 = .ok (.iconst 0, 1) := by decide +kernel
theorem dX5_hushed_18 : decode cX5_hushed 18 = .ok (.ireturn, 1) := by decide +kernel
theorem dX5_faults_0 : decode cX5_faults 0 = .ok (.aload_n 0, 1) := by decide +kernel
theorem dX5_faults_1 : decode cX5_faults 1 = .ok (.iconst 0, 1) := by decide +kernel
theorem dX5_faults_2 : decode cX5_faults 2 = .ok (.putfield 68, 3) := by decide +kernel
theorem dX5_faults_5 : decode cX5_faults 5 = .ok (.aload_n 0, 1) := by decide +kernel
theorem dX5_faults_6 : decode cX5_faults 6 = .ok (.getfield 109, 3) := by decide +kernel
theorem dX5_faults_9 : decode cX5_faults 9 = .ok (.ireturn, 1) := by decide +kernel
set_option maxRecDepth 20000 in
theorem ggX5_faultAt_X5_in : GoodIn wsX5_faultAt wsX5_in := goodIn_r _ [7] (by decide +kernel) (by decide +kernel)
set_option maxRecDepth 20000 in
theorem gX5_faultAt_X5_in : GoodIn wsX5_faultAt (va_wsS RX5 72 yX5_in wsX5_in) := goodIn_app (goodIn_of _ (by decide +kernel)) ggX5_faultAt_X5_in
theorem dX5_faultAt_0 : decode cX5_faultAt 0 = .ok (.aload_n 0, 1) := by decide +kernel
theorem dX5_faultAt_1 : decode cX5_faultAt 1 = .ok (.iload_n 1, 1) := by decide +kernel
theorem dX5_faultAt_2 : decode cX5_faultAt 2 = .ok (.iconst 0, 1) := by decide +kernel
theorem dX5_faultAt_3 : decode cX5_faultAt 3 = .ok (.aload_n 0, 1) := by decide +kernel
theorem dX5_faultAt_4 : decode cX5_faultAt 4 = .ok (.getfield 109, 3) := by decide +kernel
theorem dX5_faultAt_7 : decode cX5_faultAt 7 = .ok (.iconst 1, 1) := by decide +kernel
theorem dX5_faultAt_8 : decode cX5_faultAt 8 = .ok (.isub, 1) := by decide +kernel
theorem dX5_faultAt_9 : decode cX5_faultAt 9 = .ok (.invokestatic 72, 3) := by decide +kernel
theorem dX5_faultAt_12 : decode cX5_faultAt 12 = .ok (.ifCond .eq 7, 3) := by decide +kernel
theorem dX5_faultAt_15 : decode cX5_faultAt 15 = .ok (.iconst 0, 1) := by decide +kernel
theorem dX5_faultAt_16 : decode cX5_faultAt 16 = .ok (.goto 4, 3) := by decide +kernel
theorem dX5_faultAt_19 : decode cX5_faultAt 19 = .ok (.iconst 1, 1) := by decide +kernel
theorem dX5_faultAt_20 : decode cX5_faultAt 20 = .ok (.putfield 68, 3) := by decide +kernel
theorem dX5_faultAt_23 : decode cX5_faultAt 23 = .ok (.aload_n 0, 1) := by decide +kernel
theorem dX5_faultAt_24 : decode cX5_faultAt 24 = .ok (.getfield 68, 3) := by decide +kernel
theorem dX5_faultAt_27 : decode cX5_faultAt 27 = .ok (.ifCond .ne 12, 3) := by decide +kernel
theorem dX5_faultAt_30 : decode cX5_faultAt 30 = .ok (.aload_n 0, 1) := by decide +kernel
theorem dX5_faultAt_31 : decode cX5_faultAt 31 = .ok (.getfield 65, 3) := by decide +kernel
theorem dX5_faultAt_34 : decode cX5_faultAt 34 = .ok (.iload_n 1, 1) := by decide +kernel
theorem dX5_faultAt_35 : decode cX5_faultAt 35 = .ok (.iaload, 1) := by decide +kernel
theorem dX5_faultAt_36 : decode cX5_faultAt 36 = .ok (.goto 4, 3) := by decide +kernel
theorem dX5_faultAt_39 : decode cX5_faultAt 39 = .ok (.iconst 0, 1) := by decide +kernel
theorem dX5_faultAt_40 : decode cX5_faultAt 40 = .ok (.ireturn, 1) := by decide +kernel
theorem dJ9_max_7cf53_0 : decode cJ9_max_7cf53 0 = .ok (.iload_n 0, 1) := by decide +kernel
theorem dJ9_max_7cf53_1 : decode cJ9_max_7cf53 1 = .ok (.iload_n 1, 1) := by decide +kernel
theorem dJ9_max_7cf53_2 : decode cJ9_max_7cf53 2 = .ok (.if_icmp .lt 7, 3) := by decide +kernel
theorem dJ9_max_7cf53_5 : decode cJ9_max_7cf53 5 = .ok (.iload_n 0, 1) := by decide +kernel
theorem dJ9_max_7cf53_6 : decode cJ9_max_7cf53 6 = .ok (.goto 4, 3) := by decide +kernel
theorem dJ9_max_7cf53_9 : decode cJ9_max_7cf53 9 = .ok (.iload_n 1, 1) := by decide +kernel
theorem dJ9_max_7cf53_10 : decode cJ9_max_7cf53 10 = .ok (.ireturn, 1) := by decide +kernel
theorem dJ9_min_7cf53_0 : decode cJ9_min_7cf53 0 = .ok (.iload_n 0, 1) := by decide +kernel
theorem dJ9_min_7cf53_1 : decode cJ9_min_7cf53 1 = .ok (.iload_n 1, 1) := by decide +kernel
theorem dJ9_min_7cf53_2 : decode cJ9_min_7cf53 2 = .ok (.if_icmp .gt 7, 3) := by decide +kernel
theorem dJ9_min_7cf53_5 : decode cJ9_min_7cf53 5 = .ok (.iload_n 0, 1) := by decide +kernel
theorem dJ9_min_7cf53_6 : decode cJ9_min_7cf53 6 = .ok (.goto 4, 3) := by decide +kernel
theorem dJ9_min_7cf53_9 : decode cJ9_min_7cf53 9 = .ok (.iload_n 1, 1) := by decide +kernel
theorem dJ9_min_7cf53_10 : decode cJ9_min_7cf53 10 = .ok (.ireturn, 1) := by decide +kernel
set_option maxRecDepth 20000 in
theorem ggL_addMelody_X4_addMelody : GoodIn wsL_addMelody wsX4_addMelody := goodIn_ca (goodIn_ca (goodIn_ca (goodIn_r _ [8, 9, 10, 11, 12, 13, 14, 15, 16, 17, 18, 19, 20, 7, 21, 22, 23, 24, 25, 26, 27, 28, 29, 30, 31, 32, 33, 34, 35, 36, 37, 38, 39, 40, 41, 42, 43, 44] (by decide +kernel) (by decide +kernel)) (goodIn_sub (fun _ h => List.mem_cons_of_mem _ (List.mem_append_left _ (List.mem_append_left _ (List.mem_append_right _ h)))) (by decide +kernel))) (goodIn_sub (fun _ h => List.mem_cons_of_mem _ (List.mem_append_left _ (List.mem_append_right _ h))) (by decide +kernel))) (goodIn_sub (fun _ h => List.mem_cons_of_mem _ (List.mem_append_right _ h)) (by decide +kernel))
set_option maxRecDepth 20000 in
theorem gL_addMelody_X4_addMelody : GoodIn wsL_addMelody (wsV RL 7 RX4 yX4_addMelody wsX4_addMelody) := goodIn_app (goodIn_of _ (by decide +kernel)) ggL_addMelody_X4_addMelody
theorem dL_addMelody_0 : decode cL_addMelody 0 = .ok (.aload 5, 2) := by decide +kernel
theorem dL_addMelody_2 : decode cL_addMelody 2 = .ok (.iconst 0, 1) := by decide +kernel
theorem dL_addMelody_3 : decode cL_addMelody 3 = .ok (.aload_n 0, 1) := by decide +kernel
theorem dL_addMelody_4 : decode cL_addMelody 4 = .ok (.iload_n 1, 1) := by decide +kernel
theorem dL_addMelody_5 : decode cL_addMelody 5 = .ok (.iload_n 2, 1) := by decide +kernel
theorem dL_addMelody_6 : decode cL_addMelody 6 = .ok (.lload_n 3, 1) := by decide +kernel
theorem dL_addMelody_7 : decode cL_addMelody 7 = .ok (.invokevirtual 7, 3) := by decide +kernel
theorem dL_addMelody_10 : decode cL_addMelody 10 = .ok (.i2l, 1) := by decide +kernel
theorem dL_addMelody_11 : decode cL_addMelody 11 = .ok (.lastore, 1) := by decide +kernel
theorem dL_addMelody_12 : decode cL_addMelody 12 = .ok (.goto 15, 3) := by decide +kernel
theorem dL_addMelody_15 : decode cL_addMelody 15 = .ok (.astore 6, 2) := by decide +kernel
theorem dL_addMelody_17 : decode cL_addMelody 17 = .ok (.iconst 1, 1) := by decide +kernel
theorem dL_addMelody_18 : decode cL_addMelody 18 = .ok (.ireturn, 1) := by decide +kernel
theorem dL_addMelody_19 : decode cL_addMelody 19 = .ok (.astore 6, 2) := by decide +kernel
theorem dL_addMelody_21 : decode cL_addMelody 21 = .ok (.iconst 2, 1) := by decide +kernel
theorem dL_addMelody_22 : decode cL_addMelody 22 = .ok (.ireturn, 1) := by decide +kernel
theorem dL_addMelody_23 : decode cL_addMelody 23 = .ok (.astore 6, 2) := by decide +kernel
theorem dL_addMelody_25 : decode cL_addMelody 25 = .ok (.iconst 3, 1) := by decide +kernel
theorem dL_addMelody_26 : decode cL_addMelody 26 = .ok (.ireturn, 1) := by decide +kernel
theorem dL_addMelody_27 : decode cL_addMelody 27 = .ok (.iconst 0, 1) := by decide +kernel
theorem dL_addMelody_28 : decode cL_addMelody 28 = .ok (.ireturn, 1) := by decide +kernel
set_option maxRecDepth 20000 in
theorem ggL_toneAt_X4_toneAt : GoodIn wsL_toneAt wsX4_toneAt := goodIn_ca (goodIn_r _ [6, 7, 8, 9, 10, 11, 5, 12, 13, 14, 15, 16, 17, 18, 19, 20, 21, 22, 23, 24, 25, 26, 27, 28, 29, 30] (by decide +kernel) (by decide +kernel)) (goodIn_sub (fun _ h => List.mem_cons_of_mem _ (List.mem_append_right _ h)) (by decide +kernel))
set_option maxRecDepth 20000 in
theorem gL_toneAt_X4_toneAt : GoodIn wsL_toneAt (wsV RL 19 RX4 yX4_toneAt wsX4_toneAt) := goodIn_app (goodIn_of _ (by decide +kernel)) ggL_toneAt_X4_toneAt
theorem dL_toneAt_0 : decode cL_toneAt 0 = .ok (.aload_n 3, 1) := by decide +kernel
theorem dL_toneAt_1 : decode cL_toneAt 1 = .ok (.iconst 0, 1) := by decide +kernel
theorem dL_toneAt_2 : decode cL_toneAt 2 = .ok (.aload_n 0, 1) := by decide +kernel
theorem dL_toneAt_3 : decode cL_toneAt 3 = .ok (.iload_n 1, 1) := by decide +kernel
theorem dL_toneAt_4 : decode cL_toneAt 4 = .ok (.iload_n 2, 1) := by decide +kernel
theorem dL_toneAt_5 : decode cL_toneAt 5 = .ok (.invokevirtual 19, 3) := by decide +kernel
theorem dL_toneAt_8 : decode cL_toneAt 8 = .ok (.i2l, 1) := by decide +kernel
theorem dL_toneAt_9 : decode cL_toneAt 9 = .ok (.lastore, 1) := by decide +kernel
theorem dL_toneAt_10 : decode cL_toneAt 10 = .ok (.goto 7, 3) := by decide +kernel
theorem dL_toneAt_13 : decode cL_toneAt 13 = .ok (.astore 4, 2) := by decide +kernel
theorem dL_toneAt_15 : decode cL_toneAt 15 = .ok (.iconst 1, 1) := by decide +kernel
theorem dL_toneAt_16 : decode cL_toneAt 16 = .ok (.ireturn, 1) := by decide +kernel
theorem dL_toneAt_17 : decode cL_toneAt 17 = .ok (.iconst 0, 1) := by decide +kernel
theorem dL_toneAt_18 : decode cL_toneAt 18 = .ok (.ireturn, 1) := by decide +kernel
set_option maxRecDepth 20000 in
theorem ggL_shifted_X4_shifted : GoodIn wsL_shifted wsX4_shifted := goodIn_ca (goodIn_ca (goodIn_r _ [7, 8, 9, 10, 11, 12, 6, 13, 14, 15, 16, 17, 18, 19, 20, 21, 22, 23, 24, 25, 26, 27, 28, 29, 30, 31, 32, 33, 34, 35, 36, 37, 38] (by decide +kernel) (by decide +kernel)) (goodIn_sub (fun _ h => List.mem_cons_of_mem _ (List.mem_append_left _ (List.mem_append_right _ h))) (by decide +kernel))) (goodIn_sub (fun _ h => List.mem_cons_of_mem _ (List.mem_append_right _ h)) (by decide +kernel))
set_option maxRecDepth 20000 in
theorem gL_shifted_X4_shifted : GoodIn wsL_shifted (wsV RL 23 RX4 yX4_shifted wsX4_shifted) := goodIn_app (goodIn_of _ (by decide +kernel)) ggL_shifted_X4_shifted
theorem dL_shifted_0 : decode cL_shifted 0 = .ok (.aload_n 3, 1) := by decide +kernel
theorem dL_shifted_1 : decode cL_shifted 1 = .ok (.iconst 0, 1) := by decide +kernel
theorem dL_shifted_2 : decode cL_shifted 2 = .ok (.aload_n 0, 1) := by decide +kernel
theorem dL_shifted_3 : decode cL_shifted 3 = .ok (.iload_n 1, 1) := by decide +kernel
theorem dL_shifted_4 : decode cL_shifted 4 = .ok (.iload_n 2, 1) := by decide +kernel
theorem dL_shifted_5 : decode cL_shifted 5 = .ok (.invokevirtual 23, 3) := by decide +kernel
theorem dL_shifted_8 : decode cL_shifted 8 = .ok (.lastore, 1) := by decide +kernel
theorem dL_shifted_9 : decode cL_shifted 9 = .ok (.goto 11, 3) := by decide +kernel
theorem dL_shifted_12 : decode cL_shifted 12 = .ok (.astore 4, 2) := by decide +kernel
theorem dL_shifted_14 : decode cL_shifted 14 = .ok (.iconst 1, 1) := by decide +kernel
theorem dL_shifted_15 : decode cL_shifted 15 = .ok (.ireturn, 1) := by decide +kernel
theorem dL_shifted_16 : decode cL_shifted 16 = .ok (.astore 4, 2) := by decide +kernel
theorem dL_shifted_18 : decode cL_shifted 18 = .ok (.iconst 2, 1) := by decide +kernel
theorem dL_shifted_19 : decode cL_shifted 19 = .ok (.ireturn, 1) := by decide +kernel
theorem dL_shifted_20 : decode cL_shifted 20 = .ok (.iconst 0, 1) := by decide +kernel
theorem dL_shifted_21 : decode cL_shifted 21 = .ok (.ireturn, 1) := by decide +kernel
set_option maxRecDepth 20000 in
theorem ggL_turned_X4_turned : GoodIn wsL_turned wsX4_turned := goodIn_ca (goodIn_r _ [6, 7, 8, 9, 5, 10, 11, 12, 13, 14, 15, 16, 17, 18, 19, 20, 21, 22, 23, 24, 25, 26, 27, 28, 29, 30, 31, 32, 33, 34, 35] (by decide +kernel) (by decide +kernel)) (goodIn_sub (fun _ h => List.mem_cons_of_mem _ (List.mem_append_right _ h)) (by decide +kernel))
set_option maxRecDepth 20000 in
theorem gL_turned_X4_turned : GoodIn wsL_turned (wsV RL 27 RX4 yX4_turned wsX4_turned) := goodIn_app (goodIn_of _ (by decide +kernel)) ggL_turned_X4_turned
theorem dL_turned_0 : decode cL_turned 0 = .ok (.aload_n 2, 1) := by decide +kernel
theorem dL_turned_1 : decode cL_turned 1 = .ok (.iconst 0, 1) := by decide +kernel
theorem dL_turned_2 : decode cL_turned 2 = .ok (.aload_n 0, 1) := by decide +kernel
theorem dL_turned_3 : decode cL_turned 3 = .ok (.iload_n 1, 1) := by decide +kernel
theorem dL_turned_4 : decode cL_turned 4 = .ok (.invokevirtual 27, 3) := by decide +kernel
theorem dL_turned_7 : decode cL_turned 7 = .ok (.lastore, 1) := by decide +kernel
theorem dL_turned_8 : decode cL_turned 8 = .ok (.goto 6, 3) := by decide +kernel
theorem dL_turned_11 : decode cL_turned 11 = .ok (.astore_n 3, 1) := by decide +kernel
theorem dL_turned_12 : decode cL_turned 12 = .ok (.iconst 1, 1) := by decide +kernel
theorem dL_turned_13 : decode cL_turned 13 = .ok (.ireturn, 1) := by decide +kernel
theorem dL_turned_14 : decode cL_turned 14 = .ok (.iconst 0, 1) := by decide +kernel
theorem dL_turned_15 : decode cL_turned 15 = .ok (.ireturn, 1) := by decide +kernel
set_option maxRecDepth 20000 in
theorem ggL_areAlike_X4_areAlike : GoodIn wsL_areAlike wsX4_areAlike := goodIn_ca (goodIn_r _ [6, 7, 8, 9, 5, 10, 11, 12, 13, 14, 15, 16, 17, 18, 19, 20, 21, 22, 23, 24, 25, 26, 27, 28, 29, 30, 31, 32, 33, 34, 35, 36, 37, 38, 39] (by decide +kernel) (by decide +kernel)) (goodIn_sub (fun _ h => List.mem_cons_of_mem _ (List.mem_append_right _ h)) (by decide +kernel))
set_option maxRecDepth 20000 in
theorem gL_areAlike_X4_areAlike : GoodIn wsL_areAlike (wsV RL 31 RX4 yX4_areAlike wsX4_areAlike) := goodIn_app (goodIn_of _ (by decide +kernel)) ggL_areAlike_X4_areAlike
theorem dL_areAlike_0 : decode cL_areAlike 0 = .ok (.aload_n 3, 1) := by decide +kernel
theorem dL_areAlike_1 : decode cL_areAlike 1 = .ok (.iconst 0, 1) := by decide +kernel
theorem dL_areAlike_2 : decode cL_areAlike 2 = .ok (.aload_n 0, 1) := by decide +kernel
theorem dL_areAlike_3 : decode cL_areAlike 3 = .ok (.iload_n 1, 1) := by decide +kernel
theorem dL_areAlike_4 : decode cL_areAlike 4 = .ok (.iload_n 2, 1) := by decide +kernel
theorem dL_areAlike_5 : decode cL_areAlike 5 = .ok (.invokevirtual 31, 3) := by decide +kernel
theorem dL_areAlike_8 : decode cL_areAlike 8 = .ok (.ifCond .eq 7, 3) := by decide +kernel
theorem dL_areAlike_11 : decode cL_areAlike 11 = .ok (.lconst 1, 1) := by decide +kernel
theorem dL_areAlike_12 : decode cL_areAlike 12 = .ok (.goto 4, 3) := by decide +kernel
theorem dL_areAlike_15 : decode cL_areAlike 15 = .ok (.lconst 0, 1) := by decide +kernel
theorem dL_areAlike_16 : decode cL_areAlike 16 = .ok (.lastore, 1) := by decide +kernel
theorem dL_areAlike_17 : decode cL_areAlike 17 = .ok (.goto 7, 3) := by decide +kernel
theorem dL_areAlike_20 : decode cL_areAlike 20 = .ok (.astore 4, 2) := by decide +kernel
theorem dL_areAlike_22 : decode cL_areAlike 22 = .ok (.iconst 1, 1) := by decide +kernel
theorem dL_areAlike_23 : decode cL_areAlike 23 = .ok (.ireturn, 1) := by decide +kernel
theorem dL_areAlike_24 : decode cL_areAlike 24 = .ok (.iconst 0, 1) := by decide +kernel
theorem dL_areAlike_25 : decode cL_areAlike 25 = .ok (.ireturn, 1) := by decide +kernel
set_option maxRecDepth 20000 in
theorem ggL_license_X4_license : GoodIn wsL_license wsX4_license := goodIn_ca (goodIn_ca (goodIn_ca (goodIn_r _ [8, 9, 10, 11, 12, 13, 14, 15, 7, 16, 17, 18, 19, 20, 21, 22, 23, 24, 25, 26, 27, 28, 29, 30, 31, 32, 33, 34, 35, 36, 37, 38, 39, 40, 41, 42, 43, 44, 45, 46, 47, 48, 49, 50, 51, 52] (by decide +kernel) (by decide +kernel)) (goodIn_sub (fun _ h => List.mem_cons_of_mem _ (List.mem_append_left _ (List.mem_append_left _ (List.mem_append_right _ h)))) (by decide +kernel))) (goodIn_sub (fun _ h => List.mem_cons_of_mem _ (List.mem_append_left _ (List.mem_append_right _ h))) (by decide +kernel))) (goodIn_sub (fun _ h => List.mem_cons_of_mem _ (List.mem_append_right _ h)) (by decide +kernel))
set_option maxRecDepth 20000 in
theorem gL_license_X4_license : GoodIn wsL_license (wsV RL 35 RX4 yX4_license wsX4_license) := goodIn_app (goodIn_of _ (by decide +kernel)) ggL_license_X4_license
theorem dL_license_0 : decode cL_license 0 = .ok (.aload 4, 2) := by decide +kernel
theorem dL_license_2 : decode cL_license 2 = .ok (.iconst 0, 1) := by decide +kernel
theorem dL_license_3 : decode cL_license 3 = .ok (.aload_n 0, 1) := by decide +kernel
theorem dL_license_4 : decode cL_license 4 = .ok (.iload_n 1, 1) := by decide +kernel
theorem dL_license_5 : decode cL_license 5 = .ok (.iload_n 2, 1) := by decide +kernel
theorem dL_license_6 : decode cL_license 6 = .ok (.iload_n 3, 1) := by decide +kernel
theorem dL_license_7 : decode cL_license 7 = .ok (.invokevirtual 35, 3) := by decide +kernel
theorem dL_license_10 : decode cL_license 10 = .ok (.i2l, 1) := by decide +kernel
theorem dL_license_11 : decode cL_license 11 = .ok (.lastore, 1) := by decide +kernel
theorem dL_license_12 : decode cL_license 12 = .ok (.goto 15, 3) := by decide +kernel
theorem dL_license_15 : decode cL_license 15 = .ok (.astore 5, 2) := by decide +kernel
theorem dL_license_17 : decode cL_license 17 = .ok (.iconst 1, 1) := by decide +kernel
theorem dL_license_18 : decode cL_license 18 = .ok (.ireturn, 1) := by decide +kernel
theorem dL_license_19 : decode cL_license 19 = .ok (.astore 5, 2) := by decide +kernel
theorem dL_license_21 : decode cL_license 21 = .ok (.iconst 2, 1) := by decide +kernel
theorem dL_license_22 : decode cL_license 22 = .ok (.ireturn, 1) := by decide +kernel
theorem dL_license_23 : decode cL_license 23 = .ok (.astore 5, 2) := by decide +kernel
theorem dL_license_25 : decode cL_license 25 = .ok (.iconst 3, 1) := by decide +kernel
theorem dL_license_26 : decode cL_license 26 = .ok (.ireturn, 1) := by decide +kernel
theorem dL_license_27 : decode cL_license 27 = .ok (.iconst 0, 1) := by decide +kernel
theorem dL_license_28 : decode cL_license 28 = .ok (.ireturn, 1) := by decide +kernel
set_option maxRecDepth 20000 in
theorem ggL_setQuiet_X4_setQuiet : GoodIn wsL_setQuiet wsX4_setQuiet := goodIn_ca (goodIn_ca (goodIn_r _ [7, 8, 9, 10, 11, 12, 13, 6, 14, 15, 16, 17, 18, 19, 20, 21, 22, 23, 24, 25, 26, 27, 28, 29, 30, 31, 32, 33, 34, 35, 36, 37, 38, 39, 40, 41, 42, 43, 44, 45, 46, 47, 48, 49, 50, 51, 52, 53, 54, 55, 56, 57, 58, 59, 60, 61, 62] (by decide +kernel) (by decide +kernel)) (goodIn_sub (fun _ h => List.mem_cons_of_mem _ (List.mem_append_left _ (List.mem_append_right _ h))) (by decide +kernel))) (goodIn_sub (fun _ h => List.mem_cons_of_mem _ (List.mem_append_right _ h)) (by decide +kernel))
set_option maxRecDepth 20000 in
theorem gL_setQuiet_X4_setQuiet : GoodIn wsL_setQuiet (wsV RL 39 RX4 yX4_setQuiet wsX4_setQuiet) := goodIn_app (goodIn_of _ (by decide +kernel)) ggL_setQuiet_X4_setQuiet
theorem dL_setQuiet_0 : decode cL_setQuiet 0 = .ok (.aload 4, 2) := by decide +kernel
theorem dL_setQuiet_2 : decode cL_setQuiet 2 = .ok (.iconst 0, 1) := by decide +kernel
theorem dL_setQuiet_3 : decode cL_setQuiet 3 = .ok (.aload_n 0, 1) := by decide +kernel
theorem dL_setQuiet_4 : decode cL_setQuiet 4 = .ok (.iload_n 1, 1) := by decide +kernel
theorem dL_setQuiet_5 : decode cL_setQuiet 5 = .ok (.iload_n 2, 1) := by decide +kernel
theorem dL_setQuiet_6 : decode cL_setQuiet 6 = .ok (.iload_n 3, 1) := by decide +kernel
theorem dL_setQuiet_7 : decode cL_setQuiet 7 = .ok (.invokevirtual 39, 3) := by decide +kernel
theorem dL_setQuiet_10 : decode cL_setQuiet 10 = .ok (.ifCond .eq 7, 3) := by decide +kernel
theorem dL_setQuiet_13 : decode cL_setQuiet 13 = .ok (.lconst 1, 1) := by decide +kernel
theorem dL_setQuiet_14 : decode cL_setQuiet 14 = .ok (.goto 4, 3) := by decide +kernel
theorem dL_setQuiet_17 : decode cL_setQuiet 17 = .ok (.lconst 0, 1) := by decide +kernel
theorem dL_setQuiet_18 : decode cL_setQuiet 18 = .ok (.lastore, 1) := by decide +kernel
theorem dL_setQuiet_19 : decode cL_setQuiet 19 = .ok (.goto 11, 3) := by decide +kernel
theorem dL_setQuiet_22 : decode cL_setQuiet 22 = .ok (.astore 5, 2) := by decide +kernel
theorem dL_setQuiet_24 : decode cL_setQuiet 24 = .ok (.iconst 1, 1) := by decide +kernel
theorem dL_setQuiet_25 : decode cL_setQuiet 25 = .ok (.ireturn, 1) := by decide +kernel
theorem dL_setQuiet_26 : decode cL_setQuiet 26 = .ok (.astore 5, 2) := by decide +kernel
theorem dL_setQuiet_28 : decode cL_setQuiet 28 = .ok (.iconst 2, 1) := by decide +kernel
theorem dL_setQuiet_29 : decode cL_setQuiet 29 = .ok (.ireturn, 1) := by decide +kernel
theorem dL_setQuiet_30 : decode cL_setQuiet 30 = .ok (.iconst 0, 1) := by decide +kernel
theorem dL_setQuiet_31 : decode cL_setQuiet 31 = .ok (.ireturn, 1) := by decide +kernel
set_option maxRecDepth 20000 in
theorem ggL_lay_X4_lay : GoodIn wsL_lay wsX4_lay := goodIn_ca (goodIn_ca (goodIn_r _ [7, 8, 9, 10, 11, 12, 6, 13, 14, 15, 16, 17, 18, 19, 20, 21, 22, 23, 24, 25, 26, 27, 28, 29, 30, 31, 32, 33, 34, 35, 36, 37, 38, 39, 40, 41, 42, 43, 44, 45, 46, 47, 48, 49, 50, 51, 52, 53, 54, 55, 56, 57] (by decide +kernel) (by decide +kernel)) (goodIn_sub (fun _ h => List.mem_cons_of_mem _ (List.mem_append_left _ (List.mem_append_right _ h))) (by decide +kernel))) (goodIn_sub (fun _ h => List.mem_cons_of_mem _ (List.mem_append_right _ h)) (by decide +kernel))
set_option maxRecDepth 20000 in
theorem gL_lay_X4_lay : GoodIn wsL_lay (wsV RL 43 RX4 yX4_lay wsX4_lay) := goodIn_app (goodIn_of _ (by decide +kernel)) ggL_lay_X4_lay
theorem dL_lay_0 : decode cL_lay 0 = .ok (.aload 5, 2) := by decide +kernel
theorem dL_lay_2 : decode cL_lay 2 = .ok (.iconst 0, 1) := by decide +kernel
theorem dL_lay_3 : decode cL_lay 3 = .ok (.aload_n 0, 1) := by decide +kernel
theorem dL_lay_4 : decode cL_lay 4 = .ok (.iload_n 1, 1) := by decide +kernel
theorem dL_lay_5 : decode cL_lay 5 = .ok (.iload_n 2, 1) := by decide +kernel
theorem dL_lay_6 : decode cL_lay 6 = .ok (.iload_n 3, 1) := by decide +kernel
theorem dL_lay_7 : decode cL_lay 7 = .ok (.iload 4, 2) := by decide +kernel
theorem dL_lay_9 : decode cL_lay 9 = .ok (.invokevirtual 43, 3) := by decide +kernel
theorem dL_lay_12 : decode cL_lay 12 = .ok (.i2l, 1) := by decide +kernel
theorem dL_lay_13 : decode cL_lay 13 = .ok (.lastore, 1) := by decide +kernel
theorem dL_lay_14 : decode cL_lay 14 = .ok (.goto 11, 3) := by decide +kernel
theorem dL_lay_17 : decode cL_lay 17 = .ok (.astore 6, 2) := by decide +kernel
theorem dL_lay_19 : decode cL_lay 19 = .ok (.iconst 1, 1) := by decide +kernel
theorem dL_lay_20 : decode cL_lay 20 = .ok (.ireturn, 1) := by decide +kernel
theorem dL_lay_21 : decode cL_lay 21 = .ok (.astore 6, 2) := by decide +kernel
theorem dL_lay_23 : decode cL_lay 23 = .ok (.iconst 2, 1) := by decide +kernel
theorem dL_lay_24 : decode cL_lay 24 = .ok (.ireturn, 1) := by decide +kernel
theorem dL_lay_25 : decode cL_lay 25 = .ok (.iconst 0, 1) := by decide +kernel
theorem dL_lay_26 : decode cL_lay 26 = .ok (.ireturn, 1) := by decide +kernel
set_option maxRecDepth 20000 in
theorem ggL_press_X4_press : GoodIn wsL_press wsX4_press := goodIn_ca (goodIn_ca (goodIn_r _ [7, 8, 9, 10, 11, 12, 13, 6, 14, 15, 16, 17, 18, 19, 20, 21, 22, 23, 24, 25, 26, 27, 28, 29, 30, 31, 32, 33, 34, 35, 36, 37, 38, 39, 40, 41, 42, 43, 44, 45, 46, 47, 48, 49, 50, 51, 52, 53, 54, 55, 56, 57, 58, 59, 60, 61, 62, 63, 64, 65, 66, 67, 68, 69, 70, 71, 72, 73, 74, 75, 76, 77, 78, 79, 80, 81, 82, 83, 84, 85, 86, 87, 88, 89, 90, 91, 92, 93, 94, 95, 96, 97, 98, 99, 100, 101, 102, 103, 104, 105, 106, 107] (by decide +kernel) (by decide +kernel)) (goodIn_sub (fun _ h => List.mem_cons_of_mem _ (List.mem_append_left _ (List.mem_append_right _ h))) (by decide +kernel))) (goodIn_sub (fun _ h => List.mem_cons_of_mem _ (List.mem_append_right _ h)) (by decide +kernel))
set_option maxRecDepth 20000 in
theorem gL_press_X4_press : GoodIn wsL_press (wsV RL 47 RX4 yX4_press wsX4_press) := goodIn_app (goodIn_of _ (by decide +kernel)) ggL_press_X4_press
theorem dL_press_0 : decode cL_press 0 = .ok (.aload_n 3, 1) := by decide +kernel
theorem dL_press_1 : decode cL_press 1 = .ok (.iconst 0, 1) := by decide +kernel
theorem dL_press_2 : decode cL_press 2 = .ok (.aload_n 0, 1) := by decide +kernel
theorem dL_press_3 : decode cL_press 3 = .ok (.iload_n 1, 1) := by decide +kernel
theorem dL_press_4 : decode cL_press 4 = .ok (.iload_n 2, 1) := by decide +kernel
theorem dL_press_5 : decode cL_press 5 = .ok (.invokevirtual 47, 3) := by decide +kernel
theorem dL_press_8 : decode cL_press 8 = .ok (.i2l, 1) := by decide +kernel
theorem dL_press_9 : decode cL_press 9 = .ok (.lastore, 1) := by decide +kernel
theorem dL_press_10 : decode cL_press 10 = .ok (.goto 11, 3) := by decide +kernel
theorem dL_press_13 : decode cL_press 13 = .ok (.astore 4, 2) := by decide +kernel
theorem dL_press_15 : decode cL_press 15 = .ok (.iconst 1, 1) := by decide +kernel
theorem dL_press_16 : decode cL_press 16 = .ok (.ireturn, 1) := by decide +kernel
theorem dL_press_17 : decode cL_press 17 = .ok (.astore 4, 2) := by decide +kernel
theorem dL_press_19 : decode cL_press 19 = .ok (.iconst 2, 1) := by decide +kernel
theorem dL_press_20 : decode cL_press 20 = .ok (.ireturn, 1) := by decide +kernel
theorem dL_press_21 : decode cL_press 21 = .ok (.iconst 0, 1) := by decide +kernel
theorem dL_press_22 : decode cL_press 22 = .ok (.ireturn, 1) := by decide +kernel
set_option maxRecDepth 20000 in
theorem ggL_fault_X4_fault : GoodIn wsL_fault wsX4_fault := goodIn_ca (goodIn_ca (goodIn_r _ [7, 8, 9, 10, 11, 12, 13, 14, 15, 16, 6, 17, 18, 19, 20, 21, 22, 23, 24, 25, 26, 27, 28, 29, 30, 31, 32, 33, 34, 35, 36, 37, 38, 39, 40, 41, 42, 43, 44, 45, 46, 47, 48, 49, 50, 51, 52, 53, 54, 55, 56, 57, 58, 59, 60, 61, 62, 63, 64, 65, 66, 67, 68, 69, 70, 71, 72, 73, 74, 75] (by decide +kernel) (by decide +kernel)) (goodIn_sub (fun _ h => List.mem_cons_of_mem _ (List.mem_append_left _ (List.mem_append_right _ h))) (by decide +kernel))) (goodIn_sub (fun _ h => List.mem_cons_of_mem _ (List.mem_append_right _ h)) (by decide +kernel))
set_option maxRecDepth 20000 in
theorem gL_fault_X4_fault : GoodIn wsL_fault (wsV RL 50 RX4 yX4_fault wsX4_fault) := goodIn_app (goodIn_of _ (by decide +kernel)) ggL_fault_X4_fault
theorem dL_fault_0 : decode cL_fault 0 = .ok (.aload_n 2, 1) := by decide +kernel
theorem dL_fault_1 : decode cL_fault 1 = .ok (.iconst 0, 1) := by decide +kernel
theorem dL_fault_2 : decode cL_fault 2 = .ok (.aload_n 0, 1) := by decide +kernel
theorem dL_fault_3 : decode cL_fault 3 = .ok (.iload_n 1, 1) := by decide +kernel
theorem dL_fault_4 : decode cL_fault 4 = .ok (.invokevirtual 50, 3) := by decide +kernel
theorem dL_fault_7 : decode cL_fault 7 = .ok (.i2l, 1) := by decide +kernel
theorem dL_fault_8 : decode cL_fault 8 = .ok (.lastore, 1) := by decide +kernel
theorem dL_fault_9 : decode cL_fault 9 = .ok (.goto 9, 3) := by decide +kernel
theorem dL_fault_12 : decode cL_fault 12 = .ok (.astore_n 3, 1) := by decide +kernel
theorem dL_fault_13 : decode cL_fault 13 = .ok (.iconst 1, 1) := by decide +kernel
theorem dL_fault_14 : decode cL_fault 14 = .ok (.ireturn, 1) := by decide +kernel
theorem dL_fault_15 : decode cL_fault 15 = .ok (.astore_n 3, 1) := by decide +kernel
theorem dL_fault_16 : decode cL_fault 16 = .ok (.iconst 2, 1) := by decide +kernel
theorem dL_fault_17 : decode cL_fault 17 = .ok (.ireturn, 1) := by decide +kernel
theorem dL_fault_18 : decode cL_fault 18 = .ok (.iconst 0, 1) := by decide +kernel
theorem dL_fault_19 : decode cL_fault 19 = .ok (.ireturn, 1) := by decide +kernel
set_option maxRecDepth 20000 in
theorem ggL_repair_X4_repair : GoodIn wsL_repair wsX4_repair := goodIn_ca (goodIn_ca (goodIn_r _ [7, 8, 9, 10, 11, 12, 13, 14, 6, 15, 16, 17, 18, 19, 20, 21, 22, 23, 24, 25, 26, 27, 28, 29, 30, 31, 32, 33, 34, 35, 36, 37, 38, 39, 40, 41, 42, 43, 44] (by decide +kernel) (by decide +kernel)) (goodIn_sub (fun _ h => List.mem_cons_of_mem _ (List.mem_append_left _ (List.mem_append_right _ h))) (by decide +kernel))) (goodIn_sub (fun _ h => List.mem_cons_of_mem _ (List.mem_append_right _ h)) (by decide +kernel))
set_option maxRecDepth 20000 in
theorem gL_repair_X4_repair : GoodIn wsL_repair (wsV RL 54 RX4 yX4_repair wsX4_repair) := goodIn_app (goodIn_of _ (by decide +kernel)) ggL_repair_X4_repair
theorem dL_repair_0 : decode cL_repair 0 = .ok (.aload_n 2, 1) := by decide +kernel
theorem dL_repair_1 : decode cL_repair 1 = .ok (.iconst 0, 1) := by decide +kernel
theorem dL_repair_2 : decode cL_repair 2 = .ok (.aload_n 0, 1) := by decide +kernel
theorem dL_repair_3 : decode cL_repair 3 = .ok (.iload_n 1, 1) := by decide +kernel
theorem dL_repair_4 : decode cL_repair 4 = .ok (.invokevirtual 54, 3) := by decide +kernel
theorem dL_repair_7 : decode cL_repair 7 = .ok (.i2l, 1) := by decide +kernel
theorem dL_repair_8 : decode cL_repair 8 = .ok (.lastore, 1) := by decide +kernel
theorem dL_repair_9 : decode cL_repair 9 = .ok (.goto 9, 3) := by decide +kernel
theorem dL_repair_12 : decode cL_repair 12 = .ok (.astore_n 3, 1) := by decide +kernel
theorem dL_repair_13 : decode cL_repair 13 = .ok (.iconst 1, 1) := by decide +kernel
theorem dL_repair_14 : decode cL_repair 14 = .ok (.ireturn, 1) := by decide +kernel
theorem dL_repair_15 : decode cL_repair 15 = .ok (.astore_n 3, 1) := by decide +kernel
theorem dL_repair_16 : decode cL_repair 16 = .ok (.iconst 2, 1) := by decide +kernel
theorem dL_repair_17 : decode cL_repair 17 = .ok (.ireturn, 1) := by decide +kernel
theorem dL_repair_18 : decode cL_repair 18 = .ok (.iconst 0, 1) := by decide +kernel
theorem dL_repair_19 : decode cL_repair 19 = .ok (.ireturn, 1) := by decide +kernel
set_option maxRecDepth 20000 in
theorem ggL_pass_X4_pass : GoodIn wsL_pass wsX4_pass := goodIn_ca (goodIn_ca (goodIn_r _ [7, 8, 9, 10, 11, 12, 13, 14, 15, 16, 6, 17, 18, 19, 20, 21, 22, 23, 24, 25, 26, 27, 28, 29, 30, 31, 32, 33, 34, 35, 36, 37, 38, 39, 40, 41, 42, 43, 44, 45, 46, 47, 48, 49, 50, 51, 52, 53, 54, 55, 56, 57, 58, 59, 60, 61, 62, 63, 64, 65, 66, 67, 68, 69, 70, 71, 72, 73, 74, 75, 76, 77, 78, 79, 80, 81, 82, 83, 84, 85, 86, 87, 88, 89, 90, 91, 92, 93, 94, 95, 96, 97, 98, 99, 100] (by decide +kernel) (by decide +kernel)) (goodIn_sub (fun _ h => List.mem_cons_of_mem _ (List.mem_append_left _ (List.mem_append_right _ h))) (by decide +kernel))) (goodIn_sub (fun _ h => List.mem_cons_of_mem _ (List.mem_append_right _ h)) (by decide +kernel))
set_option maxRecDepth 20000 in
theorem gL_pass_X4_pass : GoodIn wsL_pass (wsV RL 57 RX4 yX4_pass wsX4_pass) := goodIn_app (goodIn_of _ (by decide +kernel)) ggL_pass_X4_pass
theorem dL_pass_0 : decode cL_pass 0 = .ok (.aload_n 2, 1) := by decide +kernel
theorem dL_pass_1 : decode cL_pass 1 = .ok (.iconst 0, 1) := by decide +kernel
theorem dL_pass_2 : decode cL_pass 2 = .ok (.aload_n 0, 1) := by decide +kernel
theorem dL_pass_3 : decode cL_pass 3 = .ok (.iload_n 1, 1) := by decide +kernel
theorem dL_pass_4 : decode cL_pass 4 = .ok (.invokevirtual 57, 3) := by decide +kernel
theorem dL_pass_7 : decode cL_pass 7 = .ok (.i2l, 1) := by decide +kernel
theorem dL_pass_8 : decode cL_pass 8 = .ok (.lastore, 1) := by decide +kernel
theorem dL_pass_9 : decode cL_pass 9 = .ok (.goto 9, 3) := by decide +kernel
theorem dL_pass_12 : decode cL_pass 12 = .ok (.astore_n 3, 1) := by decide +kernel
theorem dL_pass_13 : decode cL_pass 13 = .ok (.iconst 1, 1) := by decide +kernel
theorem dL_pass_14 : decode cL_pass 14 = .ok (.ireturn, 1) := by decide +kernel
theorem dL_pass_15 : decode cL_pass 15 = .ok (.astore_n 3, 1) := by decide +kernel
theorem dL_pass_16 : decode cL_pass 16 = .ok (.iconst 2, 1) := by decide +kernel
theorem dL_pass_17 : decode cL_pass 17 = .ok (.ireturn, 1) := by decide +kernel
theorem dL_pass_18 : decode cL_pass 18 = .ok (.iconst 0, 1) := by decide +kernel
theorem dL_pass_19 : decode cL_pass 19 = .ok (.ireturn, 1) := by decide +kernel
set_option maxRecDepth 20000 in
theorem ggL_ringing_X4_ringing : GoodIn wsL_ringing wsX4_ringing := goodIn_ca (goodIn_r _ [6, 7, 8, 9, 5, 10, 11, 12, 13, 14, 15, 16, 17, 18, 19, 20, 21, 22, 23, 24, 25, 26, 27, 28, 29, 30, 31, 32, 33, 34, 35, 36, 37, 38, 39, 40, 41, 42, 43, 44, 45, 46, 47] (by decide +kernel) (by decide +kernel)) (goodIn_sub (fun _ h => List.mem_cons_of_mem _ (List.mem_append_right _ h)) (by decide +kernel))
set_option maxRecDepth 20000 in
theorem gL_ringing_X4_ringing : GoodIn wsL_ringing (wsV RL 60 RX4 yX4_ringing wsX4_ringing) := goodIn_app (goodIn_of _ (by decide +kernel)) ggL_ringing_X4_ringing
theorem dL_ringing_0 : decode cL_ringing 0 = .ok (.aload_n 2, 1) := by decide +kernel
theorem dL_ringing_1 : decode cL_ringing 1 = .ok (.iconst 0, 1) := by decide +kernel
theorem dL_ringing_2 : decode cL_ringing 2 = .ok (.aload_n 0, 1) := by decide +kernel
theorem dL_ringing_3 : decode cL_ringing 3 = .ok (.iload_n 1, 1) := by decide +kernel
theorem dL_ringing_4 : decode cL_ringing 4 = .ok (.invokevirtual 60, 3) := by decide +kernel
theorem dL_ringing_7 : decode cL_ringing 7 = .ok (.i2l, 1) := by decide +kernel
theorem dL_ringing_8 : decode cL_ringing 8 = .ok (.lastore, 1) := by decide +kernel
theorem dL_ringing_9 : decode cL_ringing 9 = .ok (.goto 6, 3) := by decide +kernel
theorem dL_ringing_12 : decode cL_ringing 12 = .ok (.astore_n 3, 1) := by decide +kernel
theorem dL_ringing_13 : decode cL_ringing 13 = .ok (.iconst 1, 1) := by decide +kernel
theorem dL_ringing_14 : decode cL_ringing 14 = .ok (.ireturn, 1) := by decide +kernel
theorem dL_ringing_15 : decode cL_ringing 15 = .ok (.iconst 0, 1) := by decide +kernel
theorem dL_ringing_16 : decode cL_ringing 16 = .ok (.ireturn, 1) := by decide +kernel
set_option maxRecDepth 20000 in
theorem ggL_isSound_X4_isSound : GoodIn wsL_isSound wsX4_isSound := goodIn_ca (goodIn_r _ [6, 7, 8, 9, 5, 10, 11, 12, 13, 14, 15, 16, 17, 18, 19, 20, 21, 22, 23, 24, 25, 26, 27, 28, 29, 30, 31, 32, 33, 34, 35, 36, 37] (by decide +kernel) (by decide +kernel)) (goodIn_sub (fun _ h => List.mem_cons_of_mem _ (List.mem_append_right _ h)) (by decide +kernel))
set_option maxRecDepth 20000 in
theorem gL_isSound_X4_isSound : GoodIn wsL_isSound (wsV RL 63 RX4 yX4_isSound wsX4_isSound) := goodIn_app (goodIn_of _ (by decide +kernel)) ggL_isSound_X4_isSound
theorem dL_isSound_0 : decode cL_isSound 0 = .ok (.aload_n 2, 1) := by decide +kernel
theorem dL_isSound_1 : decode cL_isSound 1 = .ok (.iconst 0, 1) := by decide +kernel
theorem dL_isSound_2 : decode cL_isSound 2 = .ok (.aload_n 0, 1) := by decide +kernel
theorem dL_isSound_3 : decode cL_isSound 3 = .ok (.iload_n 1, 1) := by decide +kernel
theorem dL_isSound_4 : decode cL_isSound 4 = .ok (.invokevirtual 63, 3) := by decide +kernel
theorem dL_isSound_7 : decode cL_isSound 7 = .ok (.ifCond .eq 7, 3) := by decide +kernel
theorem dL_isSound_10 : decode cL_isSound 10 = .ok (.lconst 1, 1) := by decide +kernel
theorem dL_isSound_11 : decode cL_isSound 11 = .ok (.goto 4, 3) := by decide +kernel
theorem dL_isSound_14 : decode cL_isSound 14 = .ok (.lconst 0, 1) := by decide +kernel
theorem dL_isSound_15 : decode cL_isSound 15 = .ok (.lastore, 1) := by decide +kernel
theorem dL_isSound_16 : decode cL_isSound 16 = .ok (.goto 6, 3) := by decide +kernel
theorem dL_isSound_19 : decode cL_isSound 19 = .ok (.astore_n 3, 1) := by decide +kernel
theorem dL_isSound_20 : decode cL_isSound 20 = .ok (.iconst 1, 1) := by decide +kernel
theorem dL_isSound_21 : decode cL_isSound 21 = .ok (.ireturn, 1) := by decide +kernel
theorem dL_isSound_22 : decode cL_isSound 22 = .ok (.iconst 0, 1) := by decide +kernel
theorem dL_isSound_23 : decode cL_isSound 23 = .ok (.ireturn, 1) := by decide +kernel
set_option maxRecDepth 20000 in
theorem ggL_ringsLeft_X4_ringsLeft : GoodIn wsL_ringsLeft wsX4_ringsLeft := goodIn_ca (goodIn_r _ [6, 7, 8, 9, 5, 10, 11, 12, 13, 14, 15, 16, 17, 18, 19, 20, 21, 22, 23, 24, 25, 26, 27, 28, 29, 30, 31, 32, 33, 34, 35, 36, 37, 38, 39, 40, 41, 42, 43, 44, 45, 46] (by decide +kernel) (by decide +kernel)) (goodIn_sub (fun _ h => List.mem_cons_of_mem _ (List.mem_append_right _ h)) (by decide +kernel))
set_option maxRecDepth 20000 in
theorem gL_ringsLeft_X4_ringsLeft : GoodIn wsL_ringsLeft (wsV RL 67 RX4 yX4_ringsLeft wsX4_ringsLeft) := goodIn_app (goodIn_of _ (by decide +kernel)) ggL_ringsLeft_X4_ringsLeft
theorem dL_ringsLeft_0 : decode cL_ringsLeft 0 = .ok (.aload_n 3, 1) := by decide +kernel
theorem dL_ringsLeft_1 : decode cL_ringsLeft 1 = .ok (.iconst 0, 1) := by decide +kernel
theorem dL_ringsLeft_2 : decode cL_ringsLeft 2 = .ok (.aload_n 0, 1) := by decide +kernel
theorem dL_ringsLeft_3 : decode cL_ringsLeft 3 = .ok (.iload_n 1, 1) := by decide +kernel
theorem dL_ringsLeft_4 : decode cL_ringsLeft 4 = .ok (.iload_n 2, 1) := by decide +kernel
theorem dL_ringsLeft_5 : decode cL_ringsLeft 5 = .ok (.invokevirtual 67, 3) := by decide +kernel
theorem dL_ringsLeft_8 : decode cL_ringsLeft 8 = .ok (.i2l, 1) := by decide +kernel
theorem dL_ringsLeft_9 : decode cL_ringsLeft 9 = .ok (.lastore, 1) := by decide +kernel
theorem dL_ringsLeft_10 : decode cL_ringsLeft 10 = .ok (.goto 7, 3) := by decide +kernel
theorem dL_ringsLeft_13 : decode cL_ringsLeft 13 = .ok (.astore 4, 2) := by decide +kernel
theorem dL_ringsLeft_15 : decode cL_ringsLeft 15 = .ok (.iconst 1, 1) := by decide +kernel
theorem dL_ringsLeft_16 : decode cL_ringsLeft 16 = .ok (.ireturn, 1) := by decide +kernel
theorem dL_ringsLeft_17 : decode cL_ringsLeft 17 = .ok (.iconst 0, 1) := by decide +kernel
theorem dL_ringsLeft_18 : decode cL_ringsLeft 18 = .ok (.ireturn, 1) := by decide +kernel
set_option maxRecDepth 20000 in
theorem ggL_points_X4_points : GoodIn wsL_points wsX4_points := goodIn_ca (goodIn_r _ [6, 7, 8, 9, 5, 10, 11, 12, 13, 14, 15, 16, 17, 18, 19, 20, 21, 22, 23, 24, 25, 26, 27, 28, 29, 30, 31, 32, 33, 34, 35, 36, 37] (by decide +kernel) (by decide +kernel)) (goodIn_sub (fun _ h => List.mem_cons_of_mem _ (List.mem_append_right _ h)) (by decide +kernel))
set_option maxRecDepth 20000 in
theorem gL_points_X4_points : GoodIn wsL_points (wsV RL 70 RX4 yX4_points wsX4_points) := goodIn_app (goodIn_of _ (by decide +kernel)) ggL_points_X4_points
theorem dL_points_0 : decode cL_points 0 = .ok (.aload_n 2, 1) := by decide +kernel
theorem dL_points_1 : decode cL_points 1 = .ok (.iconst 0, 1) := by decide +kernel
theorem dL_points_2 : decode cL_points 2 = .ok (.aload_n 0, 1) := by decide +kernel
theorem dL_points_3 : decode cL_points 3 = .ok (.iload_n 1, 1) := by decide +kernel
theorem dL_points_4 : decode cL_points 4 = .ok (.invokevirtual 70, 3) := by decide +kernel
theorem dL_points_7 : decode cL_points 7 = .ok (.i2l, 1) := by decide +kernel
theorem dL_points_8 : decode cL_points 8 = .ok (.lastore, 1) := by decide +kernel
theorem dL_points_9 : decode cL_points 9 = .ok (.goto 6, 3) := by decide +kernel
theorem dL_points_12 : decode cL_points 12 = .ok (.astore_n 3, 1) := by decide +kernel
theorem dL_points_13 : decode cL_points 13 = .ok (.iconst 1, 1) := by decide +kernel
theorem dL_points_14 : decode cL_points 14 = .ok (.ireturn, 1) := by decide +kernel
theorem dL_points_15 : decode cL_points 15 = .ok (.iconst 0, 1) := by decide +kernel
theorem dL_points_16 : decode cL_points 16 = .ok (.ireturn, 1) := by decide +kernel
set_option maxRecDepth 20000 in
theorem ggL_secondsRung_X4_secondsRung : GoodIn wsL_secondsRung wsX4_secondsRung := goodIn_ca (goodIn_r _ [6, 7, 8, 9, 5, 10, 11, 12, 13, 14, 15, 16, 17, 18, 19, 20, 21, 22, 23, 24, 25, 26, 27, 28, 29, 30, 31, 32, 33, 34, 35, 36, 37] (by decide +kernel) (by decide +kernel)) (goodIn_sub (fun _ h => List.mem_cons_of_mem _ (List.mem_append_right _ h)) (by decide +kernel))
set_option maxRecDepth 20000 in
theorem gL_secondsRung_X4_secondsRung : GoodIn wsL_secondsRung (wsV RL 73 RX4 yX4_secondsRung wsX4_secondsRung) := goodIn_app (goodIn_of _ (by decide +kernel)) ggL_secondsRung_X4_secondsRung
theorem dL_secondsRung_0 : decode cL_secondsRung 0 = .ok (.aload_n 2, 1) := by decide +kernel
theorem dL_secondsRung_1 : decode cL_secondsRung 1 = .ok (.iconst 0, 1) := by decide +kernel
theorem dL_secondsRung_2 : decode cL_secondsRung 2 = .ok (.aload_n 0, 1) := by decide +kernel
theorem dL_secondsRung_3 : decode cL_secondsRung 3 = .ok (.iload_n 1, 1) := by decide +kernel
theorem dL_secondsRung_4 : decode cL_secondsRung 4 = .ok (.invokevirtual 73, 3) := by decide +kernel
theorem dL_secondsRung_7 : decode cL_secondsRung 7 = .ok (.i2l, 1) := by decide +kernel
theorem dL_secondsRung_8 : decode cL_secondsRung 8 = .ok (.lastore, 1) := by decide +kernel
theorem dL_secondsRung_9 : decode cL_secondsRung 9 = .ok (.goto 6, 3) := by decide +kernel
theorem dL_secondsRung_12 : decode cL_secondsRung 12 = .ok (.astore_n 3, 1) := by decide +kernel
theorem dL_secondsRung_13 : decode cL_secondsRung 13 = .ok (.iconst 1, 1) := by decide +kernel
theorem dL_secondsRung_14 : decode cL_secondsRung 14 = .ok (.ireturn, 1) := by decide +kernel
theorem dL_secondsRung_15 : decode cL_secondsRung 15 = .ok (.iconst 0, 1) := by decide +kernel
theorem dL_secondsRung_16 : decode cL_secondsRung 16 = .ok (.ireturn, 1) := by decide +kernel
set_option maxRecDepth 20000 in
theorem ggL_quietBroken_X4_quietBroken : GoodIn wsL_quietBroken wsX4_quietBroken := goodIn_ca (goodIn_r _ [6, 7, 8, 9, 5, 10, 11, 12, 13, 14, 15, 16, 17, 18, 19, 20, 21, 22, 23, 24, 25, 26, 27, 28, 29, 30, 31, 32, 33, 34, 35, 36, 37] (by decide +kernel) (by decide +kernel)) (goodIn_sub (fun _ h => List.mem_cons_of_mem _ (List.mem_append_right _ h)) (by decide +kernel))
set_option maxRecDepth 20000 in
theorem gL_quietBroken_X4_quietBroken : GoodIn wsL_quietBroken (wsV RL 76 RX4 yX4_quietBroken wsX4_quietBroken) := goodIn_app (goodIn_of _ (by decide +kernel)) ggL_quietBroken_X4_quietBroken
theorem dL_quietBroken_0 : decode cL_quietBroken 0 = .ok (.aload_n 2, 1) := by decide +kernel
theorem dL_quietBroken_1 : decode cL_quietBroken 1 = .ok (.iconst 0, 1) := by decide +kernel
theorem dL_quietBroken_2 : decode cL_quietBroken 2 = .ok (.aload_n 0, 1) := by decide +kernel
theorem dL_quietBroken_3 : decode cL_quietBroken 3 = .ok (.iload_n 1, 1) := by decide +kernel
theorem dL_quietBroken_4 : decode cL_quietBroken 4 = .ok (.invokevirtual 76, 3) := by decide +kernel
theorem dL_quietBroken_7 : decode cL_quietBroken 7 = .ok (.i2l, 1) := by decide +kernel
theorem dL_quietBroken_8 : decode cL_quietBroken 8 = .ok (.lastore, 1) := by decide +kernel
theorem dL_quietBroken_9 : decode cL_quietBroken 9 = .ok (.goto 6, 3) := by decide +kernel
theorem dL_quietBroken_12 : decode cL_quietBroken 12 = .ok (.astore_n 3, 1) := by decide +kernel
theorem dL_quietBroken_13 : decode cL_quietBroken 13 = .ok (.iconst 1, 1) := by decide +kernel
theorem dL_quietBroken_14 : decode cL_quietBroken 14 = .ok (.ireturn, 1) := by decide +kernel
theorem dL_quietBroken_15 : decode cL_quietBroken 15 = .ok (.iconst 0, 1) := by decide +kernel
theorem dL_quietBroken_16 : decode cL_quietBroken 16 = .ok (.ireturn, 1) := by decide +kernel
set_option maxRecDepth 20000 in
theorem ggL_hushed_X4_hushed : GoodIn wsL_hushed wsX4_hushed := goodIn_ca (goodIn_r _ [6, 7, 8, 9, 5, 10, 11, 12, 13, 14, 15, 16, 17, 18, 19, 20, 21, 22, 23, 24, 25, 26, 27, 28, 29, 30, 31, 32, 33, 34, 35, 36, 37] (by decide +kernel) (by decide +kernel)) (goodIn_sub (fun _ h => List.mem_cons_of_mem _ (List.mem_append_right _ h)) (by decide +kernel))
set_option maxRecDepth 20000 in
theorem gL_hushed_X4_hushed : GoodIn wsL_hushed (wsV RL 79 RX4 yX4_hushed wsX4_hushed) := goodIn_app (goodIn_of _ (by decide +kernel)) ggL_hushed_X4_hushed
theorem dL_hushed_0 : decode cL_hushed 0 = .ok (.aload_n 2, 1) := by decide +kernel
theorem dL_hushed_1 : decode cL_hushed 1 = .ok (.iconst 0, 1) := by decide +kernel
theorem dL_hushed_2 : decode cL_hushed 2 = .ok (.aload_n 0, 1) := by decide +kernel
theorem dL_hushed_3 : decode cL_hushed 3 = .ok (.iload_n 1, 1) := by decide +kernel
theorem dL_hushed_4 : decode cL_hushed 4 = .ok (.invokevirtual 79, 3) := by decide +kernel
theorem dL_hushed_7 : decode cL_hushed 7 = .ok (.i2l, 1) := by decide +kernel
theorem dL_hushed_8 : decode cL_hushed 8 = .ok (.lastore, 1) := by decide +kernel
theorem dL_hushed_9 : decode cL_hushed 9 = .ok (.goto 6, 3) := by decide +kernel
theorem dL_hushed_12 : decode cL_hushed 12 = .ok (.astore_n 3, 1) := by decide +kernel
theorem dL_hushed_13 : decode cL_hushed 13 = .ok (.iconst 1, 1) := by decide +kernel
theorem dL_hushed_14 : decode cL_hushed 14 = .ok (.ireturn, 1) := by decide +kernel
theorem dL_hushed_15 : decode cL_hushed 15 = .ok (.iconst 0, 1) := by decide +kernel
theorem dL_hushed_16 : decode cL_hushed 16 = .ok (.ireturn, 1) := by decide +kernel
set_option maxRecDepth 20000 in
theorem ggL_faultAt_X4_faultAt : GoodIn wsL_faultAt wsX4_faultAt := goodIn_ca (goodIn_r _ [6, 7, 8, 9, 10, 11, 12, 13, 14, 15, 16, 17] (by decide +kernel) (by decide +kernel)) (goodIn_sub (fun _ h => List.mem_cons_of_mem _ (List.mem_append_right _ h)) (by decide +kernel))
set_option maxRecDepth 20000 in
theorem gL_faultAt_X4_faultAt : GoodIn wsL_faultAt (wsV RL 82 RX4 yX4_faultAt wsX4_faultAt) := goodIn_app (goodIn_of _ (by decide +kernel)) ggL_faultAt_X4_faultAt
theorem dL_faultAt_0 : decode cL_faultAt 0 = .ok (.aload_n 2, 1) := by decide +kernel
theorem dL_faultAt_1 : decode cL_faultAt 1 = .ok (.iconst 0, 1) := by decide +kernel
theorem dL_faultAt_2 : decode cL_faultAt 2 = .ok (.aload_n 0, 1) := by decide +kernel
theorem dL_faultAt_3 : decode cL_faultAt 3 = .ok (.iload_n 1, 1) := by decide +kernel
theorem dL_faultAt_4 : decode cL_faultAt 4 = .ok (.invokevirtual 82, 3) := by decide +kernel
theorem dL_faultAt_7 : decode cL_faultAt 7 = .ok (.i2l, 1) := by decide +kernel
theorem dL_faultAt_8 : decode cL_faultAt 8 = .ok (.lastore, 1) := by decide +kernel
theorem dL_faultAt_9 : decode cL_faultAt 9 = .ok (.goto 6, 3) := by decide +kernel
theorem dL_faultAt_12 : decode cL_faultAt 12 = .ok (.astore_n 3, 1) := by decide +kernel
theorem dL_faultAt_13 : decode cL_faultAt 13 = .ok (.iconst 1, 1) := by decide +kernel
theorem dL_faultAt_14 : decode cL_faultAt 14 = .ok (.ireturn, 1) := by decide +kernel
theorem dL_faultAt_15 : decode cL_faultAt 15 = .ok (.iconst 0, 1) := by decide +kernel
theorem dL_faultAt_16 : decode cL_faultAt 16 = .ok (.ireturn, 1) := by decide +kernel
set_option maxRecDepth 20000 in
theorem ggL_law_X4_init : GoodIn wsL_law wsX4_init := goodIn_r _ [10, 11, 12, 13, 14, 15, 16, 17, 18, 19, 20, 21, 22, 23, 24, 25, 26, 27, 28, 29, 30, 31, 32, 33, 34, 35, 36, 37, 38, 39, 40, 41, 42, 43, 44, 45, 46, 47, 48, 49, 50, 51, 52, 53, 54, 55, 56, 57, 58, 59, 60, 509, 510, 511, 512, 513, 514, 515, 539, 540, 541, 542, 543, 544, 545, 546, 547, 548, 549, 550, 551, 552, 553, 554, 555, 556, 557] (by decide +kernel) (by decide +kernel)
set_option maxRecDepth 20000 in
theorem gL_law_X4_init : GoodIn wsL_law (wsX4_init) := ggL_law_X4_init
set_option maxRecDepth 20000 in
theorem ggL_law_X5_init : GoodIn wsL_law wsX5_init := goodIn_r _ [63, 64, 12, 13, 20, 65, 66, 6, 67, 68, 69, 70, 71, 72, 73, 74, 75, 76, 77, 78, 79, 80, 81, 82, 83, 516, 517, 518, 519, 520, 521, 522, 523, 524, 525, 526, 527, 528, 529, 530, 531, 532, 533, 534, 535, 536, 537, 538] (by decide +kernel) (by decide +kernel)
set_option maxRecDepth 20000 in
theorem gL_law_X5_init : GoodIn wsL_law (wsX5_init) := ggL_law_X5_init
set_option maxRecDepth 20000 in
theorem ggL_law_L_addMelody : GoodIn wsL_law wsL_addMelody := goodIn_ca (goodIn_ca (goodIn_ca (goodIn_r _ [87, 88, 89, 90, 91, 92, 93, 2, 94, 95, 96, 97, 98, 22, 19, 18, 99, 100, 101, 102, 103, 104, 105, 106, 107, 108, 109, 110, 12, 13, 111, 112, 113, 114, 509, 510, 511, 512, 513, 514, 515, 558, 559, 560, 561] (by decide +kernel) (by decide +kernel)) (goodIn_sub (fun _ h => List.mem_append_left _ (List.mem_append_left _ (List.mem_append_right _ h))) (by decide +kernel))) (goodIn_sub (fun _ h => List.mem_append_left _ (List.mem_append_right _ h)) (by decide +kernel))) (goodIn_sub (fun _ h => List.mem_append_right _ h) (by decide +kernel))
set_option maxRecDepth 20000 in
theorem gL_law_L_addMelody : GoodIn wsL_law (va_wsS RL 91 yL_addMelody wsL_addMelody) := goodIn_app (goodIn_of _ (by decide +kernel)) ggL_law_L_addMelody
set_option maxRecDepth 20000 in
theorem ggL_law_X5_addMelody : GoodIn wsL_law wsX5_addMelody := goodIn_r _ [118, 119, 120, 65, 66, 67, 121, 122, 5, 123, 124, 125, 126, 127, 128, 129, 130, 516, 517, 518, 519, 520, 521, 522, 523, 524, 525, 526, 527, 528, 529, 530, 531, 532, 533, 534, 535, 536, 537, 538] (by decide +kernel) (by decide +kernel)
set_option maxRecDepth 20000 in
theorem gL_law_X5_addMelody : GoodIn wsL_law (wsV RL 96 RX5 yX5_addMelody wsX5_addMelody) := goodIn_app (goodIn_of _ (by decide +kernel)) ggL_law_X5_addMelody
set_option maxRecDepth 20000 in
theorem ggL_law_X5_thrown : GoodIn wsL_law wsX5_thrown := goodIn_r _ [134, 119, 516, 517, 518, 519, 520, 521, 522, 523, 524, 525, 526, 527, 528, 529, 530, 531, 532, 533, 534, 535, 536, 537, 538] (by decide +kernel) (by decide +kernel)
set_option maxRecDepth 20000 in
theorem gL_law_X5_thrown : GoodIn wsL_law (wsV RL 97 RX5 yX5_thrown wsX5_thrown) := goodIn_app (goodIn_of _ (by decide +kernel)) ggL_law_X5_thrown
set_option maxRecDepth 20000 in
theorem ggL_law_L_toneAt : GoodIn wsL_law wsL_toneAt := goodIn_ca (goodIn_r _ [137, 88, 138, 139, 140, 2, 141, 105, 106, 142, 143, 144, 145, 19, 146, 147, 148, 100, 149, 114, 558, 559, 560, 561, 509, 510, 511, 512, 513, 514, 515] (by decide +kernel) (by decide +kernel)) (goodIn_sub (fun _ h => List.mem_append_right _ h) (by decide +kernel))
set_option maxRecDepth 20000 in
theorem gL_law_L_toneAt : GoodIn wsL_law (va_wsS RL 101 yL_toneAt wsL_toneAt) := goodIn_app (goodIn_of _ (by decide +kernel)) ggL_law_L_toneAt
set_option maxRecDepth 20000 in
theorem ggL_law_X5_toneAt : GoodIn wsL_law wsX5_toneAt := goodIn_r _ [153, 66, 154, 155, 156, 5, 157, 120, 119, 124, 125, 126, 158, 159, 160, 161, 67, 162, 127, 128, 129, 130, 516, 517, 518, 519, 520, 521, 522, 523, 524, 525, 526, 527, 528, 529, 530, 531, 532, 533, 534, 535, 536, 537, 538] (by decide +kernel) (by decide +kernel)
set_option maxRecDepth 20000 in
theorem gL_law_X5_toneAt : GoodIn wsL_law (wsV RL 104 RX5 yX5_toneAt wsX5_toneAt) := goodIn_app (goodIn_of _ (by decide +kernel)) ggL_law_X5_toneAt
set_option maxRecDepth 20000 in
theorem ggL_law_L_shifted : GoodIn wsL_law wsL_shifted := goodIn_ca (goodIn_ca (goodIn_r _ [165, 88, 89, 166, 167, 168, 2, 169, 95, 96, 142, 143, 144, 145, 105, 106, 19, 170, 171, 172, 100, 173, 113, 174, 147, 148, 149, 114, 509, 510, 511, 512, 513, 514, 515, 558, 559, 560, 561] (by decide +kernel) (by decide +kernel)) (goodIn_sub (fun _ h => List.mem_append_left _ (List.mem_append_left _ (List.mem_append_right _ h))) (by decide +kernel))) (goodIn_sub (fun _ h => List.mem_append_right _ h) (by decide +kernel))
set_option maxRecDepth 20000 in
theorem gL_law_L_shifted : GoodIn wsL_law (va_wsS RL 105 yL_shifted wsL_shifted) := goodIn_app (goodIn_of _ (by decide +kernel)) ggL_law_L_shifted
set_option maxRecDepth 20000 in
theorem ggL_law_X5_shifted : GoodIn wsL_law wsX5_shifted := goodIn_r _ [178, 66, 154, 155, 156, 5, 157, 120, 119, 124, 125, 126, 127, 128, 129, 130, 158, 159, 160, 161, 67, 162, 516, 517, 518, 519, 520, 521, 522, 523, 524, 525, 526, 527, 528, 529, 530, 531, 532, 533, 534, 535, 536, 537, 538] (by decide +kernel) (by decide +kernel)
set_option maxRecDepth 20000 in
theorem gL_law_X5_shifted : GoodIn wsL_law (wsV RL 107 RX5 yX5_shifted wsX5_shifted) := goodIn_app (goodIn_of _ (by decide +kernel)) ggL_law_X5_shifted
set_option maxRecDepth 20000 in
theorem ggL_law_L_turned : GoodIn wsL_law wsL_turned := goodIn_ca (goodIn_r _ [181, 88, 182, 183, 184, 2, 185, 142, 143, 144, 145, 105, 106, 19, 186, 187, 188, 100, 189, 113, 174, 147, 148, 149, 114, 509, 510, 511, 512, 513, 514, 515, 558, 559, 560, 561] (by decide +kernel) (by decide +kernel)) (goodIn_sub (fun _ h => List.mem_append_right _ h) (by decide +kernel))
set_option maxRecDepth 20000 in
theorem gL_law_L_turned : GoodIn wsL_law (va_wsS RL 108 yL_turned wsL_turned) := goodIn_app (goodIn_of _ (by decide +kernel)) ggL_law_L_turned
set_option maxRecDepth 20000 in
theorem ggL_law_X5_turned : GoodIn wsL_law wsX5_turned := goodIn_r _ [193, 66, 154, 155, 156, 5, 157, 120, 119, 124, 125, 126, 158, 159, 160, 161, 67, 162, 516, 517, 518, 519, 520, 521, 522, 523, 524, 525, 526, 527, 528, 529, 530, 531, 532, 533, 534, 535, 536, 537, 538] (by decide +kernel) (by decide +kernel)
set_option maxRecDepth 20000 in
theorem gL_law_X5_turned : GoodIn wsL_law (wsV RL 111 RX5 yX5_turned wsX5_turned) := goodIn_app (goodIn_of _ (by decide +kernel)) ggL_law_X5_turned
set_option maxRecDepth 20000 in
theorem ggL_law_L_areAlike : GoodIn wsL_law wsL_areAlike := goodIn_ca (goodIn_r _ [196, 88, 197, 198, 199, 2, 200, 142, 143, 144, 145, 105, 106, 19, 201, 202, 203, 100, 204, 113, 114, 174, 147, 148, 149, 205, 171, 172, 173, 509, 510, 511, 512, 513, 514, 515, 558, 559, 560, 561] (by decide +kernel) (by decide +kernel)) (goodIn_sub (fun _ h => List.mem_append_right _ h) (by decide +kernel))
set_option maxRecDepth 20000 in
theorem gL_law_L_areAlike : GoodIn wsL_law (va_wsS RL 112 yL_areAlike wsL_areAlike) := goodIn_app (goodIn_of _ (by decide +kernel)) ggL_law_L_areAlike
set_option maxRecDepth 20000 in
theorem ggL_law_X5_areAlike : GoodIn wsL_law wsX5_areAlike := goodIn_r _ [209, 120, 119, 66, 124, 125, 5, 126, 158, 159, 160, 161, 67, 162, 516, 517, 518, 519, 520, 521, 522, 523, 524, 525, 526, 527, 528, 529, 530, 531, 532, 533, 534, 535, 536, 537, 538] (by decide +kernel) (by decide +kernel)
set_option maxRecDepth 20000 in
theorem gL_law_X5_areAlike : GoodIn wsL_law (wsV RL 114 RX5 yX5_areAlike wsX5_areAlike) := goodIn_app (goodIn_of _ (by decide +kernel)) ggL_law_X5_areAlike
set_option maxRecDepth 20000 in
theorem ggL_law_L_license : GoodIn wsL_law wsL_license := goodIn_ca (goodIn_ca (goodIn_ca (goodIn_r _ [212, 88, 89, 90, 213, 214, 215, 2, 216, 95, 96, 97, 98, 217, 218, 219, 220, 15, 101, 102, 103, 104, 105, 106, 142, 143, 144, 145, 19, 558, 559, 560, 561, 539, 540, 541, 542, 543, 544, 545, 546, 547, 548, 549, 550, 551, 509, 510, 511, 512, 513, 514, 515] (by decide +kernel) (by decide +kernel)) (goodIn_sub (fun _ h => List.mem_append_left _ (List.mem_append_left _ (List.mem_append_right _ h))) (by decide +kernel))) (goodIn_sub (fun _ h => List.mem_append_left _ (List.mem_append_right _ h)) (by decide +kernel))) (goodIn_sub (fun _ h => List.mem_append_right _ h) (by decide +kernel))
set_option maxRecDepth 20000 in
theorem gL_law_L_license : GoodIn wsL_law (va_wsS RL 115 yL_license wsL_license) := goodIn_app (goodIn_of _ (by decide +kernel)) ggL_law_L_license
set_option maxRecDepth 20000 in
theorem ggL_law_X5_license : GoodIn wsL_law wsX5_license := goodIn_r _ [224, 120, 119, 65, 71, 121, 122, 5, 123, 124, 125, 126, 127, 128, 129, 130, 516, 517, 518, 519, 520, 521, 522, 523, 524, 525, 526, 527, 528, 529, 530, 531, 532, 533, 534, 535, 536, 537, 538] (by decide +kernel) (by decide +kernel)
set_option maxRecDepth 20000 in
theorem gL_law_X5_license : GoodIn wsL_law (wsV RL 118 RX5 yX5_license wsX5_license) := goodIn_app (goodIn_of _ (by decide +kernel)) ggL_law_X5_license
set_option maxRecDepth 20000 in
theorem ggL_law_L_setQuiet : GoodIn wsL_law wsL_setQuiet := goodIn_ca (goodIn_ca (goodIn_r _ [227, 88, 89, 228, 229, 230, 2, 231, 95, 96, 24, 217, 218, 219, 220, 15, 101, 102, 103, 104, 105, 106, 232, 233, 234, 26, 235, 236, 237, 238, 239, 37, 38, 240, 241, 242, 243, 244, 245, 246, 247, 248, 249, 539, 540, 541, 542, 543, 544, 545, 546, 547, 548, 549, 550, 551, 509, 510, 511, 512, 513, 514, 515] (by decide +kernel) (by decide +kernel)) (goodIn_sub (fun _ h => List.mem_append_left _ (List.mem_append_left _ (List.mem_append_right _ h))) (by decide +kernel))) (goodIn_sub (fun _ h => List.mem_append_right _ h) (by decide +kernel))
set_option maxRecDepth 20000 in
theorem gL_law_L_setQuiet : GoodIn wsL_law (va_wsS RL 119 yL_setQuiet wsL_setQuiet) := goodIn_app (goodIn_of _ (by decide +kernel)) ggL_law_L_setQuiet
set_option maxRecDepth 20000 in
theorem ggL_law_X5_setQuiet : GoodIn wsL_law wsX5_setQuiet := goodIn_r _ [253, 119, 72, 73, 121, 122, 5, 123, 124, 125, 126, 254, 255, 256, 257, 258, 516, 517, 518, 519, 520, 521, 522, 523, 524, 525, 526, 527, 528, 529, 530, 531, 532, 533, 534, 535, 536, 537, 538] (by decide +kernel) (by decide +kernel)
set_option maxRecDepth 20000 in
theorem gL_law_X5_setQuiet : GoodIn wsL_law (wsV RL 121 RX5 yX5_setQuiet wsX5_setQuiet) := goodIn_app (goodIn_of _ (by decide +kernel)) ggL_law_X5_setQuiet
set_option maxRecDepth 20000 in
theorem ggL_law_L_lay : GoodIn wsL_law wsL_lay := goodIn_ca (goodIn_ca (goodIn_r _ [261, 88, 89, 262, 263, 264, 2, 265, 95, 96, 266, 267, 268, 269, 105, 106, 217, 218, 219, 220, 15, 101, 102, 103, 104, 142, 143, 144, 145, 19, 554, 555, 556, 557, 558, 559, 560, 561, 539, 540, 541, 542, 543, 544, 545, 546, 547, 548, 549, 550, 551, 509, 510, 511, 512, 513, 514, 515] (by decide +kernel) (by decide +kernel)) (goodIn_sub (fun _ h => List.mem_append_left _ (List.mem_append_left _ (List.mem_append_right _ h))) (by decide +kernel))) (goodIn_sub (fun _ h => List.mem_append_right _ h) (by decide +kernel))
set_option maxRecDepth 20000 in
theorem gL_law_L_lay : GoodIn wsL_law (va_wsS RL 122 yL_lay wsL_lay) := goodIn_app (goodIn_of _ (by decide +kernel)) ggL_law_L_lay
set_option maxRecDepth 20000 in
theorem ggL_law_X5_lay : GoodIn wsL_law wsX5_lay := goodIn_r _ [273, 120, 119, 68, 69, 70, 121, 122, 5, 123, 124, 125, 126, 516, 517, 518, 519, 520, 521, 522, 523, 524, 525, 526, 527, 528, 529, 530, 531, 532, 533, 534, 535, 536, 537, 538] (by decide +kernel) (by decide +kernel)
set_option maxRecDepth 20000 in
theorem gL_law_X5_lay : GoodIn wsL_law (wsV RL 125 RX5 yX5_lay wsX5_lay) := goodIn_app (goodIn_of _ (by decide +kernel)) ggL_law_X5_lay
set_option maxRecDepth 20000 in
theorem ggL_law_L_press : GoodIn wsL_law wsL_press := goodIn_ca (goodIn_ca (goodIn_r _ [276, 88, 90, 277, 278, 279, 2, 280, 97, 98, 24, 217, 218, 219, 220, 15, 101, 102, 103, 104, 105, 106, 266, 267, 268, 269, 232, 233, 234, 26, 235, 236, 237, 238, 239, 37, 38, 240, 241, 242, 243, 244, 245, 246, 247, 248, 249, 281, 282, 283, 284, 45, 35, 285, 286, 287, 288, 34, 289, 290, 291, 292, 36, 293, 294, 295, 296, 297, 298, 299, 100, 300, 113, 301, 302, 303, 48, 304, 54, 55, 554, 555, 556, 557, 539, 540, 541, 542, 543, 544, 545, 546, 547, 548, 549, 550, 551, 509, 510, 511, 512, 513, 514, 515, 558, 559, 560, 561] (by decide +kernel) (by decide +kernel)) (goodIn_sub (fun _ h => List.mem_append_left _ (List.mem_append_right _ h)) (by decide +kernel))) (goodIn_sub (fun _ h => List.mem_append_right _ h) (by decide +kernel))
set_option maxRecDepth 20000 in
theorem gL_law_L_press : GoodIn wsL_law (va_wsS RL 126 yL_press wsL_press) := goodIn_app (goodIn_of _ (by decide +kernel)) ggL_law_L_press
set_option maxRecDepth 20000 in
theorem ggL_law_X5_press : GoodIn wsL_law wsX5_press := goodIn_r _ [308, 119, 68, 74, 70, 78, 65, 71, 69, 121, 122, 5, 123, 124, 125, 126, 127, 128, 129, 130, 254, 255, 256, 257, 258, 72, 73, 309, 310, 311, 312, 313, 314, 315, 316, 66, 516, 517, 518, 519, 520, 521, 522, 523, 524, 525, 526, 527, 528, 529, 530, 531, 532, 533, 534, 535, 536, 537, 538] (by decide +kernel) (by decide +kernel)
set_option maxRecDepth 20000 in
theorem gL_law_X5_press : GoodIn wsL_law (wsV RL 128 RX5 yX5_press wsX5_press) := goodIn_app (goodIn_of _ (by decide +kernel)) ggL_law_X5_press
set_option maxRecDepth 20000 in
theorem ggL_law_L_fault : GoodIn wsL_law wsL_fault := goodIn_ca (goodIn_ca (goodIn_r _ [319, 88, 90, 320, 321, 322, 2, 323, 97, 98, 23, 15, 24, 21, 217, 218, 219, 220, 101, 102, 103, 104, 105, 106, 324, 325, 326, 26, 327, 34, 328, 298, 299, 100, 300, 113, 329, 302, 303, 48, 304, 54, 55, 289, 290, 291, 292, 36, 539, 540, 541, 542, 543, 544, 545, 546, 547, 548, 549, 550, 551, 509, 510, 511, 512, 513, 514, 515, 554, 555, 556, 557, 558, 559, 560, 561] (by decide +kernel) (by decide +kernel)) (goodIn_sub (fun _ h => List.mem_append_left _ (List.mem_append_right _ h)) (by decide +kernel))) (goodIn_sub (fun _ h => List.mem_append_right _ h) (by decide +kernel))
set_option maxRecDepth 20000 in
theorem gL_law_L_fault : GoodIn wsL_law (va_wsS RL 129 yL_fault wsL_fault) := goodIn_app (goodIn_of _ (by decide +kernel)) ggL_law_L_fault
set_option maxRecDepth 20000 in
theorem ggL_law_X5_fault : GoodIn wsL_law wsX5_fault := goodIn_r _ [333, 74, 334, 119, 68, 70, 83, 258, 80, 121, 122, 5, 123, 124, 125, 126, 313, 314, 315, 316, 66, 309, 310, 311, 312, 516, 517, 518, 519, 520, 521, 522, 523, 524, 525, 526, 527, 528, 529, 530, 531, 532, 533, 534, 535, 536, 537, 538] (by decide +kernel) (by decide +kernel)
set_option maxRecDepth 20000 in
theorem gL_law_X5_fault : GoodIn wsL_law (wsV RL 131 RX5 yX5_fault wsX5_fault) := goodIn_app (goodIn_of _ (by decide +kernel)) ggL_law_X5_fault
set_option maxRecDepth 20000 in
theorem ggL_law_L_repair : GoodIn wsL_law wsL_repair := goodIn_ca (goodIn_ca (goodIn_r _ [337, 88, 90, 338, 339, 340, 2, 341, 97, 98, 17, 24, 217, 218, 219, 220, 15, 101, 102, 103, 104, 105, 106, 509, 510, 511, 512, 513, 514, 515, 539, 540, 541, 542, 543, 544, 545, 546, 547, 548, 549, 550, 551, 552, 553] (by decide +kernel) (by decide +kernel)) (goodIn_sub (fun _ h => List.mem_append_left _ (List.mem_append_right _ h)) (by decide +kernel))) (goodIn_sub (fun _ h => List.mem_append_right _ h) (by decide +kernel))
set_option maxRecDepth 20000 in
theorem gL_law_L_repair : GoodIn wsL_law (va_wsS RL 132 yL_repair wsL_repair) := goodIn_app (goodIn_of _ (by decide +kernel)) ggL_law_L_repair
set_option maxRecDepth 20000 in
theorem ggL_law_X5_repair : GoodIn wsL_law wsX5_repair := goodIn_r _ [345, 119, 74, 81, 258, 82, 121, 122, 5, 123, 124, 125, 126, 127, 128, 129, 130, 516, 517, 518, 519, 520, 521, 522, 523, 524, 525, 526, 527, 528, 529, 530, 531, 532, 533, 534, 535, 536, 537, 538] (by decide +kernel) (by decide +kernel)
set_option maxRecDepth 20000 in
theorem gL_law_X5_repair : GoodIn wsL_law (wsV RL 134 RX5 yX5_repair wsX5_repair) := goodIn_app (goodIn_of _ (by decide +kernel)) ggL_law_X5_repair
set_option maxRecDepth 20000 in
theorem ggL_law_L_pass : GoodIn wsL_law wsL_pass := goodIn_ca (goodIn_ca (goodIn_r _ [348, 89, 90, 349, 350, 351, 2, 352, 95, 96, 97, 98, 24, 353, 354, 355, 356, 357, 358, 244, 245, 246, 15, 17, 359, 360, 361, 26, 362, 34, 363, 364, 365, 366, 367, 368, 369, 370, 40, 41, 44, 371, 372, 373, 374, 236, 237, 238, 239, 37, 38, 240, 241, 242, 243, 247, 248, 249, 375, 376, 377, 378, 379, 380, 381, 28, 382, 59, 60, 383, 384, 385, 386, 39, 43, 509, 510, 511, 512, 513, 514, 515, 552, 553, 539, 540, 541, 542, 543, 544, 545, 546, 547, 548, 549, 550, 551, 554, 555, 556, 557] (by decide +kernel) (by decide +kernel)) (goodIn_sub (fun _ h => List.mem_append_left _ (List.mem_append_left _ (List.mem_append_right _ h))) (by decide +kernel))) (goodIn_sub (fun _ h => List.mem_append_left _ (List.mem_append_right _ h)) (by decide +kernel))
set_option maxRecDepth 20000 in
theorem gL_law_L_pass : GoodIn wsL_law (va_wsS RL 135 yL_pass wsL_pass) := goodIn_app (goodIn_of _ (by decide +kernel)) ggL_law_L_pass
set_option maxRecDepth 20000 in
theorem ggL_law_X5_pass : GoodIn wsL_law wsX5_pass := goodIn_r _ [390, 258, 391, 119, 124, 125, 5, 126, 392, 393, 394, 395, 70, 81, 74, 82, 75, 79, 80, 396, 397, 398, 399, 76, 77, 254, 255, 256, 257, 72, 73, 516, 517, 518, 519, 520, 521, 522, 523, 524, 525, 526, 527, 528, 529, 530, 531, 532, 533, 534, 535, 536, 537, 538] (by decide +kernel) (by decide +kernel)
set_option maxRecDepth 20000 in
theorem gL_law_X5_pass : GoodIn wsL_law (wsV RL 137 RX5 yX5_pass wsX5_pass) := goodIn_app (goodIn_of _ (by decide +kernel)) ggL_law_X5_pass
set_option maxRecDepth 20000 in
theorem ggL_law_X4_time : GoodIn wsL_law wsX4_time := goodIn_r _ [403, 24, 509, 510, 511, 512, 513, 514, 515] (by decide +kernel) (by decide +kernel)
set_option maxRecDepth 20000 in
theorem gL_law_X4_time : GoodIn wsL_law (wsV RL 138 RX4 yX4_time wsX4_time) := goodIn_app (goodIn_of _ (by decide +kernel)) ggL_law_X4_time
set_option maxRecDepth 20000 in
theorem ggL_law_X5_time : GoodIn wsL_law wsX5_time := goodIn_r _ [407, 119, 258, 516, 517, 518, 519, 520, 521, 522, 523, 524, 525, 526, 527, 528, 529, 530, 531, 532, 533, 534, 535, 536, 537, 538] (by decide +kernel) (by decide +kernel)
set_option maxRecDepth 20000 in
theorem gL_law_X5_time : GoodIn wsL_law (wsV RL 141 RX5 yX5_time wsX5_time) := goodIn_app (goodIn_of _ (by decide +kernel)) ggL_law_X5_time
set_option maxRecDepth 20000 in
theorem ggL_law_L_ringing : GoodIn wsL_law wsL_ringing := goodIn_ca (goodIn_r _ [410, 88, 411, 412, 413, 2, 414, 217, 218, 219, 220, 15, 101, 102, 103, 104, 105, 106, 415, 372, 373, 26, 374, 34, 509, 510, 511, 512, 513, 514, 515, 539, 540, 541, 542, 543, 544, 545, 546, 547, 548, 549, 550, 551, 554, 555, 556, 557] (by decide +kernel) (by decide +kernel)) (goodIn_sub (fun _ h => List.mem_append_right _ h) (by decide +kernel))
set_option maxRecDepth 20000 in
theorem gL_law_L_ringing : GoodIn wsL_law (va_wsS RL 142 yL_ringing wsL_ringing) := goodIn_app (goodIn_of _ (by decide +kernel)) ggL_law_L_ringing
set_option maxRecDepth 20000 in
theorem ggL_law_X5_ringing : GoodIn wsL_law wsX5_ringing := goodIn_r _ [419, 70, 420, 421, 422, 5, 423, 119, 121, 122, 123, 124, 125, 126, 516, 517, 518, 519, 520, 521, 522, 523, 524, 525, 526, 527, 528, 529, 530, 531, 532, 533, 534, 535, 536, 537, 538] (by decide +kernel) (by decide +kernel)
set_option maxRecDepth 20000 in
theorem gL_law_X5_ringing : GoodIn wsL_law (wsV RL 144 RX5 yX5_ringing wsX5_ringing) := goodIn_app (goodIn_of _ (by decide +kernel)) ggL_law_X5_ringing
set_option maxRecDepth 20000 in
theorem ggL_law_L_isSound : GoodIn wsL_law wsL_isSound := goodIn_ca (goodIn_r _ [426, 88, 427, 428, 429, 2, 430, 217, 218, 219, 220, 15, 101, 102, 103, 104, 105, 106, 539, 540, 541, 542, 543, 544, 545, 546, 547, 548, 549, 550, 551, 509, 510, 511, 512, 513, 514, 515] (by decide +kernel) (by decide +kernel)) (goodIn_sub (fun _ h => List.mem_append_right _ h) (by decide +kernel))
set_option maxRecDepth 20000 in
theorem gL_law_L_isSound : GoodIn wsL_law (va_wsS RL 145 yL_isSound wsL_isSound) := goodIn_app (goodIn_of _ (by decide +kernel)) ggL_law_L_isSound
set_option maxRecDepth 20000 in
theorem ggL_law_X5_isSound : GoodIn wsL_law wsX5_isSound := goodIn_r _ [434, 74, 420, 421, 422, 5, 423, 119, 121, 122, 123, 124, 125, 126, 516, 517, 518, 519, 520, 521, 522, 523, 524, 525, 526, 527, 528, 529, 530, 531, 532, 533, 534, 535, 536, 537, 538] (by decide +kernel) (by decide +kernel)
set_option maxRecDepth 20000 in
theorem gL_law_X5_isSound : GoodIn wsL_law (wsV RL 147 RX5 yX5_isSound wsX5_isSound) := goodIn_app (goodIn_of _ (by decide +kernel)) ggL_law_X5_isSound
set_option maxRecDepth 20000 in
theorem ggL_law_L_ringsLeft : GoodIn wsL_law wsL_ringsLeft := goodIn_ca (goodIn_r _ [437, 88, 438, 439, 440, 2, 441, 217, 218, 219, 220, 15, 101, 102, 103, 104, 105, 106, 142, 143, 144, 145, 19, 558, 559, 560, 561, 539, 540, 541, 542, 543, 544, 545, 546, 547, 548, 549, 550, 551, 509, 510, 511, 512, 513, 514, 515] (by decide +kernel) (by decide +kernel)) (goodIn_sub (fun _ h => List.mem_append_right _ h) (by decide +kernel))
set_option maxRecDepth 20000 in
theorem gL_law_L_ringsLeft : GoodIn wsL_law (va_wsS RL 148 yL_ringsLeft wsL_ringsLeft) := goodIn_app (goodIn_of _ (by decide +kernel)) ggL_law_L_ringsLeft
set_option maxRecDepth 20000 in
theorem ggL_law_X5_ringsLeft : GoodIn wsL_law wsX5_ringsLeft := goodIn_r _ [445, 120, 119, 65, 71, 121, 122, 5, 123, 124, 125, 126, 516, 517, 518, 519, 520, 521, 522, 523, 524, 525, 526, 527, 528, 529, 530, 531, 532, 533, 534, 535, 536, 537, 538] (by decide +kernel) (by decide +kernel)
set_option maxRecDepth 20000 in
theorem gL_law_X5_ringsLeft : GoodIn wsL_law (wsV RL 150 RX5 yX5_ringsLeft wsX5_ringsLeft) := goodIn_app (goodIn_of _ (by decide +kernel)) ggL_law_X5_ringsLeft
set_option maxRecDepth 20000 in
theorem ggL_law_L_points : GoodIn wsL_law wsL_points := goodIn_ca (goodIn_r _ [448, 88, 449, 450, 451, 2, 452, 217, 218, 219, 220, 15, 101, 102, 103, 104, 105, 106, 539, 540, 541, 542, 543, 544, 545, 546, 547, 548, 549, 550, 551, 509, 510, 511, 512, 513, 514, 515] (by decide +kernel) (by decide +kernel)) (goodIn_sub (fun _ h => List.mem_append_right _ h) (by decide +kernel))
set_option maxRecDepth 20000 in
theorem gL_law_L_points : GoodIn wsL_law (va_wsS RL 151 yL_points wsL_points) := goodIn_app (goodIn_of _ (by decide +kernel)) ggL_law_L_points
set_option maxRecDepth 20000 in
theorem ggL_law_X5_points : GoodIn wsL_law wsX5_points := goodIn_r _ [456, 75, 420, 421, 422, 5, 423, 119, 121, 122, 123, 124, 125, 126, 516, 517, 518, 519, 520, 521, 522, 523, 524, 525, 526, 527, 528, 529, 530, 531, 532, 533, 534, 535, 536, 537, 538] (by decide +kernel) (by decide +kernel)
set_option maxRecDepth 20000 in
theorem gL_law_X5_points : GoodIn wsL_law (wsV RL 153 RX5 yX5_points wsX5_points) := goodIn_app (goodIn_of _ (by decide +kernel)) ggL_law_X5_points
set_option maxRecDepth 20000 in
theorem ggL_law_L_secondsRung : GoodIn wsL_law wsL_secondsRung := goodIn_ca (goodIn_r _ [459, 88, 460, 461, 462, 2, 463, 217, 218, 219, 220, 15, 101, 102, 103, 104, 105, 106, 539, 540, 541, 542, 543, 544, 545, 546, 547, 548, 549, 550, 551, 509, 510, 511, 512, 513, 514, 515] (by decide +kernel) (by decide +kernel)) (goodIn_sub (fun _ h => List.mem_append_right _ h) (by decide +kernel))
set_option maxRecDepth 20000 in
theorem gL_law_L_secondsRung : GoodIn wsL_law (va_wsS RL 154 yL_secondsRung wsL_secondsRung) := goodIn_app (goodIn_of _ (by decide +kernel)) ggL_law_L_secondsRung
set_option maxRecDepth 20000 in
theorem ggL_law_X5_secondsRung : GoodIn wsL_law wsX5_secondsRung := goodIn_r _ [467, 76, 420, 421, 422, 5, 423, 119, 121, 122, 123, 124, 125, 126, 516, 517, 518, 519, 520, 521, 522, 523, 524, 525, 526, 527, 528, 529, 530, 531, 532, 533, 534, 535, 536, 537, 538] (by decide +kernel) (by decide +kernel)
set_option maxRecDepth 20000 in
theorem gL_law_X5_secondsRung : GoodIn wsL_law (wsV RL 156 RX5 yX5_secondsRung wsX5_secondsRung) := goodIn_app (goodIn_of _ (by decide +kernel)) ggL_law_X5_secondsRung
set_option maxRecDepth 20000 in
theorem ggL_law_L_quietBroken : GoodIn wsL_law wsL_quietBroken := goodIn_ca (goodIn_r _ [470, 88, 471, 472, 473, 2, 474, 217, 218, 219, 220, 15, 101, 102, 103, 104, 105, 106, 539, 540, 541, 542, 543, 544, 545, 546, 547, 548, 549, 550, 551, 509, 510, 511, 512, 513, 514, 515] (by decide +kernel) (by decide +kernel)) (goodIn_sub (fun _ h => List.mem_append_right _ h) (by decide +kernel))
set_option maxRecDepth 20000 in
theorem gL_law_L_quietBroken : GoodIn wsL_law (va_wsS RL 157 yL_quietBroken wsL_quietBroken) := goodIn_app (goodIn_of _ (by decide +kernel)) ggL_law_L_quietBroken
set_option maxRecDepth 20000 in
theorem ggL_law_X5_quietBroken : GoodIn wsL_law wsX5_quietBroken := goodIn_r _ [478, 77, 420, 421, 422, 5, 423, 119, 121, 122, 123, 124, 125, 126, 516, 517, 518, 519, 520, 521, 522, 523, 524, 525, 526, 527, 528, 529, 530, 531, 532, 533, 534, 535, 536, 537, 538] (by decide +kernel) (by decide +kernel)
set_option maxRecDepth 20000 in
theorem gL_law_X5_quietBroken : GoodIn wsL_law (wsV RL 159 RX5 yX5_quietBroken wsX5_quietBroken) := goodIn_app (goodIn_of _ (by decide +kernel)) ggL_law_X5_quietBroken
set_option maxRecDepth 20000 in
theorem ggL_law_L_hushed : GoodIn wsL_law wsL_hushed := goodIn_ca (goodIn_r _ [481, 88, 482, 483, 484, 2, 485, 217, 218, 219, 220, 15, 101, 102, 103, 104, 105, 106, 539, 540, 541, 542, 543, 544, 545, 546, 547, 548, 549, 550, 551, 509, 510, 511, 512, 513, 514, 515] (by decide +kernel) (by decide +kernel)) (goodIn_sub (fun _ h => List.mem_append_right _ h) (by decide +kernel))
set_option maxRecDepth 20000 in
theorem gL_law_L_hushed : GoodIn wsL_law (va_wsS RL 160 yL_hushed wsL_hushed) := goodIn_app (goodIn_of _ (by decide +kernel)) ggL_law_L_hushed
set_option maxRecDepth 20000 in
theorem ggL_law_X5_hushed : GoodIn wsL_law wsX5_hushed := goodIn_r _ [489, 78, 420, 421, 422, 5, 423, 119, 121, 122, 123, 124, 125, 126, 516, 517, 518, 519, 520, 521, 522, 523, 524, 525, 526, 527, 528, 529, 530, 531, 532, 533, 534, 535, 536, 537, 538] (by decide +kernel) (by decide +kernel)
set_option maxRecDepth 20000 in
theorem gL_law_X5_hushed : GoodIn wsL_law (wsV RL 162 RX5 yX5_hushed wsX5_hushed) := goodIn_app (goodIn_of _ (by decide +kernel)) ggL_law_X5_hushed
set_option maxRecDepth 20000 in
theorem ggL_law_X4_faults : GoodIn wsL_law wsX4_faults := goodIn_r _ [493, 23, 509, 510, 511, 512, 513, 514, 515] (by decide +kernel) (by decide +kernel)
set_option maxRecDepth 20000 in
theorem gL_law_X4_faults : GoodIn wsL_law (wsV RL 163 RX4 yX4_faults wsX4_faults) := goodIn_app (goodIn_of _ (by decide +kernel)) ggL_law_X4_faults
set_option maxRecDepth 20000 in
theorem ggL_law_X5_faults : GoodIn wsL_law wsX5_faults := goodIn_r _ [497, 119, 334, 516, 517, 518, 519, 520, 521, 522, 523, 524, 525, 526, 527, 528, 529, 530, 531, 532, 533, 534, 535, 536, 537, 538] (by decide +kernel) (by decide +kernel)
set_option maxRecDepth 20000 in
theorem gL_law_X5_faults : GoodIn wsL_law (wsV RL 166 RX5 yX5_faults wsX5_faults) := goodIn_app (goodIn_of _ (by decide +kernel)) ggL_law_X5_faults
set_option maxRecDepth 20000 in
theorem ggL_law_L_faultAt : GoodIn wsL_law wsL_faultAt := goodIn_ca (goodIn_r _ [500, 88, 501, 502, 503, 2, 504, 105, 106, 23, 21, 509, 510, 511, 512, 513, 514, 515] (by decide +kernel) (by decide +kernel)) (goodIn_sub (fun _ h => List.mem_append_right _ h) (by decide +kernel))
set_option maxRecDepth 20000 in
theorem gL_law_L_faultAt : GoodIn wsL_law (va_wsS RL 167 yL_faultAt wsL_faultAt) := goodIn_app (goodIn_of _ (by decide +kernel)) ggL_law_L_faultAt
set_option maxRecDepth 20000 in
theorem ggL_law_X5_faultAt : GoodIn wsL_law wsX5_faultAt := goodIn_r _ [508, 334, 119, 83, 124, 125, 5, 126, 516, 517, 518, 519, 520, 521, 522, 523, 524, 525, 526, 527, 528, 529, 530, 531, 532, 533, 534, 535, 536, 537, 538] (by decide +kernel) (by decide +kernel)
set_option maxRecDepth 20000 in
theorem gL_law_X5_faultAt : GoodIn wsL_law (wsV RL 169 RX5 yX5_faultAt wsX5_faultAt) := goodIn_app (goodIn_of _ (by decide +kernel)) ggL_law_X5_faultAt
theorem dL_law_0 : decode cL_law 0 = .ok (.new 8, 3) := by decide +kernel
theorem dL_law_3 : decode cL_law 3 = .ok (.dup, 1) := by decide +kernel
theorem dL_law_4 : decode cL_law 4 = .ok (.invokespecial 85, 3) := by decide +kernel
theorem dL_law_7 : decode cL_law 7 = .ok (.astore_n 1, 1) := by decide +kernel
theorem dL_law_8 : decode cL_law 8 = .ok (.new 86, 3) := by decide +kernel
theorem dL_law_11 : decode cL_law 11 = .ok (.dup, 1) := by decide +kernel
theorem dL_law_12 : decode cL_law 12 = .ok (.invokespecial 88, 3) := by decide +kernel
theorem dL_law_15 : decode cL_law 15 = .ok (.astore_n 2, 1) := by decide +kernel
theorem dL_law_16 : decode cL_law 16 = .ok (.iconst 1, 1) := by decide +kernel
theorem dL_law_17 : decode cL_law 17 = .ok (.newarray .long, 2) := by decide +kernel
theorem dL_law_19 : decode cL_law 19 = .ok (.astore_n 3, 1) := by decide +kernel
theorem dL_law_20 : decode cL_law 20 = .ok (.iconst 0, 1) := by decide +kernel
theorem dL_law_21 : decode cL_law 21 = .ok (.istore 4, 2) := by decide +kernel
theorem dL_law_23 : decode cL_law 23 = .ok (.iload 4, 2) := by decide +kernel
theorem dL_law_25 : decode cL_law 25 = .ok (.aload_n 0, 1) := by decide +kernel
theorem dL_law_26 : decode cL_law 26 = .ok (.arraylength, 1) := by decide +kernel
theorem dL_law_27 : decode cL_law 27 = .ok (.iconst 5, 1) := by decide +kernel
theorem dL_law_28 : decode cL_law 28 = .ok (.isub, 1) := by decide +kernel
theorem dL_law_29 : decode cL_law 29 = .ok (.if_icmp .gt 1482, 3) := by decide +kernel
theorem dL_law_32 : decode cL_law 32 = .ok (.aload_n 0, 1) := by decide +kernel
theorem dL_law_33 : decode cL_law 33 = .ok (.iload 4, 2) := by decide +kernel
theorem dL_law_35 : decode cL_law 35 = .ok (.iaload, 1) := by decide +kernel
theorem dL_law_36 : decode cL_law 36 = .ok (.bipush 31, 2) := by decide +kernel
theorem dL_law_38 : decode cL_law 38 = .ok (.iand, 1) := by decide +kernel
theorem dL_law_39 : decode cL_law 39 = .ok (.tableswitch 1466 0 21 #[101, 213, 281, 348, 403, 478, 558, 645, 737, 805, 861, 917, 973, 986, 1042, 1105, 1173, 1229, 1285, 1341, 1397, 1410], 101) := by decide +kernel
theorem dL_law_140 : decode cL_law 140 = .ok (.aload_n 1, 1) := by decide +kernel
theorem dL_law_141 : decode cL_law 141 = .ok (.aload_n 0, 1) := by decide +kernel
theorem dL_law_142 : decode cL_law 142 = .ok (.iload 4, 2) := by decide +kernel
theorem dL_law_144 : decode cL_law 144 = .ok (.iconst 1, 1) := by decide +kernel
theorem dL_law_145 : decode cL_law 145 = .ok (.iadd, 1) := by decide +kernel
theorem dL_law_146 : decode cL_law 146 = .ok (.iaload, 1) := by decide +kernel
theorem dL_law_147 : decode cL_law 147 = .ok (.aload_n 0, 1) := by decide +kernel
theorem dL_law_148 : decode cL_law 148 = .ok (.iload 4, 2) := by decide +kernel
theorem dL_law_150 : decode cL_law 150 = .ok (.iconst 2, 1) := by decide +kernel
theorem dL_law_151 : decode cL_law 151 = .ok (.iadd, 1) := by decide +kernel
theorem dL_law_152 : decode cL_law 152 = .ok (.iaload, 1) := by decide +kernel
theorem dL_law_153 : decode cL_law 153 = .ok (.aload_n 0, 1) := by decide +kernel
theorem dL_law_154 : decode cL_law 154 = .ok (.iload 4, 2) := by decide +kernel
theorem dL_law_156 : decode cL_law 156 = .ok (.iconst 3, 1) := by decide +kernel
theorem dL_law_157 : decode cL_law 157 = .ok (.iadd, 1) := by decide +kernel
theorem dL_law_158 : decode cL_law 158 = .ok (.iaload, 1) := by decide +kernel
theorem dL_law_159 : decode cL_law 159 = .ok (.i2l, 1) := by decide +kernel
theorem dL_law_160 : decode cL_law 160 = .ok (.bipush 32, 2) := by decide +kernel
theorem dL_law_162 : decode cL_law 162 = .ok (.lshl, 1) := by decide +kernel
theorem dL_law_163 : decode cL_law 163 = .ok (.aload_n 0, 1) := by decide +kernel
theorem dL_law_164 : decode cL_law 164 = .ok (.iload 4, 2) := by decide +kernel
theorem dL_law_166 : decode cL_law 166 = .ok (.iconst 4, 1) := by decide +kernel
theorem dL_law_167 : decode cL_law 167 = .ok (.iadd, 1) := by decide +kernel
theorem dL_law_168 : decode cL_law 168 = .ok (.iaload, 1) := by decide +kernel
theorem dL_law_169 : decode cL_law 169 = .ok (.i2l, 1) := by decide +kernel
theorem dL_law_170 : decode cL_law 170 = .ok (.ldc2_w 89, 3) := by decide +kernel
theorem dL_law_173 : decode cL_law 173 = .ok (.land, 1) := by decide +kernel
theorem dL_law_174 : decode cL_law 174 = .ok (.lor, 1) := by decide +kernel
theorem dL_law_175 : decode cL_law 175 = .ok (.aload_n 3, 1) := by decide +kernel
theorem dL_law_176 : decode cL_law 176 = .ok (.invokestatic 91, 3) := by decide +kernel
theorem dL_law_179 : decode cL_law 179 = .ok (.istore 5, 2) := by decide +kernel
theorem dL_law_181 : decode cL_law 181 = .ok (.aload_n 2, 1) := by decide +kernel
theorem dL_law_182 : decode cL_law 182 = .ok (.aload_n 0, 1) := by decide +kernel
theorem dL_law_183 : decode cL_law 183 = .ok (.iload 4, 2) := by decide +kernel
theorem dL_law_185 : decode cL_law 185 = .ok (.iconst 1, 1) := by decide +kernel
theorem dL_law_186 : decode cL_law 186 = .ok (.iadd, 1) := by decide +kernel
theorem dL_law_187 : decode cL_law 187 = .ok (.iaload, 1) := by decide +kernel
theorem dL_law_188 : decode cL_law 188 = .ok (.aload_n 0, 1) := by decide +kernel
theorem dL_law_189 : decode cL_law 189 = .ok (.iload 4, 2) := by decide +kernel
theorem dL_law_191 : decode cL_law 191 = .ok (.iconst 2, 1) := by decide +kernel
theorem dL_law_192 : decode cL_law 192 = .ok (.iadd, 1) := by decide +kernel
theorem dL_law_193 : decode cL_law 193 = .ok (.iaload, 1) := by decide +kernel
theorem dL_law_194 : decode cL_law 194 = .ok (.aload_n 0, 1) := by decide +kernel
theorem dL_law_195 : decode cL_law 195 = .ok (.iload 4, 2) := by decide +kernel
theorem dL_law_197 : decode cL_law 197 = .ok (.iconst 3, 1) := by decide +kernel
theorem dL_law_198 : decode cL_law 198 = .ok (.iadd, 1) := by decide +kernel
theorem dL_law_199 : decode cL_law 199 = .ok (.iaload, 1) := by decide +kernel
theorem dL_law_200 : decode cL_law 200 = .ok (.i2l, 1) := by decide +kernel
theorem dL_law_201 : decode cL_law 201 = .ok (.bipush 32, 2) := by decide +kernel
theorem dL_law_203 : decode cL_law 203 = .ok (.lshl, 1) := by decide +kernel
theorem dL_law_204 : decode cL_law 204 = .ok (.aload_n 0, 1) := by decide +kernel
theorem dL_law_205 : decode cL_law 205 = .ok (.iload 4, 2) := by decide +kernel
theorem dL_law_207 : decode cL_law 207 = .ok (.iconst 4, 1) := by decide +kernel
theorem dL_law_208 : decode cL_law 208 = .ok (.iadd, 1) := by decide +kernel
theorem dL_law_209 : decode cL_law 209 = .ok (.iaload, 1) := by decide +kernel
theorem dL_law_210 : decode cL_law 210 = .ok (.i2l, 1) := by decide +kernel
theorem dL_law_211 : decode cL_law 211 = .ok (.ldc2_w 89, 3) := by decide +kernel
theorem dL_law_214 : decode cL_law 214 = .ok (.land, 1) := by decide +kernel
theorem dL_law_215 : decode cL_law 215 = .ok (.lor, 1) := by decide +kernel
theorem dL_law_216 : decode cL_law 216 = .ok (.invokevirtual 96, 3) := by decide +kernel
theorem dL_law_219 : decode cL_law 219 = .ok (.istore 6, 2) := by decide +kernel
theorem dL_law_221 : decode cL_law 221 = .ok (.aload_n 2, 1) := by decide +kernel
theorem dL_law_222 : decode cL_law 222 = .ok (.invokevirtual 97, 3) := by decide +kernel
theorem dL_law_225 : decode cL_law 225 = .ok (.iload 5, 2) := by decide +kernel
theorem dL_law_227 : decode cL_law 227 = .ok (.if_icmp .eq 5, 3) := by decide +kernel
theorem dL_law_230 : decode cL_law 230 = .ok (.iconst 0, 1) := by decide +kernel
theorem dL_law_231 : decode cL_law 231 = .ok (.ireturn, 1) := by decide +kernel
theorem dL_law_232 : decode cL_law 232 = .ok (.iload 5, 2) := by decide +kernel
theorem dL_law_234 : decode cL_law 234 = .ok (.ifCond .ne 15, 3) := by decide +kernel
theorem dL_law_237 : decode cL_law 237 = .ok (.aload_n 3, 1) := by decide +kernel
theorem dL_law_238 : decode cL_law 238 = .ok (.iconst 0, 1) := by decide +kernel
theorem dL_law_239 : decode cL_law 239 = .ok (.laload, 1) := by decide +kernel
theorem dL_law_240 : decode cL_law 240 = .ok (.iload 6, 2) := by decide +kernel
theorem dL_law_242 : decode cL_law 242 = .ok (.i2l, 1) := by decide +kernel
theorem dL_law_243 : decode cL_law 243 = .ok (.lcmp, 1) := by decide +kernel
theorem dL_law_244 : decode cL_law 244 = .ok (.ifCond .eq 5, 3) := by decide +kernel
theorem dL_law_247 : decode cL_law 247 = .ok (.iconst 0, 1) := by decide +kernel
theorem dL_law_248 : decode cL_law 248 = .ok (.ireturn, 1) := by decide +kernel
theorem dL_law_249 : decode cL_law 249 = .ok (.goto 1256, 3) := by decide +kernel
theorem dL_law_252 : decode cL_law 252 = .ok (.aload_n 1, 1) := by decide +kernel
theorem dL_law_253 : decode cL_law 253 = .ok (.aload_n 0, 1) := by decide +kernel
theorem dL_law_254 : decode cL_law 254 = .ok (.iload 4, 2) := by decide +kernel
theorem dL_law_256 : decode cL_law 256 = .ok (.iconst 1, 1) := by decide +kernel
theorem dL_law_257 : decode cL_law 257 = .ok (.iadd, 1) := by decide +kernel
theorem dL_law_258 : decode cL_law 258 = .ok (.iaload, 1) := by decide +kernel
theorem dL_law_259 : decode cL_law 259 = .ok (.aload_n 0, 1) := by decide +kernel
theorem dL_law_260 : decode cL_law 260 = .ok (.iload 4, 2) := by decide +kernel
theorem dL_law_262 : decode cL_law 262 = .ok (.iconst 2, 1) := by decide +kernel
theorem dL_law_263 : decode cL_law 263 = .ok (.iadd, 1) := by decide +kernel
theorem dL_law_264 : decode cL_law 264 = .ok (.iaload, 1) := by decide +kernel
theorem dL_law_265 : decode cL_law 265 = .ok (.aload_n 3, 1) := by decide +kernel
theorem dL_law_266 : decode cL_law 266 = .ok (.invokestatic 101, 3) := by decide +kernel
theorem dL_law_269 : decode cL_law 269 = .ok (.istore 5, 2) := by decide +kernel
theorem dL_law_271 : decode cL_law 271 = .ok (.aload_n 2, 1) := by decide +kernel
theorem dL_law_272 : decode cL_law 272 = .ok (.aload_n 0, 1) := by decide +kernel
theorem dL_law_273 : decode cL_law 273 = .ok (.iload 4, 2) := by decide +kernel
theorem dL_law_275 : decode cL_law 275 = .ok (.iconst 1, 1) := by decide +kernel
theorem dL_law_276 : decode cL_law 276 = .ok (.iadd, 1) := by decide +kernel
theorem dL_law_277 : decode cL_law 277 = .ok (.iaload, 1) := by decide +kernel
theorem dL_law_278 : decode cL_law 278 = .ok (.aload_n 0, 1) := by decide +kernel
theorem dL_law_279 : decode cL_law 279 = .ok (.iload 4, 2) := by decide +kernel
theorem dL_law_281 : decode cL_law 281 = .ok (.iconst 2, 1) := by decide +kernel
theorem dL_law_282 : decode cL_law 282 = .ok (.iadd, 1) := by decide +kernel
theorem dL_law_283 : decode cL_law 283 = .ok (.iaload, 1) := by decide +kernel
theorem dL_law_284 : decode cL_law 284 = .ok (.invokevirtual 104, 3) := by decide +kernel
theorem dL_law_287 : decode cL_law 287 = .ok (.istore 6, 2) := by decide +kernel
theorem dL_law_289 : decode cL_law 289 = .ok (.aload_n 2, 1) := by decide +kernel
theorem dL_law_290 : decode cL_law 290 = .ok (.invokevirtual 97, 3) := by decide +kernel
theorem dL_law_293 : decode cL_law 293 = .ok (.iload 5, 2) := by decide +kernel
theorem dL_law_295 : decode cL_law 295 = .ok (.if_icmp .eq 5, 3) := by decide +kernel
theorem dL_law_298 : decode cL_law 298 = .ok (.iconst 0, 1) := by decide +kernel
theorem dL_law_299 : decode cL_law 299 = .ok (.ireturn, 1) := by decide +kernel
theorem dL_law_300 : decode cL_law 300 = .ok (.iload 5, 2) := by decide +kernel
theorem dL_law_302 : decode cL_law 302 = .ok (.ifCond .ne 15, 3) := by decide +kernel
theorem dL_law_305 : decode cL_law 305 = .ok (.aload_n 3, 1) := by decide +kernel
theorem dL_law_306 : decode cL_law 306 = .ok (.iconst 0, 1) := by decide +kernel
theorem dL_law_307 : decode cL_law 307 = .ok (.laload, 1) := by decide +kernel
theorem dL_law_308 : decode cL_law 308 = .ok (.iload 6, 2) := by decide +kernel
theorem dL_law_310 : decode cL_law 310 = .ok (.i2l, 1) := by decide +kernel
theorem dL_law_311 : decode cL_law 311 = .ok (.lcmp, 1) := by decide +kernel
theorem dL_law_312 : decode cL_law 312 = .ok (.ifCond .eq 5, 3) := by decide +kernel
theorem dL_law_315 : decode cL_law 315 = .ok (.iconst 0, 1) := by decide +kernel
theorem dL_law_316 : decode cL_law 316 = .ok (.ireturn, 1) := by decide +kernel
theorem dL_law_317 : decode cL_law 317 = .ok (.goto 1188, 3) := by decide +kernel
theorem dL_law_320 : decode cL_law 320 = .ok (.aload_n 1, 1) := by decide +kernel
theorem dL_law_321 : decode cL_law 321 = .ok (.aload_n 0, 1) := by decide +kernel
theorem dL_law_322 : decode cL_law 322 = .ok (.iload 4, 2) := by decide +kernel
theorem dL_law_324 : decode cL_law 324 = .ok (.iconst 1, 1) := by decide +kernel
theorem dL_law_325 : decode cL_law 325 = .ok (.iadd, 1) := by decide +kernel
theorem dL_law_326 : decode cL_law 326 = .ok (.iaload, 1) := by decide +kernel
theorem dL_law_327 : decode cL_law 327 = .ok (.aload_n 0, 1) := by decide +kernel
theorem dL_law_328 : decode cL_law 328 = .ok (.iload 4, 2) := by decide +kernel
theorem dL_law_330 : decode cL_law 330 = .ok (.iconst 2, 1) := by decide +kernel
theorem dL_law_331 : decode cL_law 331 = .ok (.iadd, 1) := by decide +kernel
theorem dL_law_332 : decode cL_law 332 = .ok (.iaload, 1) := by decide +kernel
theorem dL_law_333 : decode cL_law 333 = .ok (.aload_n 3, 1) := by decide +kernel
theorem dL_law_334 : decode cL_law 334 = .ok (.invokestatic 105, 3) := by decide +kernel
theorem dL_law_337 : decode cL_law 337 = .ok (.istore 5, 2) := by decide +kernel
theorem dL_law_339 : decode cL_law 339 = .ok (.aload_n 2, 1) := by decide +kernel
theorem dL_law_340 : decode cL_law 340 = .ok (.aload_n 0, 1) := by decide +kernel
theorem dL_law_341 : decode cL_law 341 = .ok (.iload 4, 2) := by decide +kernel
theorem dL_law_343 : decode cL_law 343 = .ok (.iconst 1, 1) := by decide +kernel
theorem dL_law_344 : decode cL_law 344 = .ok (.iadd, 1) := by decide +kernel
theorem dL_law_345 : decode cL_law 345 = .ok (.iaload, 1) := by decide +kernel
theorem dL_law_346 : decode cL_law 346 = .ok (.aload_n 0, 1) := by decide +kernel
theorem dL_law_347 : decode cL_law 347 = .ok (.iload 4, 2) := by decide +kernel
theorem dL_law_349 : decode cL_law 349 = .ok (.iconst 2, 1) := by decide +kernel
theorem dL_law_350 : decode cL_law 350 = .ok (.iadd, 1) := by decide +kernel
theorem dL_law_351 : decode cL_law 351 = .ok (.iaload, 1) := by decide +kernel
theorem dL_law_352 : decode cL_law 352 = .ok (.invokevirtual 107, 3) := by decide +kernel
theorem dL_law_355 : decode cL_law 355 = .ok (.lstore 6, 2) := by decide +kernel
theorem dL_law_357 : decode cL_law 357 = .ok (.aload_n 2, 1) := by decide +kernel
theorem dL_law_358 : decode cL_law 358 = .ok (.invokevirtual 97, 3) := by decide +kernel
theorem dL_law_361 : decode cL_law 361 = .ok (.iload 5, 2) := by decide +kernel
theorem dL_law_363 : decode cL_law 363 = .ok (.if_icmp .eq 5, 3) := by decide +kernel
theorem dL_law_366 : decode cL_law 366 = .ok (.iconst 0, 1) := by decide +kernel
theorem dL_law_367 : decode cL_law 367 = .ok (.ireturn, 1) := by decide +kernel
theorem dL_law_368 : decode cL_law 368 = .ok (.iload 5, 2) := by decide +kernel
theorem dL_law_370 : decode cL_law 370 = .ok (.ifCond .ne 14, 3) := by decide +kernel
theorem dL_law_373 : decode cL_law 373 = .ok (.aload_n 3, 1) := by decide +kernel
theorem dL_law_374 : decode cL_law 374 = .ok (.iconst 0, 1) := by decide +kernel
theorem dL_law_375 : decode cL_law 375 = .ok (.laload, 1) := by decide +kernel
theorem dL_law_376 : decode cL_law 376 = .ok (.lload 6, 2) := by decide +kernel
theorem dL_law_378 : decode cL_law 378 = .ok (.lcmp, 1) := by decide +kernel
theorem dL_law_379 : decode cL_law 379 = .ok (.ifCond .eq 5, 3) := by decide +kernel
theorem dL_law_382 : decode cL_law 382 = .ok (.iconst 0, 1) := by decide +kernel
theorem dL_law_383 : decode cL_law 383 = .ok (.ireturn, 1) := by decide +kernel
theorem dL_law_384 : decode cL_law 384 = .ok (.goto 1121, 3) := by decide +kernel
theorem dL_law_387 : decode cL_law 387 = .ok (.aload_n 1, 1) := by decide +kernel
theorem dL_law_388 : decode cL_law 388 = .ok (.aload_n 0, 1) := by decide +kernel
theorem dL_law_389 : decode cL_law 389 = .ok (.iload 4, 2) := by decide +kernel
theorem dL_law_391 : decode cL_law 391 = .ok (.iconst 1, 1) := by decide +kernel
theorem dL_law_392 : decode cL_law 392 = .ok (.iadd, 1) := by decide +kernel
theorem dL_law_393 : decode cL_law 393 = .ok (.iaload, 1) := by decide +kernel
theorem dL_law_394 : decode cL_law 394 = .ok (.aload_n 3, 1) := by decide +kernel
theorem dL_law_395 : decode cL_law 395 = .ok (.invokestatic 108, 3) := by decide +kernel
theorem dL_law_398 : decode cL_law 398 = .ok (.istore 5, 2) := by decide +kernel
theorem dL_law_400 : decode cL_law 400 = .ok (.aload_n 2, 1) := by decide +kernel
theorem dL_law_401 : decode cL_law 401 = .ok (.aload_n 0, 1) := by decide +kernel
theorem dL_law_402 : decode cL_law 402 = .ok (.iload 4, 2) := by decide +kernel
theorem dL_law_404 : decode cL_law 404 = .ok (.iconst 1, 1) := by decide +kernel
theorem dL_law_405 : decode cL_law 405 = .ok (.iadd, 1) := by decide +kernel
theorem dL_law_406 : decode cL_law 406 = .ok (.iaload, 1) := by decide +kernel
theorem dL_law_407 : decode cL_law 407 = .ok (.invokevirtual 111, 3) := by decide +kernel
theorem dL_law_410 : decode cL_law 410 = .ok (.lstore 6, 2) := by decide +kernel
theorem dL_law_412 : decode cL_law 412 = .ok (.aload_n 2, 1) := by decide +kernel
theorem dL_law_413 : decode cL_law 413 = .ok (.invokevirtual 97, 3) := by decide +kernel
theorem dL_law_416 : decode cL_law 416 = .ok (.iload 5, 2) := by decide +kernel
theorem dL_law_418 : decode cL_law 418 = .ok (.if_icmp .eq 5, 3) := by decide +kernel
theorem dL_law_421 : decode cL_law 421 = .ok (.iconst 0, 1) := by decide +kernel
theorem dL_law_422 : decode cL_law 422 = .ok (.ireturn, 1) := by decide +kernel
theorem dL_law_423 : decode cL_law 423 = .ok (.iload 5, 2) := by decide +kernel
theorem dL_law_425 : decode cL_law 425 = .ok (.ifCond .ne 14, 3) := by decide +kernel
theorem dL_law_428 : decode cL_law 428 = .ok (.aload_n 3, 1) := by decide +kernel
theorem dL_law_429 : decode cL_law 429 = .ok (.iconst 0, 1) := by decide +kernel
theorem dL_law_430 : decode cL_law 430 = .ok (.laload, 1) := by decide +kernel
theorem dL_law_431 : decode cL_law 431 = .ok (.lload 6, 2) := by decide +kernel
theorem dL_law_433 : decode cL_law 433 = .ok (.lcmp, 1) := by decide +kernel
theorem dL_law_434 : decode cL_law 434 = .ok (.ifCond .eq 5, 3) := by decide +kernel
theorem dL_law_437 : decode cL_law 437 = .ok (.iconst 0, 1) := by decide +kernel
theorem dL_law_438 : decode cL_law 438 = .ok (.ireturn, 1) := by decide +kernel
theorem dL_law_439 : decode cL_law 439 = .ok (.goto 1066, 3) := by decide +kernel
theorem dL_law_442 : decode cL_law 442 = .ok (.aload_n 1, 1) := by decide +kernel
theorem dL_law_443 : decode cL_law 443 = .ok (.aload_n 0, 1) := by decide +kernel
theorem dL_law_444 : decode cL_law 444 = .ok (.iload 4, 2) := by decide +kernel
theorem dL_law_446 : decode cL_law 446 = .ok (.iconst 1, 1) := by decide +kernel
theorem dL_law_447 : decode cL_law 447 = .ok (.iadd, 1) := by decide +kernel
theorem dL_law_448 : decode cL_law 448 = .ok (.iaload, 1) := by decide +kernel
theorem dL_law_449 : decode cL_law 449 = .ok (.aload_n 0, 1) := by decide +kernel
theorem dL_law_450 : decode cL_law 450 = .ok (.iload 4, 2) := by decide +kernel
theorem dL_law_452 : decode cL_law 452 = .ok (.iconst 2, 1) := by decide +kernel
theorem dL_law_453 : decode cL_law 453 = .ok (.iadd, 1) := by decide +kernel
theorem dL_law_454 : decode cL_law 454 = .ok (.iaload, 1) := by decide +kernel
theorem dL_law_455 : decode cL_law 455 = .ok (.aload_n 3, 1) := by decide +kernel
theorem dL_law_456 : decode cL_law 456 = .ok (.invokestatic 112, 3) := by decide +kernel
theorem dL_law_459 : decode cL_law 459 = .ok (.istore 5, 2) := by decide +kernel
theorem dL_law_461 : decode cL_law 461 = .ok (.aload_n 2, 1) := by decide +kernel
theorem dL_law_462 : decode cL_law 462 = .ok (.aload_n 0, 1) := by decide +kernel
theorem dL_law_463 : decode cL_law 463 = .ok (.iload 4, 2) := by decide +kernel
theorem dL_law_465 : decode cL_law 465 = .ok (.iconst 1, 1) := by decide +kernel
theorem dL_law_466 : decode cL_law 466 = .ok (.iadd, 1) := by decide +kernel
theorem dL_law_467 : decode cL_law 467 = .ok (.iaload, 1) := by decide +kernel
theorem dL_law_468 : decode cL_law 468 = .ok (.aload_n 0, 1) := by decide +kernel
theorem dL_law_469 : decode cL_law 469 = .ok (.iload 4, 2) := by decide +kernel
theorem dL_law_471 : decode cL_law 471 = .ok (.iconst 2, 1) := by decide +kernel
theorem dL_law_472 : decode cL_law 472 = .ok (.iadd, 1) := by decide +kernel
theorem dL_law_473 : decode cL_law 473 = .ok (.iaload, 1) := by decide +kernel
theorem dL_law_474 : decode cL_law 474 = .ok (.invokevirtual 114, 3) := by decide +kernel
theorem dL_law_477 : decode cL_law 477 = .ok (.istore 6, 2) := by decide +kernel
theorem dL_law_479 : decode cL_law 479 = .ok (.aload_n 2, 1) := by decide +kernel
theorem dL_law_480 : decode cL_law 480 = .ok (.invokevirtual 97, 3) := by decide +kernel
theorem dL_law_483 : decode cL_law 483 = .ok (.iload 5, 2) := by decide +kernel
theorem dL_law_485 : decode cL_law 485 = .ok (.if_icmp .eq 5, 3) := by decide +kernel
theorem dL_law_488 : decode cL_law 488 = .ok (.iconst 0, 1) := by decide +kernel
theorem dL_law_489 : decode cL_law 489 = .ok (.ireturn, 1) := by decide +kernel
theorem dL_law_490 : decode cL_law 490 = .ok (.iload 5, 2) := by decide +kernel
theorem dL_law_492 : decode cL_law 492 = .ok (.ifCond .ne 22, 3) := by decide +kernel
theorem dL_law_495 : decode cL_law 495 = .ok (.aload_n 3, 1) := by decide +kernel
theorem dL_law_496 : decode cL_law 496 = .ok (.iconst 0, 1) := by decide +kernel
theorem dL_law_497 : decode cL_law 497 = .ok (.laload, 1) := by decide +kernel
theorem dL_law_498 : decode cL_law 498 = .ok (.iload 6, 2) := by decide +kernel
theorem dL_law_500 : decode cL_law 500 = .ok (.ifCond .eq 7, 3) := by decide +kernel
theorem dL_law_503 : decode cL_law 503 = .ok (.lconst 1, 1) := by decide +kernel
theorem dL_law_504 : decode cL_law 504 = .ok (.goto 4, 3) := by decide +kernel
theorem dL_law_507 : decode cL_law 507 = .ok (.lconst 0, 1) := by decide +kernel
theorem dL_law_508 : decode cL_law 508 = .ok (.lcmp, 1) := by decide +kernel
theorem dL_law_509 : decode cL_law 509 = .ok (.ifCond .eq 5, 3) := by decide +kernel
theorem dL_law_512 : decode cL_law 512 = .ok (.iconst 0, 1) := by decide +kernel
theorem dL_law_513 : decode cL_law 513 = .ok (.ireturn, 1) := by decide +kernel
theorem dL_law_514 : decode cL_law 514 = .ok (.goto 991, 3) := by decide +kernel
theorem dL_law_517 : decode cL_law 517 = .ok (.aload_n 1, 1) := by decide +kernel
theorem dL_law_518 : decode cL_law 518 = .ok (.aload_n 0, 1) := by decide +kernel
theorem dL_law_519 : decode cL_law 519 = .ok (.iload 4, 2) := by decide +kernel
theorem dL_law_521 : decode cL_law 521 = .ok (.iconst 1, 1) := by decide +kernel
theorem dL_law_522 : decode cL_law 522 = .ok (.iadd, 1) := by decide +kernel
theorem dL_law_523 : decode cL_law 523 = .ok (.iaload, 1) := by decide +kernel
theorem dL_law_524 : decode cL_law 524 = .ok (.aload_n 0, 1) := by decide +kernel
theorem dL_law_525 : decode cL_law 525 = .ok (.iload 4, 2) := by decide +kernel
theorem dL_law_527 : decode cL_law 527 = .ok (.iconst 2, 1) := by decide +kernel
theorem dL_law_528 : decode cL_law 528 = .ok (.iadd, 1) := by decide +kernel
theorem dL_law_529 : decode cL_law 529 = .ok (.iaload, 1) := by decide +kernel
theorem dL_law_530 : decode cL_law 530 = .ok (.aload_n 0, 1) := by decide +kernel
theorem dL_law_531 : decode cL_law 531 = .ok (.iload 4, 2) := by decide +kernel
theorem dL_law_533 : decode cL_law 533 = .ok (.iconst 3, 1) := by decide +kernel
theorem dL_law_534 : decode cL_law 534 = .ok (.iadd, 1) := by decide +kernel
theorem dL_law_535 : decode cL_law 535 = .ok (.iaload, 1) := by decide +kernel
theorem dL_law_536 : decode cL_law 536 = .ok (.aload_n 3, 1) := by decide +kernel
theorem dL_law_537 : decode cL_law 537 = .ok (.invokestatic 115, 3) := by decide +kernel
theorem dL_law_540 : decode cL_law 540 = .ok (.istore 5, 2) := by decide +kernel
theorem dL_law_542 : decode cL_law 542 = .ok (.aload_n 2, 1) := by decide +kernel
theorem dL_law_543 : decode cL_law 543 = .ok (.aload_n 0, 1) := by decide +kernel
theorem dL_law_544 : decode cL_law 544 = .ok (.iload 4, 2) := by decide +kernel
theorem dL_law_546 : decode cL_law 546 = .ok (.iconst 1, 1) := by decide +kernel
theorem dL_law_547 : decode cL_law 547 = .ok (.iadd, 1) := by decide +kernel
theorem dL_law_548 : decode cL_law 548 = .ok (.iaload, 1) := by decide +kernel
theorem dL_law_549 : decode cL_law 549 = .ok (.aload_n 0, 1) := by decide +kernel
theorem dL_law_550 : decode cL_law 550 = .ok (.iload 4, 2) := by decide +kernel
theorem dL_law_552 : decode cL_law 552 = .ok (.iconst 2, 1) := by decide +kernel
theorem dL_law_553 : decode cL_law 553 = .ok (.iadd, 1) := by decide +kernel
theorem dL_law_554 : decode cL_law 554 = .ok (.iaload, 1) := by decide +kernel
theorem dL_law_555 : decode cL_law 555 = .ok (.aload_n 0, 1) := by decide +kernel
theorem dL_law_556 : decode cL_law 556 = .ok (.iload 4, 2) := by decide +kernel
theorem dL_law_558 : decode cL_law 558 = .ok (.iconst 3, 1) := by decide +kernel
theorem dL_law_559 : decode cL_law 559 = .ok (.iadd, 1) := by decide +kernel
theorem dL_law_560 : decode cL_law 560 = .ok (.iaload, 1) := by decide +kernel
theorem dL_law_561 : decode cL_law 561 = .ok (.invokevirtual 118, 3) := by decide +kernel
theorem dL_law_564 : decode cL_law 564 = .ok (.istore 6, 2) := by decide +kernel
theorem dL_law_566 : decode cL_law 566 = .ok (.aload_n 2, 1) := by decide +kernel
theorem dL_law_567 : decode cL_law 567 = .ok (.invokevirtual 97, 3) := by decide +kernel
theorem dL_law_570 : decode cL_law 570 = .ok (.iload 5, 2) := by decide +kernel
theorem dL_law_572 : decode cL_law 572 = .ok (.if_icmp .eq 5, 3) := by decide +kernel
theorem dL_law_575 : decode cL_law 575 = .ok (.iconst 0, 1) := by decide +kernel
theorem dL_law_576 : decode cL_law 576 = .ok (.ireturn, 1) := by decide +kernel
theorem dL_law_577 : decode cL_law 577 = .ok (.iload 5, 2) := by decide +kernel
theorem dL_law_579 : decode cL_law 579 = .ok (.ifCond .ne 15, 3) := by decide +kernel
theorem dL_law_582 : decode cL_law 582 = .ok (.aload_n 3, 1) := by decide +kernel
theorem dL_law_583 : decode cL_law 583 = .ok (.iconst 0, 1) := by decide +kernel
theorem dL_law_584 : decode cL_law 584 = .ok (.laload, 1) := by decide +kernel
theorem dL_law_585 : decode cL_law 585 = .ok (.iload 6, 2) := by decide +kernel
theorem dL_law_587 : decode cL_law 587 = .ok (.i2l, 1) := by decide +kernel
theorem dL_law_588 : decode cL_law 588 = .ok (.lcmp, 1) := by decide +kernel
theorem dL_law_589 : decode cL_law 589 = .ok (.ifCond .eq 5, 3) := by decide +kernel
theorem dL_law_592 : decode cL_law 592 = .ok (.iconst 0, 1) := by decide +kernel
theorem dL_law_593 : decode cL_law 593 = .ok (.ireturn, 1) := by decide +kernel
theorem dL_law_594 : decode cL_law 594 = .ok (.goto 911, 3) := by decide +kernel
theorem dL_law_597 : decode cL_law 597 = .ok (.aload_n 1, 1) := by decide +kernel
theorem dL_law_598 : decode cL_law 598 = .ok (.aload_n 0, 1) := by decide +kernel
theorem dL_law_599 : decode cL_law 599 = .ok (.iload 4, 2) := by decide +kernel
theorem dL_law_601 : decode cL_law 601 = .ok (.iconst 1, 1) := by decide +kernel
theorem dL_law_602 : decode cL_law 602 = .ok (.iadd, 1) := by decide +kernel
theorem dL_law_603 : decode cL_law 603 = .ok (.iaload, 1) := by decide +kernel
theorem dL_law_604 : decode cL_law 604 = .ok (.aload_n 0, 1) := by decide +kernel
theorem dL_law_605 : decode cL_law 605 = .ok (.iload 4, 2) := by decide +kernel
theorem dL_law_607 : decode cL_law 607 = .ok (.iconst 2, 1) := by decide +kernel
theorem dL_law_608 : decode cL_law 608 = .ok (.iadd, 1) := by decide +kernel
theorem dL_law_609 : decode cL_law 609 = .ok (.iaload, 1) := by decide +kernel
theorem dL_law_610 : decode cL_law 610 = .ok (.aload_n 0, 1) := by decide +kernel
theorem dL_law_611 : decode cL_law 611 = .ok (.iload 4, 2) := by decide +kernel
theorem dL_law_613 : decode cL_law 613 = .ok (.iconst 3, 1) := by decide +kernel
theorem dL_law_614 : decode cL_law 614 = .ok (.iadd, 1) := by decide +kernel
theorem dL_law_615 : decode cL_law 615 = .ok (.iaload, 1) := by decide +kernel
theorem dL_law_616 : decode cL_law 616 = .ok (.aload_n 3, 1) := by decide +kernel
theorem dL_law_617 : decode cL_law 617 = .ok (.invokestatic 119, 3) := by decide +kernel
theorem dL_law_620 : decode cL_law 620 = .ok (.istore 5, 2) := by decide +kernel
theorem dL_law_622 : decode cL_law 622 = .ok (.aload_n 2, 1) := by decide +kernel
theorem dL_law_623 : decode cL_law 623 = .ok (.aload_n 0, 1) := by decide +kernel
theorem dL_law_624 : decode cL_law 624 = .ok (.iload 4, 2) := by decide +kernel
theorem dL_law_626 : decode cL_law 626 = .ok (.iconst 1, 1) := by decide +kernel
theorem dL_law_627 : decode cL_law 627 = .ok (.iadd, 1) := by decide +kernel
theorem dL_law_628 : decode cL_law 628 = .ok (.iaload, 1) := by decide +kernel
theorem dL_law_629 : decode cL_law 629 = .ok (.aload_n 0, 1) := by decide +kernel
theorem dL_law_630 : decode cL_law 630 = .ok (.iload 4, 2) := by decide +kernel
theorem dL_law_632 : decode cL_law 632 = .ok (.iconst 2, 1) := by decide +kernel
theorem dL_law_633 : decode cL_law 633 = .ok (.iadd, 1) := by decide +kernel
theorem dL_law_634 : decode cL_law 634 = .ok (.iaload, 1) := by decide +kernel
theorem dL_law_635 : decode cL_law 635 = .ok (.aload_n 0, 1) := by decide +kernel
theorem dL_law_636 : decode cL_law 636 = .ok (.iload 4, 2) := by decide +kernel
theorem dL_law_638 : decode cL_law 638 = .ok (.iconst 3, 1) := by decide +kernel
theorem dL_law_639 : decode cL_law 639 = .ok (.iadd, 1) := by decide +kernel
theorem dL_law_640 : decode cL_law 640 = .ok (.iaload, 1) := by decide +kernel
theorem dL_law_641 : decode cL_law 641 = .ok (.invokevirtual 121, 3) := by decide +kernel
theorem dL_law_644 : decode cL_law 644 = .ok (.istore 6, 2) := by decide +kernel
theorem dL_law_646 : decode cL_law 646 = .ok (.aload_n 2, 1) := by decide +kernel
theorem dL_law_647 : decode cL_law 647 = .ok (.invokevirtual 97, 3) := by decide +kernel
theorem dL_law_650 : decode cL_law 650 = .ok (.iload 5, 2) := by decide +kernel
theorem dL_law_652 : decode cL_law 652 = .ok (.if_icmp .eq 5, 3) := by decide +kernel
theorem dL_law_655 : decode cL_law 655 = .ok (.iconst 0, 1) := by decide +kernel
theorem dL_law_656 : decode cL_law 656 = .ok (.ireturn, 1) := by decide +kernel
theorem dL_law_657 : decode cL_law 657 = .ok (.iload 5, 2) := by decide +kernel
theorem dL_law_659 : decode cL_law 659 = .ok (.ifCond .ne 22, 3) := by decide +kernel
theorem dL_law_662 : decode cL_law 662 = .ok (.aload_n 3, 1) := by decide +kernel
theorem dL_law_663 : decode cL_law 663 = .ok (.iconst 0, 1) := by decide +kernel
theorem dL_law_664 : decode cL_law 664 = .ok (.laload, 1) := by decide +kernel
theorem dL_law_665 : decode cL_law 665 = .ok (.iload 6, 2) := by decide +kernel
theorem dL_law_667 : decode cL_law 667 = .ok (.ifCond .eq 7, 3) := by decide +kernel
theorem dL_law_670 : decode cL_law 670 = .ok (.lconst 1, 1) := by decide +kernel
theorem dL_law_671 : decode cL_law 671 = .ok (.goto 4, 3) := by decide +kernel
theorem dL_law_674 : decode cL_law 674 = .ok (.lconst 0, 1) := by decide +kernel
theorem dL_law_675 : decode cL_law 675 = .ok (.lcmp, 1) := by decide +kernel
theorem dL_law_676 : decode cL_law 676 = .ok (.ifCond .eq 5, 3) := by decide +kernel
theorem dL_law_679 : decode cL_law 679 = .ok (.iconst 0, 1) := by decide +kernel
theorem dL_law_680 : decode cL_law 680 = .ok (.ireturn, 1) := by decide +kernel
theorem dL_law_681 : decode cL_law 681 = .ok (.goto 824, 3) := by decide +kernel
theorem dL_law_684 : decode cL_law 684 = .ok (.aload_n 1, 1) := by decide +kernel
theorem dL_law_685 : decode cL_law 685 = .ok (.aload_n 0, 1) := by decide +kernel
theorem dL_law_686 : decode cL_law 686 = .ok (.iload 4, 2) := by decide +kernel
theorem dL_law_688 : decode cL_law 688 = .ok (.iconst 1, 1) := by decide +kernel
theorem dL_law_689 : decode cL_law 689 = .ok (.iadd, 1) := by decide +kernel
theorem dL_law_690 : decode cL_law 690 = .ok (.iaload, 1) := by decide +kernel
theorem dL_law_691 : decode cL_law 691 = .ok (.aload_n 0, 1) := by decide +kernel
theorem dL_law_692 : decode cL_law 692 = .ok (.iload 4, 2) := by decide +kernel
theorem dL_law_694 : decode cL_law 694 = .ok (.iconst 2, 1) := by decide +kernel
theorem dL_law_695 : decode cL_law 695 = .ok (.iadd, 1) := by decide +kernel
theorem dL_law_696 : decode cL_law 696 = .ok (.iaload, 1) := by decide +kernel
theorem dL_law_697 : decode cL_law 697 = .ok (.aload_n 0, 1) := by decide +kernel
theorem dL_law_698 : decode cL_law 698 = .ok (.iload 4, 2) := by decide +kernel
theorem dL_law_700 : decode cL_law 700 = .ok (.iconst 3, 1) := by decide +kernel
theorem dL_law_701 : decode cL_law 701 = .ok (.iadd, 1) := by decide +kernel
theorem dL_law_702 : decode cL_law 702 = .ok (.iaload, 1) := by decide +kernel
theorem dL_law_703 : decode cL_law 703 = .ok (.aload_n 0, 1) := by decide +kernel
theorem dL_law_704 : decode cL_law 704 = .ok (.iload 4, 2) := by decide +kernel
theorem dL_law_706 : decode cL_law 706 = .ok (.iconst 4, 1) := by decide +kernel
theorem dL_law_707 : decode cL_law 707 = .ok (.iadd, 1) := by decide +kernel
theorem dL_law_708 : decode cL_law 708 = .ok (.iaload, 1) := by decide +kernel
theorem dL_law_709 : decode cL_law 709 = .ok (.aload_n 3, 1) := by decide +kernel
theorem dL_law_710 : decode cL_law 710 = .ok (.invokestatic 122, 3) := by decide +kernel
theorem dL_law_713 : decode cL_law 713 = .ok (.istore 5, 2) := by decide +kernel
theorem dL_law_715 : decode cL_law 715 = .ok (.aload_n 2, 1) := by decide +kernel
theorem dL_law_716 : decode cL_law 716 = .ok (.aload_n 0, 1) := by decide +kernel
theorem dL_law_717 : decode cL_law 717 = .ok (.iload 4, 2) := by decide +kernel
theorem dL_law_719 : decode cL_law 719 = .ok (.iconst 1, 1) := by decide +kernel
theorem dL_law_720 : decode cL_law 720 = .ok (.iadd, 1) := by decide +kernel
theorem dL_law_721 : decode cL_law 721 = .ok (.iaload, 1) := by decide +kernel
theorem dL_law_722 : decode cL_law 722 = .ok (.aload_n 0, 1) := by decide +kernel
theorem dL_law_723 : decode cL_law 723 = .ok (.iload 4, 2) := by decide +kernel
theorem dL_law_725 : decode cL_law 725 = .ok (.iconst 2, 1) := by decide +kernel
theorem dL_law_726 : decode cL_law 726 = .ok (.iadd, 1) := by decide +kernel
theorem dL_law_727 : decode cL_law 727 = .ok (.iaload, 1) := by decide +kernel
theorem dL_law_728 : decode cL_law 728 = .ok (.aload_n 0, 1) := by decide +kernel
theorem dL_law_729 : decode cL_law 729 = .ok (.iload 4, 2) := by decide +kernel
theorem dL_law_731 : decode cL_law 731 = .ok (.iconst 3, 1) := by decide +kernel
theorem dL_law_732 : decode cL_law 732 = .ok (.iadd, 1) := by decide +kernel
theorem dL_law_733 : decode cL_law 733 = .ok (.iaload, 1) := by decide +kernel
theorem dL_law_734 : decode cL_law 734 = .ok (.aload_n 0, 1) := by decide +kernel
theorem dL_law_735 : decode cL_law 735 = .ok (.iload 4, 2) := by decide +kernel
theorem dL_law_737 : decode cL_law 737 = .ok (.iconst 4, 1) := by decide +kernel
theorem dL_law_738 : decode cL_law 738 = .ok (.iadd, 1) := by decide +kernel
theorem dL_law_739 : decode cL_law 739 = .ok (.iaload, 1) := by decide +kernel
theorem dL_law_740 : decode cL_law 740 = .ok (.invokevirtual 125, 3) := by decide +kernel
theorem dL_law_743 : decode cL_law 743 = .ok (.istore 6, 2) := by decide +kernel
theorem dL_law_745 : decode cL_law 745 = .ok (.aload_n 2, 1) := by decide +kernel
theorem dL_law_746 : decode cL_law 746 = .ok (.invokevirtual 97, 3) := by decide +kernel
theorem dL_law_749 : decode cL_law 749 = .ok (.iload 5, 2) := by decide +kernel
theorem dL_law_751 : decode cL_law 751 = .ok (.if_icmp .eq 5, 3) := by decide +kernel
theorem dL_law_754 : decode cL_law 754 = .ok (.iconst 0, 1) := by decide +kernel
theorem dL_law_755 : decode cL_law 755 = .ok (.ireturn, 1) := by decide +kernel
theorem dL_law_756 : decode cL_law 756 = .ok (.iload 5, 2) := by decide +kernel
theorem dL_law_758 : decode cL_law 758 = .ok (.ifCond .ne 15, 3) := by decide +kernel
theorem dL_law_761 : decode cL_law 761 = .ok (.aload_n 3, 1) := by decide +kernel
theorem dL_law_762 : decode cL_law 762 = .ok (.iconst 0, 1) := by decide +kernel
theorem dL_law_763 : decode cL_law 763 = .ok (.laload, 1) := by decide +kernel
theorem dL_law_764 : decode cL_law 764 = .ok (.iload 6, 2) := by decide +kernel
theorem dL_law_766 : decode cL_law 766 = .ok (.i2l, 1) := by decide +kernel
theorem dL_law_767 : decode cL_law 767 = .ok (.lcmp, 1) := by decide +kernel
theorem dL_law_768 : decode cL_law 768 = .ok (.ifCond .eq 5, 3) := by decide +kernel
theorem dL_law_771 : decode cL_law 771 = .ok (.iconst 0, 1) := by decide +kernel
theorem dL_law_772 : decode cL_law 772 = .ok (.ireturn, 1) := by decide +kernel
theorem dL_law_773 : decode cL_law 773 = .ok (.goto 732, 3) := by decide +kernel
theorem dL_law_776 : decode cL_law 776 = .ok (.aload_n 1, 1) := by decide +kernel
theorem dL_law_777 : decode cL_law 777 = .ok (.aload_n 0, 1) := by decide +kernel
theorem dL_law_778 : decode cL_law 778 = .ok (.iload 4, 2) := by decide +kernel
theorem dL_law_780 : decode cL_law 780 = .ok (.iconst 1, 1) := by decide +kernel
theorem dL_law_781 : decode cL_law 781 = .ok (.iadd, 1) := by decide +kernel
theorem dL_law_782 : decode cL_law 782 = .ok (.iaload, 1) := by decide +kernel
theorem dL_law_783 : decode cL_law 783 = .ok (.aload_n 0, 1) := by decide +kernel
theorem dL_law_784 : decode cL_law 784 = .ok (.iload 4, 2) := by decide +kernel
theorem dL_law_786 : decode cL_law 786 = .ok (.iconst 2, 1) := by decide +kernel
theorem dL_law_787 : decode cL_law 787 = .ok (.iadd, 1) := by decide +kernel
theorem dL_law_788 : decode cL_law 788 = .ok (.iaload, 1) := by decide +kernel
theorem dL_law_789 : decode cL_law 789 = .ok (.aload_n 3, 1) := by decide +kernel
theorem dL_law_790 : decode cL_law 790 = .ok (.invokestatic 126, 3) := by decide +kernel
theorem dL_law_793 : decode cL_law 793 = .ok (.istore 5, 2) := by decide +kernel
theorem dL_law_795 : decode cL_law 795 = .ok (.aload_n 2, 1) := by decide +kernel
theorem dL_law_796 : decode cL_law 796 = .ok (.aload_n 0, 1) := by decide +kernel
theorem dL_law_797 : decode cL_law 797 = .ok (.iload 4, 2) := by decide +kernel
theorem dL_law_799 : decode cL_law 799 = .ok (.iconst 1, 1) := by decide +kernel
theorem dL_law_800 : decode cL_law 800 = .ok (.iadd, 1) := by decide +kernel
theorem dL_law_801 : decode cL_law 801 = .ok (.iaload, 1) := by decide +kernel
theorem dL_law_802 : decode cL_law 802 = .ok (.aload_n 0, 1) := by decide +kernel
theorem dL_law_803 : decode cL_law 803 = .ok (.iload 4, 2) := by decide +kernel
theorem dL_law_805 : decode cL_law 805 = .ok (.iconst 2, 1) := by decide +kernel
theorem dL_law_806 : decode cL_law 806 = .ok (.iadd, 1) := by decide +kernel
theorem dL_law_807 : decode cL_law 807 = .ok (.iaload, 1) := by decide +kernel
theorem dL_law_808 : decode cL_law 808 = .ok (.invokevirtual 128, 3) := by decide +kernel
theorem dL_law_811 : decode cL_law 811 = .ok (.istore 6, 2) := by decide +kernel
theorem dL_law_813 : decode cL_law 813 = .ok (.aload_n 2, 1) := by decide +kernel
theorem dL_law_814 : decode cL_law 814 = .ok (.invokevirtual 97, 3) := by decide +kernel
theorem dL_law_817 : decode cL_law 817 = .ok (.iload 5, 2) := by decide +kernel
theorem dL_law_819 : decode cL_law 819 = .ok (.if_icmp .eq 5, 3) := by decide +kernel
theorem dL_law_822 : decode cL_law 822 = .ok (.iconst 0, 1) := by decide +kernel
theorem dL_law_823 : decode cL_law 823 = .ok (.ireturn, 1) := by decide +kernel
theorem dL_law_824 : decode cL_law 824 = .ok (.iload 5, 2) := by decide +kernel
theorem dL_law_826 : decode cL_law 826 = .ok (.ifCond .ne 15, 3) := by decide +kernel
theorem dL_law_829 : decode cL_law 829 = .ok (.aload_n 3, 1) := by decide +kernel
theorem dL_law_830 : decode cL_law 830 = .ok (.iconst 0, 1) := by decide +kernel
theorem dL_law_831 : decode cL_law 831 = .ok (.laload, 1) := by decide +kernel
theorem dL_law_832 : decode cL_law 832 = .ok (.iload 6, 2) := by decide +kernel
theorem dL_law_834 : decode cL_law 834 = .ok (.i2l, 1) := by decide +kernel
theorem dL_law_835 : decode cL_law 835 = .ok (.lcmp, 1) := by decide +kernel
theorem dL_law_836 : decode cL_law 836 = .ok (.ifCond .eq 5, 3) := by decide +kernel
theorem dL_law_839 : decode cL_law 839 = .ok (.iconst 0, 1) := by decide +kernel
theorem dL_law_840 : decode cL_law 840 = .ok (.ireturn, 1) := by decide +kernel
theorem dL_law_841 : decode cL_law 841 = .ok (.goto 664, 3) := by decide +kernel
theorem dL_law_844 : decode cL_law 844 = .ok (.aload_n 1, 1) := by decide +kernel
theorem dL_law_845 : decode cL_law 845 = .ok (.aload_n 0, 1) := by decide +kernel
theorem dL_law_846 : decode cL_law 846 = .ok (.iload 4, 2) := by decide +kernel
theorem dL_law_848 : decode cL_law 848 = .ok (.iconst 1, 1) := by decide +kernel
theorem dL_law_849 : decode cL_law 849 = .ok (.iadd, 1) := by decide +kernel
theorem dL_law_850 : decode cL_law 850 = .ok (.iaload, 1) := by decide +kernel
theorem dL_law_851 : decode cL_law 851 = .ok (.aload_n 3, 1) := by decide +kernel
theorem dL_law_852 : decode cL_law 852 = .ok (.invokestatic 129, 3) := by decide +kernel
theorem dL_law_855 : decode cL_law 855 = .ok (.istore 5, 2) := by decide +kernel
theorem dL_law_857 : decode cL_law 857 = .ok (.aload_n 2, 1) := by decide +kernel
theorem dL_law_858 : decode cL_law 858 = .ok (.aload_n 0, 1) := by decide +kernel
theorem dL_law_859 : decode cL_law 859 = .ok (.iload 4, 2) := by decide +kernel
theorem dL_law_861 : decode cL_law 861 = .ok (.iconst 1, 1) := by decide +kernel
theorem dL_law_862 : decode cL_law 862 = .ok (.iadd, 1) := by decide +kernel
theorem dL_law_863 : decode cL_law 863 = .ok (.iaload, 1) := by decide +kernel
theorem dL_law_864 : decode cL_law 864 = .ok (.invokevirtual 131, 3) := by decide +kernel
theorem dL_law_867 : decode cL_law 867 = .ok (.istore 6, 2) := by decide +kernel
theorem dL_law_869 : decode cL_law 869 = .ok (.aload_n 2, 1) := by decide +kernel
theorem dL_law_870 : decode cL_law 870 = .ok (.invokevirtual 97, 3) := by decide +kernel
theorem dL_law_873 : decode cL_law 873 = .ok (.iload 5, 2) := by decide +kernel
theorem dL_law_875 : decode cL_law 875 = .ok (.if_icmp .eq 5, 3) := by decide +kernel
theorem dL_law_878 : decode cL_law 878 = .ok (.iconst 0, 1) := by decide +kernel
theorem dL_law_879 : decode cL_law 879 = .ok (.ireturn, 1) := by decide +kernel
theorem dL_law_880 : decode cL_law 880 = .ok (.iload 5, 2) := by decide +kernel
theorem dL_law_882 : decode cL_law 882 = .ok (.ifCond .ne 15, 3) := by decide +kernel
theorem dL_law_885 : decode cL_law 885 = .ok (.aload_n 3, 1) := by decide +kernel
theorem dL_law_886 : decode cL_law 886 = .ok (.iconst 0, 1) := by decide +kernel
theorem dL_law_887 : decode cL_law 887 = .ok (.laload, 1) := by decide +kernel
theorem dL_law_888 : decode cL_law 888 = .ok (.iload 6, 2) := by decide +kernel
theorem dL_law_890 : decode cL_law 890 = .ok (.i2l, 1) := by decide +kernel
theorem dL_law_891 : decode cL_law 891 = .ok (.lcmp, 1) := by decide +kernel
theorem dL_law_892 : decode cL_law 892 = .ok (.ifCond .eq 5, 3) := by decide +kernel
theorem dL_law_895 : decode cL_law 895 = .ok (.iconst 0, 1) := by decide +kernel
theorem dL_law_896 : decode cL_law 896 = .ok (.ireturn, 1) := by decide +kernel
theorem dL_law_897 : decode cL_law 897 = .ok (.goto 608, 3) := by decide +kernel
theorem dL_law_900 : decode cL_law 900 = .ok (.aload_n 1, 1) := by decide +kernel
theorem dL_law_901 : decode cL_law 901 = .ok (.aload_n 0, 1) := by decide +kernel
theorem dL_law_902 : decode cL_law 902 = .ok (.iload 4, 2) := by decide +kernel
theorem dL_law_904 : decode cL_law 904 = .ok (.iconst 1, 1) := by decide +kernel
theorem dL_law_905 : decode cL_law 905 = .ok (.iadd, 1) := by decide +kernel
theorem dL_law_906 : decode cL_law 906 = .ok (.iaload, 1) := by decide +kernel
theorem dL_law_907 : decode cL_law 907 = .ok (.aload_n 3, 1) := by decide +kernel
theorem dL_law_908 : decode cL_law 908 = .ok (.invokestatic 132, 3) := by decide +kernel
theorem dL_law_911 : decode cL_law 911 = .ok (.istore 5, 2) := by decide +kernel
theorem dL_law_913 : decode cL_law 913 = .ok (.aload_n 2, 1) := by decide +kernel
theorem dL_law_914 : decode cL_law 914 = .ok (.aload_n 0, 1) := by decide +kernel
theorem dL_law_915 : decode cL_law 915 = .ok (.iload 4, 2) := by decide +kernel
theorem dL_law_917 : decode cL_law 917 = .ok (.iconst 1, 1) := by decide +kernel
theorem dL_law_918 : decode cL_law 918 = .ok (.iadd, 1) := by decide +kernel
theorem dL_law_919 : decode cL_law 919 = .ok (.iaload, 1) := by decide +kernel
theorem dL_law_920 : decode cL_law 920 = .ok (.invokevirtual 134, 3) := by decide +kernel
theorem dL_law_923 : decode cL_law 923 = .ok (.istore 6, 2) := by decide +kernel
theorem dL_law_925 : decode cL_law 925 = .ok (.aload_n 2, 1) := by decide +kernel
theorem dL_law_926 : decode cL_law 926 = .ok (.invokevirtual 97, 3) := by decide +kernel
theorem dL_law_929 : decode cL_law 929 = .ok (.iload 5, 2) := by decide +kernel
theorem dL_law_931 : decode cL_law 931 = .ok (.if_icmp .eq 5, 3) := by decide +kernel
theorem dL_law_934 : decode cL_law 934 = .ok (.iconst 0, 1) := by decide +kernel
theorem dL_law_935 : decode cL_law 935 = .ok (.ireturn, 1) := by decide +kernel
theorem dL_law_936 : decode cL_law 936 = .ok (.iload 5, 2) := by decide +kernel
theorem dL_law_938 : decode cL_law 938 = .ok (.ifCond .ne 15, 3) := by decide +kernel
theorem dL_law_941 : decode cL_law 941 = .ok (.aload_n 3, 1) := by decide +kernel
theorem dL_law_942 : decode cL_law 942 = .ok (.iconst 0, 1) := by decide +kernel
theorem dL_law_943 : decode cL_law 943 = .ok (.laload, 1) := by decide +kernel
theorem dL_law_944 : decode cL_law 944 = .ok (.iload 6, 2) := by decide +kernel
theorem dL_law_946 : decode cL_law 946 = .ok (.i2l, 1) := by decide +kernel
theorem dL_law_947 : decode cL_law 947 = .ok (.lcmp, 1) := by decide +kernel
theorem dL_law_948 : decode cL_law 948 = .ok (.ifCond .eq 5, 3) := by decide +kernel
theorem dL_law_951 : decode cL_law 951 = .ok (.iconst 0, 1) := by decide +kernel
theorem dL_law_952 : decode cL_law 952 = .ok (.ireturn, 1) := by decide +kernel
theorem dL_law_953 : decode cL_law 953 = .ok (.goto 552, 3) := by decide +kernel
theorem dL_law_956 : decode cL_law 956 = .ok (.aload_n 1, 1) := by decide +kernel
theorem dL_law_957 : decode cL_law 957 = .ok (.aload_n 0, 1) := by decide +kernel
theorem dL_law_958 : decode cL_law 958 = .ok (.iload 4, 2) := by decide +kernel
theorem dL_law_960 : decode cL_law 960 = .ok (.iconst 1, 1) := by decide +kernel
theorem dL_law_961 : decode cL_law 961 = .ok (.iadd, 1) := by decide +kernel
theorem dL_law_962 : decode cL_law 962 = .ok (.iaload, 1) := by decide +kernel
theorem dL_law_963 : decode cL_law 963 = .ok (.aload_n 3, 1) := by decide +kernel
theorem dL_law_964 : decode cL_law 964 = .ok (.invokestatic 135, 3) := by decide +kernel
theorem dL_law_967 : decode cL_law 967 = .ok (.istore 5, 2) := by decide +kernel
theorem dL_law_969 : decode cL_law 969 = .ok (.aload_n 2, 1) := by decide +kernel
theorem dL_law_970 : decode cL_law 970 = .ok (.aload_n 0, 1) := by decide +kernel
theorem dL_law_971 : decode cL_law 971 = .ok (.iload 4, 2) := by decide +kernel
theorem dL_law_973 : decode cL_law 973 = .ok (.iconst 1, 1) := by decide +kernel
theorem dL_law_974 : decode cL_law 974 = .ok (.iadd, 1) := by decide +kernel
theorem dL_law_975 : decode cL_law 975 = .ok (.iaload, 1) := by decide +kernel
theorem dL_law_976 : decode cL_law 976 = .ok (.invokevirtual 137, 3) := by decide +kernel
theorem dL_law_979 : decode cL_law 979 = .ok (.istore 6, 2) := by decide +kernel
theorem dL_law_981 : decode cL_law 981 = .ok (.aload_n 2, 1) := by decide +kernel
theorem dL_law_982 : decode cL_law 982 = .ok (.invokevirtual 97, 3) := by decide +kernel
theorem dL_law_985 : decode cL_law 985 = .ok (.iload 5, 2) := by decide +kernel
theorem dL_law_987 : decode cL_law 987 = .ok (.if_icmp .eq 5, 3) := by decide +kernel
theorem dL_law_990 : decode cL_law 990 = .ok (.iconst 0, 1) := by decide +kernel
theorem dL_law_991 : decode cL_law 991 = .ok (.ireturn, 1) := by decide +kernel
theorem dL_law_992 : decode cL_law 992 = .ok (.iload 5, 2) := by decide +kernel
theorem dL_law_994 : decode cL_law 994 = .ok (.ifCond .ne 15, 3) := by decide +kernel
theorem dL_law_997 : decode cL_law 997 = .ok (.aload_n 3, 1) := by decide +kernel
theorem dL_law_998 : decode cL_law 998 = .ok (.iconst 0, 1) := by decide +kernel
theorem dL_law_999 : decode cL_law 999 = .ok (.laload, 1) := by decide +kernel
theorem dL_law_1000 : decode cL_law 1000 = .ok (.iload 6, 2) := by decide +kernel
theorem dL_law_1002 : decode cL_law 1002 = .ok (.i2l, 1) := by decide +kernel
theorem dL_law_1003 : decode cL_law 1003 = .ok (.lcmp, 1) := by decide +kernel
theorem dL_law_1004 : decode cL_law 1004 = .ok (.ifCond .eq 5, 3) := by decide +kernel
theorem dL_law_1007 : decode cL_law 1007 = .ok (.iconst 0, 1) := by decide +kernel
theorem dL_law_1008 : decode cL_law 1008 = .ok (.ireturn, 1) := by decide +kernel
theorem dL_law_1009 : decode cL_law 1009 = .ok (.goto 496, 3) := by decide +kernel
theorem dL_law_1012 : decode cL_law 1012 = .ok (.aload_n 1, 1) := by decide +kernel
theorem dL_law_1013 : decode cL_law 1013 = .ok (.invokevirtual 138, 3) := by decide +kernel
theorem dL_law_1016 : decode cL_law 1016 = .ok (.aload_n 2, 1) := by decide +kernel
theorem dL_law_1017 : decode cL_law 1017 = .ok (.invokevirtual 141, 3) := by decide +kernel
theorem dL_law_1020 : decode cL_law 1020 = .ok (.if_icmp .eq 485, 3) := by decide +kernel
theorem dL_law_1023 : decode cL_law 1023 = .ok (.iconst 0, 1) := by decide +kernel
theorem dL_law_1024 : decode cL_law 1024 = .ok (.ireturn, 1) := by decide +kernel
theorem dL_law_1025 : decode cL_law 1025 = .ok (.aload_n 1, 1) := by decide +kernel
theorem dL_law_1026 : decode cL_law 1026 = .ok (.aload_n 0, 1) := by decide +kernel
theorem dL_law_1027 : decode cL_law 1027 = .ok (.iload 4, 2) := by decide +kernel
theorem dL_law_1029 : decode cL_law 1029 = .ok (.iconst 1, 1) := by decide +kernel
theorem dL_law_1030 : decode cL_law 1030 = .ok (.iadd, 1) := by decide +kernel
theorem dL_law_1031 : decode cL_law 1031 = .ok (.iaload, 1) := by decide +kernel
theorem dL_law_1032 : decode cL_law 1032 = .ok (.aload_n 3, 1) := by decide +kernel
theorem dL_law_1033 : decode cL_law 1033 = .ok (.invokestatic 142, 3) := by decide +kernel
theorem dL_law_1036 : decode cL_law 1036 = .ok (.istore 5, 2) := by decide +kernel
theorem dL_law_1038 : decode cL_law 1038 = .ok (.aload_n 2, 1) := by decide +kernel
theorem dL_law_1039 : decode cL_law 1039 = .ok (.aload_n 0, 1) := by decide +kernel
theorem dL_law_1040 : decode cL_law 1040 = .ok (.iload 4, 2) := by decide +kernel
theorem dL_law_1042 : decode cL_law 1042 = .ok (.iconst 1, 1) := by decide +kernel
theorem dL_law_1043 : decode cL_law 1043 = .ok (.iadd, 1) := by decide +kernel
theorem dL_law_1044 : decode cL_law 1044 = .ok (.iaload, 1) := by decide +kernel
theorem dL_law_1045 : decode cL_law 1045 = .ok (.invokevirtual 144, 3) := by decide +kernel
theorem dL_law_1048 : decode cL_law 1048 = .ok (.istore 6, 2) := by decide +kernel
theorem dL_law_1050 : decode cL_law 1050 = .ok (.aload_n 2, 1) := by decide +kernel
theorem dL_law_1051 : decode cL_law 1051 = .ok (.invokevirtual 97, 3) := by decide +kernel
theorem dL_law_1054 : decode cL_law 1054 = .ok (.iload 5, 2) := by decide +kernel
theorem dL_law_1056 : decode cL_law 1056 = .ok (.if_icmp .eq 5, 3) := by decide +kernel
theorem dL_law_1059 : decode cL_law 1059 = .ok (.iconst 0, 1) := by decide +kernel
theorem dL_law_1060 : decode cL_law 1060 = .ok (.ireturn, 1) := by decide +kernel
theorem dL_law_1061 : decode cL_law 1061 = .ok (.iload 5, 2) := by decide +kernel
theorem dL_law_1063 : decode cL_law 1063 = .ok (.ifCond .ne 15, 3) := by decide +kernel
theorem dL_law_1066 : decode cL_law 1066 = .ok (.aload_n 3, 1) := by decide +kernel
theorem dL_law_1067 : decode cL_law 1067 = .ok (.iconst 0, 1) := by decide +kernel
theorem dL_law_1068 : decode cL_law 1068 = .ok (.laload, 1) := by decide +kernel
theorem dL_law_1069 : decode cL_law 1069 = .ok (.iload 6, 2) := by decide +kernel
theorem dL_law_1071 : decode cL_law 1071 = .ok (.i2l, 1) := by decide +kernel
theorem dL_law_1072 : decode cL_law 1072 = .ok (.lcmp, 1) := by decide +kernel
theorem dL_law_1073 : decode cL_law 1073 = .ok (.ifCond .eq 5, 3) := by decide +kernel
theorem dL_law_1076 : decode cL_law 1076 = .ok (.iconst 0, 1) := by decide +kernel
theorem dL_law_1077 : decode cL_law 1077 = .ok (.ireturn, 1) := by decide +kernel
theorem dL_law_1078 : decode cL_law 1078 = .ok (.goto 427, 3) := by decide +kernel
theorem dL_law_1081 : decode cL_law 1081 = .ok (.aload_n 1, 1) := by decide +kernel
theorem dL_law_1082 : decode cL_law 1082 = .ok (.aload_n 0, 1) := by decide +kernel
theorem dL_law_1083 : decode cL_law 1083 = .ok (.iload 4, 2) := by decide +kernel
theorem dL_law_1085 : decode cL_law 1085 = .ok (.iconst 1, 1) := by decide +kernel
theorem dL_law_1086 : decode cL_law 1086 = .ok (.iadd, 1) := by decide +kernel
theorem dL_law_1087 : decode cL_law 1087 = .ok (.iaload, 1) := by decide +kernel
theorem dL_law_1088 : decode cL_law 1088 = .ok (.aload_n 3, 1) := by decide +kernel
theorem dL_law_1089 : decode cL_law 1089 = .ok (.invokestatic 145, 3) := by decide +kernel
theorem dL_law_1092 : decode cL_law 1092 = .ok (.istore 5, 2) := by decide +kernel
theorem dL_law_1094 : decode cL_law 1094 = .ok (.aload_n 2, 1) := by decide +kernel
theorem dL_law_1095 : decode cL_law 1095 = .ok (.aload_n 0, 1) := by decide +kernel
theorem dL_law_1096 : decode cL_law 1096 = .ok (.iload 4, 2) := by decide +kernel
theorem dL_law_1098 : decode cL_law 1098 = .ok (.iconst 1, 1) := by decide +kernel
theorem dL_law_1099 : decode cL_law 1099 = .ok (.iadd, 1) := by decide +kernel
theorem dL_law_1100 : decode cL_law 1100 = .ok (.iaload, 1) := by decide +kernel
theorem dL_law_1101 : decode cL_law 1101 = .ok (.invokevirtual 147, 3) := by decide +kernel
theorem dL_law_1104 : decode cL_law 1104 = .ok (.istore 6, 2) := by decide +kernel
theorem dL_law_1106 : decode cL_law 1106 = .ok (.aload_n 2, 1) := by decide +kernel
theorem dL_law_1107 : decode cL_law 1107 = .ok (.invokevirtual 97, 3) := by decide +kernel
theorem dL_law_1110 : decode cL_law 1110 = .ok (.iload 5, 2) := by decide +kernel
theorem dL_law_1112 : decode cL_law 1112 = .ok (.if_icmp .eq 5, 3) := by decide +kernel
theorem dL_law_1115 : decode cL_law 1115 = .ok (.iconst 0, 1) := by decide +kernel
theorem dL_law_1116 : decode cL_law 1116 = .ok (.ireturn, 1) := by decide +kernel
theorem dL_law_1117 : decode cL_law 1117 = .ok (.iload 5, 2) := by decide +kernel
theorem dL_law_1119 : decode cL_law 1119 = .ok (.ifCond .ne 22, 3) := by decide +kernel
theorem dL_law_1122 : decode cL_law 1122 = .ok (.aload_n 3, 1) := by decide +kernel
theorem dL_law_1123 : decode cL_law 1123 = .ok (.iconst 0, 1) := by decide +kernel
theorem dL_law_1124 : decode cL_law 1124 = .ok (.laload, 1) := by decide +kernel
theorem dL_law_1125 : decode cL_law 1125 = .ok (.iload 6, 2) := by decide +kernel
theorem dL_law_1127 : decode cL_law 1127 = .ok (.ifCond .eq 7, 3) := by decide +kernel
theorem dL_law_1130 : decode cL_law 1130 = .ok (.lconst 1, 1) := by decide +kernel
theorem dL_law_1131 : decode cL_law 1131 = .ok (.goto 4, 3) := by decide +kernel
theorem dL_law_1134 : decode cL_law 1134 = .ok (.lconst 0, 1) := by decide +kernel
theorem dL_law_1135 : decode cL_law 1135 = .ok (.lcmp, 1) := by decide +kernel
theorem dL_law_1136 : decode cL_law 1136 = .ok (.ifCond .eq 5, 3) := by decide +kernel
theorem dL_law_1139 : decode cL_law 1139 = .ok (.iconst 0, 1) := by decide +kernel
theorem dL_law_1140 : decode cL_law 1140 = .ok (.ireturn, 1) := by decide +kernel
theorem dL_law_1141 : decode cL_law 1141 = .ok (.goto 364, 3) := by decide +kernel
theorem dL_law_1144 : decode cL_law 1144 = .ok (.aload_n 1, 1) := by decide +kernel
theorem dL_law_1145 : decode cL_law 1145 = .ok (.aload_n 0, 1) := by decide +kernel
theorem dL_law_1146 : decode cL_law 1146 = .ok (.iload 4, 2) := by decide +kernel
theorem dL_law_1148 : decode cL_law 1148 = .ok (.iconst 1, 1) := by decide +kernel
theorem dL_law_1149 : decode cL_law 1149 = .ok (.iadd, 1) := by decide +kernel
theorem dL_law_1150 : decode cL_law 1150 = .ok (.iaload, 1) := by decide +kernel
theorem dL_law_1151 : decode cL_law 1151 = .ok (.aload_n 0, 1) := by decide +kernel
theorem dL_law_1152 : decode cL_law 1152 = .ok (.iload 4, 2) := by decide +kernel
theorem dL_law_1154 : decode cL_law 1154 = .ok (.iconst 2, 1) := by decide +kernel
theorem dL_law_1155 : decode cL_law 1155 = .ok (.iadd, 1) := by decide +kernel
theorem dL_law_1156 : decode cL_law 1156 = .ok (.iaload, 1) := by decide +kernel
theorem dL_law_1157 : decode cL_law 1157 = .ok (.aload_n 3, 1) := by decide +kernel
theorem dL_law_1158 : decode cL_law 1158 = .ok (.invokestatic 148, 3) := by decide +kernel
theorem dL_law_1161 : decode cL_law 1161 = .ok (.istore 5, 2) := by decide +kernel
end
section
theorem dL_law_1163 : decode cL_law 1163 = .ok (.aload_n 2, 1) := by decide +kernel
theorem dL_law_1164 : decode cL_law 1164 = .ok (.aload_n 0, 1) := by decide +kernel
theorem dL_law_1165 : decode cL_law 1165 = .ok (.iload 4, 2) := by decide +kernel
theorem dL_law_1167 : decode cL_law 1167 = .ok (.iconst 1, 1) := by decide +kernel
theorem dL_law_1168 : decode cL_law 1168 = .ok (.iadd, 1) := by decide +kernel
theorem dL_law_1169 : decode cL_law 1169 = .ok (.iaload, 1) := by decide +kernel
theorem dL_law_1170 : decode cL_law 1170 = .ok (.aload_n 0, 1) := by decide +kernel
theorem dL_law_1171 : decode cL_law 1171 = .ok (.iload 4, 2) := by decide +kernel
theorem dL_law_1173 : decode cL_law 1173 = .ok (.iconst 2, 1) := by decide +kernel
theorem dL_law_1174 : decode cL_law 1174 = .ok (.iadd, 1) := by decide +kernel
theorem dL_law_1175 : decode cL_law 1175 = .ok (.iaload, 1) := by decide +kernel
theorem dL_law_1176 : decode cL_law 1176 = .ok (.invokevirtual 150, 3) := by decide +kernel
theorem dL_law_1179 : decode cL_law 1179 = .ok (.istore 6, 2) := by decide +kernel
theorem dL_law_1181 : decode cL_law 1181 = .ok (.aload_n 2, 1) := by decide +kernel
theorem dL_law_1182 : decode cL_law 1182 = .ok (.invokevirtual 97, 3) := by decide +kernel
theorem dL_law_1185 : decode cL_law 1185 = .ok (.iload 5, 2) := by decide +kernel
theorem dL_law_1187 : decode cL_law 1187 = .ok (.if_icmp .eq 5, 3) := by decide +kernel
theorem dL_law_1190 : decode cL_law 1190 = .ok (.iconst 0, 1) := by decide +kernel
theorem dL_law_1191 : decode cL_law 1191 = .ok (.ireturn, 1) := by decide +kernel
theorem dL_law_1192 : decode cL_law 1192 = .ok (.iload 5, 2) := by decide +kernel
theorem dL_law_1194 : decode cL_law 1194 = .ok (.ifCond .ne 15, 3) := by decide +kernel
theorem dL_law_1197 : decode cL_law 1197 = .ok (.aload_n 3, 1) := by decide +kernel
theorem dL_law_1198 : decode cL_law 1198 = .ok (.iconst 0, 1) := by decide +kernel
theorem dL_law_1199 : decode cL_law 1199 = .ok (.laload, 1) := by decide +kernel
theorem dL_law_1200 : decode cL_law 1200 = .ok (.iload 6, 2) := by decide +kernel
theorem dL_law_1202 : decode cL_law 1202 = .ok (.i2l, 1) := by decide +kernel
theorem dL_law_1203 : decode cL_law 1203 = .ok (.lcmp, 1) := by decide +kernel
theorem dL_law_1204 : decode cL_law 1204 = .ok (.ifCond .eq 5, 3) := by decide +kernel
theorem dL_law_1207 : decode cL_law 1207 = .ok (.iconst 0, 1) := by decide +kernel
theorem dL_law_1208 : decode cL_law 1208 = .ok (.ireturn, 1) := by decide +kernel
theorem dL_law_1209 : decode cL_law 1209 = .ok (.goto 296, 3) := by decide +kernel
theorem dL_law_1212 : decode cL_law 1212 = .ok (.aload_n 1, 1) := by decide +kernel
theorem dL_law_1213 : decode cL_law 1213 = .ok (.aload_n 0, 1) := by decide +kernel
theorem dL_law_1214 : decode cL_law 1214 = .ok (.iload 4, 2) := by decide +kernel
theorem dL_law_1216 : decode cL_law 1216 = .ok (.iconst 1, 1) := by decide +kernel
theorem dL_law_1217 : decode cL_law 1217 = .ok (.iadd, 1) := by decide +kernel
theorem dL_law_1218 : decode cL_law 1218 = .ok (.iaload, 1) := by decide +kernel
theorem dL_law_1219 : decode cL_law 1219 = .ok (.aload_n 3, 1) := by decide +kernel
theorem dL_law_1220 : decode cL_law 1220 = .ok (.invokestatic 151, 3) := by decide +kernel
theorem dL_law_1223 : decode cL_law 1223 = .ok (.istore 5, 2) := by decide +kernel
theorem dL_law_1225 : decode cL_law 1225 = .ok (.aload_n 2, 1) := by decide +kernel
theorem dL_law_1226 : decode cL_law 1226 = .ok (.aload_n 0, 1) := by decide +kernel
theorem dL_law_1227 : decode cL_law 1227 = .ok (.iload 4, 2) := by decide +kernel
theorem dL_law_1229 : decode cL_law 1229 = .ok (.iconst 1, 1) := by decide +kernel
theorem dL_law_1230 : decode cL_law 1230 = .ok (.iadd, 1) := by decide +kernel
theorem dL_law_1231 : decode cL_law 1231 = .ok (.iaload, 1) := by decide +kernel
theorem dL_law_1232 : decode cL_law 1232 = .ok (.invokevirtual 153, 3) := by decide +kernel
theorem dL_law_1235 : decode cL_law 1235 = .ok (.istore 6, 2) := by decide +kernel
theorem dL_law_1237 : decode cL_law 1237 = .ok (.aload_n 2, 1) := by decide +kernel
theorem dL_law_1238 : decode cL_law 1238 = .ok (.invokevirtual 97, 3) := by decide +kernel
theorem dL_law_1241 : decode cL_law 1241 = .ok (.iload 5, 2) := by decide +kernel
theorem dL_law_1243 : decode cL_law 1243 = .ok (.if_icmp .eq 5, 3) := by decide +kernel
theorem dL_law_1246 : decode cL_law 1246 = .ok (.iconst 0, 1) := by decide +kernel
theorem dL_law_1247 : decode cL_law 1247 = .ok (.ireturn, 1) := by decide +kernel
theorem dL_law_1248 : decode cL_law 1248 = .ok (.iload 5, 2) := by decide +kernel
theorem dL_law_1250 : decode cL_law 1250 = .ok (.ifCond .ne 15, 3) := by decide +kernel
theorem dL_law_1253 : decode cL_law 1253 = .ok (.aload_n 3, 1) := by decide +kernel
theorem dL_law_1254 : decode cL_law 1254 = .ok (.iconst 0, 1) := by decide +kernel
theorem dL_law_1255 : decode cL_law 1255 = .ok (.laload, 1) := by decide +kernel
theorem dL_law_1256 : decode cL_law 1256 = .ok (.iload 6, 2) := by decide +kernel
theorem dL_law_1258 : decode cL_law 1258 = .ok (.i2l, 1) := by decide +kernel
theorem dL_law_1259 : decode cL_law 1259 = .ok (.lcmp, 1) := by decide +kernel
theorem dL_law_1260 : decode cL_law 1260 = .ok (.ifCond .eq 5, 3) := by decide +kernel
theorem dL_law_1263 : decode cL_law 1263 = .ok (.iconst 0, 1) := by decide +kernel
theorem dL_law_1264 : decode cL_law 1264 = .ok (.ireturn, 1) := by decide +kernel
theorem dL_law_1265 : decode cL_law 1265 = .ok (.goto 240, 3) := by decide +kernel
theorem dL_law_1268 : decode cL_law 1268 = .ok (.aload_n 1, 1) := by decide +kernel
theorem dL_law_1269 : decode cL_law 1269 = .ok (.aload_n 0, 1) := by decide +kernel
theorem dL_law_1270 : decode cL_law 1270 = .ok (.iload 4, 2) := by decide +kernel
theorem dL_law_1272 : decode cL_law 1272 = .ok (.iconst 1, 1) := by decide +kernel
theorem dL_law_1273 : decode cL_law 1273 = .ok (.iadd, 1) := by decide +kernel
theorem dL_law_1274 : decode cL_law 1274 = .ok (.iaload, 1) := by decide +kernel
theorem dL_law_1275 : decode cL_law 1275 = .ok (.aload_n 3, 1) := by decide +kernel
theorem dL_law_1276 : decode cL_law 1276 = .ok (.invokestatic 154, 3) := by decide +kernel
theorem dL_law_1279 : decode cL_law 1279 = .ok (.istore 5, 2) := by decide +kernel
theorem dL_law_1281 : decode cL_law 1281 = .ok (.aload_n 2, 1) := by decide +kernel
theorem dL_law_1282 : decode cL_law 1282 = .ok (.aload_n 0, 1) := by decide +kernel
theorem dL_law_1283 : decode cL_law 1283 = .ok (.iload 4, 2) := by decide +kernel
theorem dL_law_1285 : decode cL_law 1285 = .ok (.iconst 1, 1) := by decide +kernel
theorem dL_law_1286 : decode cL_law 1286 = .ok (.iadd, 1) := by decide +kernel
theorem dL_law_1287 : decode cL_law 1287 = .ok (.iaload, 1) := by decide +kernel
theorem dL_law_1288 : decode cL_law 1288 = .ok (.invokevirtual 156, 3) := by decide +kernel
theorem dL_law_1291 : decode cL_law 1291 = .ok (.istore 6, 2) := by decide +kernel
theorem dL_law_1293 : decode cL_law 1293 = .ok (.aload_n 2, 1) := by decide +kernel
theorem dL_law_1294 : decode cL_law 1294 = .ok (.invokevirtual 97, 3) := by decide +kernel
theorem dL_law_1297 : decode cL_law 1297 = .ok (.iload 5, 2) := by decide +kernel
theorem dL_law_1299 : decode cL_law 1299 = .ok (.if_icmp .eq 5, 3) := by decide +kernel
theorem dL_law_1302 : decode cL_law 1302 = .ok (.iconst 0, 1) := by decide +kernel
theorem dL_law_1303 : decode cL_law 1303 = .ok (.ireturn, 1) := by decide +kernel
theorem dL_law_1304 : decode cL_law 1304 = .ok (.iload 5, 2) := by decide +kernel
theorem dL_law_1306 : decode cL_law 1306 = .ok (.ifCond .ne 15, 3) := by decide +kernel
theorem dL_law_1309 : decode cL_law 1309 = .ok (.aload_n 3, 1) := by decide +kernel
theorem dL_law_1310 : decode cL_law 1310 = .ok (.iconst 0, 1) := by decide +kernel
theorem dL_law_1311 : decode cL_law 1311 = .ok (.laload, 1) := by decide +kernel
theorem dL_law_1312 : decode cL_law 1312 = .ok (.iload 6, 2) := by decide +kernel
theorem dL_law_1314 : decode cL_law 1314 = .ok (.i2l, 1) := by decide +kernel
theorem dL_law_1315 : decode cL_law 1315 = .ok (.lcmp, 1) := by decide +kernel
theorem dL_law_1316 : decode cL_law 1316 = .ok (.ifCond .eq 5, 3) := by decide +kernel
theorem dL_law_1319 : decode cL_law 1319 = .ok (.iconst 0, 1) := by decide +kernel
theorem dL_law_1320 : decode cL_law 1320 = .ok (.ireturn, 1) := by decide +kernel
theorem dL_law_1321 : decode cL_law 1321 = .ok (.goto 184, 3) := by decide +kernel
theorem dL_law_1324 : decode cL_law 1324 = .ok (.aload_n 1, 1) := by decide +kernel
theorem dL_law_1325 : decode cL_law 1325 = .ok (.aload_n 0, 1) := by decide +kernel
theorem dL_law_1326 : decode cL_law 1326 = .ok (.iload 4, 2) := by decide +kernel
theorem dL_law_1328 : decode cL_law 1328 = .ok (.iconst 1, 1) := by decide +kernel
theorem dL_law_1329 : decode cL_law 1329 = .ok (.iadd, 1) := by decide +kernel
theorem dL_law_1330 : decode cL_law 1330 = .ok (.iaload, 1) := by decide +kernel
theorem dL_law_1331 : decode cL_law 1331 = .ok (.aload_n 3, 1) := by decide +kernel
theorem dL_law_1332 : decode cL_law 1332 = .ok (.invokestatic 157, 3) := by decide +kernel
theorem dL_law_1335 : decode cL_law 1335 = .ok (.istore 5, 2) := by decide +kernel
theorem dL_law_1337 : decode cL_law 1337 = .ok (.aload_n 2, 1) := by decide +kernel
theorem dL_law_1338 : decode cL_law 1338 = .ok (.aload_n 0, 1) := by decide +kernel
theorem dL_law_1339 : decode cL_law 1339 = .ok (.iload 4, 2) := by decide +kernel
theorem dL_law_1341 : decode cL_law 1341 = .ok (.iconst 1, 1) := by decide +kernel
theorem dL_law_1342 : decode cL_law 1342 = .ok (.iadd, 1) := by decide +kernel
theorem dL_law_1343 : decode cL_law 1343 = .ok (.iaload, 1) := by decide +kernel
theorem dL_law_1344 : decode cL_law 1344 = .ok (.invokevirtual 159, 3) := by decide +kernel
theorem dL_law_1347 : decode cL_law 1347 = .ok (.istore 6, 2) := by decide +kernel
theorem dL_law_1349 : decode cL_law 1349 = .ok (.aload_n 2, 1) := by decide +kernel
theorem dL_law_1350 : decode cL_law 1350 = .ok (.invokevirtual 97, 3) := by decide +kernel
theorem dL_law_1353 : decode cL_law 1353 = .ok (.iload 5, 2) := by decide +kernel
theorem dL_law_1355 : decode cL_law 1355 = .ok (.if_icmp .eq 5, 3) := by decide +kernel
theorem dL_law_1358 : decode cL_law 1358 = .ok (.iconst 0, 1) := by decide +kernel
theorem dL_law_1359 : decode cL_law 1359 = .ok (.ireturn, 1) := by decide +kernel
theorem dL_law_1360 : decode cL_law 1360 = .ok (.iload 5, 2) := by decide +kernel
theorem dL_law_1362 : decode cL_law 1362 = .ok (.ifCond .ne 15, 3) := by decide +kernel
theorem dL_law_1365 : decode cL_law 1365 = .ok (.aload_n 3, 1) := by decide +kernel
theorem dL_law_1366 : decode cL_law 1366 = .ok (.iconst 0, 1) := by decide +kernel
theorem dL_law_1367 : decode cL_law 1367 = .ok (.laload, 1) := by decide +kernel
theorem dL_law_1368 : decode cL_law 1368 = .ok (.iload 6, 2) := by decide +kernel
theorem dL_law_1370 : decode cL_law 1370 = .ok (.i2l, 1) := by decide +kernel
theorem dL_law_1371 : decode cL_law 1371 = .ok (.lcmp, 1) := by decide +kernel
theorem dL_law_1372 : decode cL_law 1372 = .ok (.ifCond .eq 5, 3) := by decide +kernel
theorem dL_law_1375 : decode cL_law 1375 = .ok (.iconst 0, 1) := by decide +kernel
theorem dL_law_1376 : decode cL_law 1376 = .ok (.ireturn, 1) := by decide +kernel
theorem dL_law_1377 : decode cL_law 1377 = .ok (.goto 128, 3) := by decide +kernel
theorem dL_law_1380 : decode cL_law 1380 = .ok (.aload_n 1, 1) := by decide +kernel
theorem dL_law_1381 : decode cL_law 1381 = .ok (.aload_n 0, 1) := by decide +kernel
theorem dL_law_1382 : decode cL_law 1382 = .ok (.iload 4, 2) := by decide +kernel
theorem dL_law_1384 : decode cL_law 1384 = .ok (.iconst 1, 1) := by decide +kernel
theorem dL_law_1385 : decode cL_law 1385 = .ok (.iadd, 1) := by decide +kernel
theorem dL_law_1386 : decode cL_law 1386 = .ok (.iaload, 1) := by decide +kernel
theorem dL_law_1387 : decode cL_law 1387 = .ok (.aload_n 3, 1) := by decide +kernel
theorem dL_law_1388 : decode cL_law 1388 = .ok (.invokestatic 160, 3) := by decide +kernel
theorem dL_law_1391 : decode cL_law 1391 = .ok (.istore 5, 2) := by decide +kernel
theorem dL_law_1393 : decode cL_law 1393 = .ok (.aload_n 2, 1) := by decide +kernel
theorem dL_law_1394 : decode cL_law 1394 = .ok (.aload_n 0, 1) := by decide +kernel
theorem dL_law_1395 : decode cL_law 1395 = .ok (.iload 4, 2) := by decide +kernel
theorem dL_law_1397 : decode cL_law 1397 = .ok (.iconst 1, 1) := by decide +kernel
theorem dL_law_1398 : decode cL_law 1398 = .ok (.iadd, 1) := by decide +kernel
theorem dL_law_1399 : decode cL_law 1399 = .ok (.iaload, 1) := by decide +kernel
theorem dL_law_1400 : decode cL_law 1400 = .ok (.invokevirtual 162, 3) := by decide +kernel
theorem dL_law_1403 : decode cL_law 1403 = .ok (.istore 6, 2) := by decide +kernel
theorem dL_law_1405 : decode cL_law 1405 = .ok (.aload_n 2, 1) := by decide +kernel
theorem dL_law_1406 : decode cL_law 1406 = .ok (.invokevirtual 97, 3) := by decide +kernel
theorem dL_law_1409 : decode cL_law 1409 = .ok (.iload 5, 2) := by decide +kernel
theorem dL_law_1411 : decode cL_law 1411 = .ok (.if_icmp .eq 5, 3) := by decide +kernel
theorem dL_law_1414 : decode cL_law 1414 = .ok (.iconst 0, 1) := by decide +kernel
theorem dL_law_1415 : decode cL_law 1415 = .ok (.ireturn, 1) := by decide +kernel
theorem dL_law_1416 : decode cL_law 1416 = .ok (.iload 5, 2) := by decide +kernel
theorem dL_law_1418 : decode cL_law 1418 = .ok (.ifCond .ne 15, 3) := by decide +kernel
theorem dL_law_1421 : decode cL_law 1421 = .ok (.aload_n 3, 1) := by decide +kernel
theorem dL_law_1422 : decode cL_law 1422 = .ok (.iconst 0, 1) := by decide +kernel
theorem dL_law_1423 : decode cL_law 1423 = .ok (.laload, 1) := by decide +kernel
theorem dL_law_1424 : decode cL_law 1424 = .ok (.iload 6, 2) := by decide +kernel
theorem dL_law_1426 : decode cL_law 1426 = .ok (.i2l, 1) := by decide +kernel
theorem dL_law_1427 : decode cL_law 1427 = .ok (.lcmp, 1) := by decide +kernel
theorem dL_law_1428 : decode cL_law 1428 = .ok (.ifCond .eq 5, 3) := by decide +kernel
theorem dL_law_1431 : decode cL_law 1431 = .ok (.iconst 0, 1) := by decide +kernel
theorem dL_law_1432 : decode cL_law 1432 = .ok (.ireturn, 1) := by decide +kernel
theorem dL_law_1433 : decode cL_law 1433 = .ok (.goto 72, 3) := by decide +kernel
theorem dL_law_1436 : decode cL_law 1436 = .ok (.aload_n 1, 1) := by decide +kernel
theorem dL_law_1437 : decode cL_law 1437 = .ok (.invokevirtual 163, 3) := by decide +kernel
theorem dL_law_1440 : decode cL_law 1440 = .ok (.aload_n 2, 1) := by decide +kernel
theorem dL_law_1441 : decode cL_law 1441 = .ok (.invokevirtual 166, 3) := by decide +kernel
theorem dL_law_1444 : decode cL_law 1444 = .ok (.if_icmp .eq 61, 3) := by decide +kernel
theorem dL_law_1447 : decode cL_law 1447 = .ok (.iconst 0, 1) := by decide +kernel
theorem dL_law_1448 : decode cL_law 1448 = .ok (.ireturn, 1) := by decide +kernel
theorem dL_law_1449 : decode cL_law 1449 = .ok (.aload_n 1, 1) := by decide +kernel
theorem dL_law_1450 : decode cL_law 1450 = .ok (.aload_n 0, 1) := by decide +kernel
theorem dL_law_1451 : decode cL_law 1451 = .ok (.iload 4, 2) := by decide +kernel
theorem dL_law_1453 : decode cL_law 1453 = .ok (.iconst 1, 1) := by decide +kernel
theorem dL_law_1454 : decode cL_law 1454 = .ok (.iadd, 1) := by decide +kernel
theorem dL_law_1455 : decode cL_law 1455 = .ok (.iaload, 1) := by decide +kernel
theorem dL_law_1456 : decode cL_law 1456 = .ok (.aload_n 3, 1) := by decide +kernel
theorem dL_law_1457 : decode cL_law 1457 = .ok (.invokestatic 167, 3) := by decide +kernel
theorem dL_law_1460 : decode cL_law 1460 = .ok (.istore 5, 2) := by decide +kernel
theorem dL_law_1462 : decode cL_law 1462 = .ok (.aload_n 2, 1) := by decide +kernel
theorem dL_law_1463 : decode cL_law 1463 = .ok (.aload_n 0, 1) := by decide +kernel
theorem dL_law_1464 : decode cL_law 1464 = .ok (.iload 4, 2) := by decide +kernel
theorem dL_law_1466 : decode cL_law 1466 = .ok (.iconst 1, 1) := by decide +kernel
theorem dL_law_1467 : decode cL_law 1467 = .ok (.iadd, 1) := by decide +kernel
theorem dL_law_1468 : decode cL_law 1468 = .ok (.iaload, 1) := by decide +kernel
theorem dL_law_1469 : decode cL_law 1469 = .ok (.invokevirtual 169, 3) := by decide +kernel
theorem dL_law_1472 : decode cL_law 1472 = .ok (.istore 6, 2) := by decide +kernel
theorem dL_law_1474 : decode cL_law 1474 = .ok (.aload_n 2, 1) := by decide +kernel
theorem dL_law_1475 : decode cL_law 1475 = .ok (.invokevirtual 97, 3) := by decide +kernel
theorem dL_law_1478 : decode cL_law 1478 = .ok (.iload 5, 2) := by decide +kernel
theorem dL_law_1480 : decode cL_law 1480 = .ok (.if_icmp .eq 5, 3) := by decide +kernel
theorem dL_law_1483 : decode cL_law 1483 = .ok (.iconst 0, 1) := by decide +kernel
theorem dL_law_1484 : decode cL_law 1484 = .ok (.ireturn, 1) := by decide +kernel
theorem dL_law_1485 : decode cL_law 1485 = .ok (.iload 5, 2) := by decide +kernel
theorem dL_law_1487 : decode cL_law 1487 = .ok (.ifCond .ne 15, 3) := by decide +kernel
theorem dL_law_1490 : decode cL_law 1490 = .ok (.aload_n 3, 1) := by decide +kernel
theorem dL_law_1491 : decode cL_law 1491 = .ok (.iconst 0, 1) := by decide +kernel
theorem dL_law_1492 : decode cL_law 1492 = .ok (.laload, 1) := by decide +kernel
theorem dL_law_1493 : decode cL_law 1493 = .ok (.iload 6, 2) := by decide +kernel
theorem dL_law_1495 : decode cL_law 1495 = .ok (.i2l, 1) := by decide +kernel
theorem dL_law_1496 : decode cL_law 1496 = .ok (.lcmp, 1) := by decide +kernel
theorem dL_law_1497 : decode cL_law 1497 = .ok (.ifCond .eq 5, 3) := by decide +kernel
theorem dL_law_1500 : decode cL_law 1500 = .ok (.iconst 0, 1) := by decide +kernel
theorem dL_law_1501 : decode cL_law 1501 = .ok (.ireturn, 1) := by decide +kernel
theorem dL_law_1502 : decode cL_law 1502 = .ok (.goto 3, 3) := by decide +kernel
theorem dL_law_1505 : decode cL_law 1505 = .ok (.iinc 4 5, 3) := by decide +kernel
theorem dL_law_1508 : decode cL_law 1508 = .ok (.goto (-1485), 3) := by decide +kernel
theorem dL_law_1511 : decode cL_law 1511 = .ok (.iconst 1, 1) := by decide +kernel
theorem dL_law_1512 : decode cL_law 1512 = .ok (.ireturn, 1) := by decide +kernel
abbrev vwCl : List vw_C := [(RX0, TX0, 4), (RX1, TX1, 2), (RX2, TX2, 13), (RX3, TX3, 4), (RX4, TX4, 7), (RX5, TX5, 23)]
end
section
/-! MY BASE. An Int32 by its integer; words carried as facts of the state; one form of contract; rows over it. -/
def z2 (z : Int) : Int32 := Int32.ofInt z
def l2 (z : Int) : Int64 := Int64.ofInt z
abbrev B31 (z : Int) : Prop := -2147483648 ≤ z ∧ z < 2147483648
theorem z2_toInt {z : Int} (h : B31 z) : (z2 z).toInt = z := Int32.toInt_ofInt_of_le (by have := h.1; omega) (by have := h.2; omega)
theorem z2_of (x : Int32) : z2 x.toInt = x := Int32.ofInt_toInt x
theorem z2_rng (x : Int32) : B31 x.toInt := ⟨by have := Int32.le_toInt x; omega, by have := Int32.toInt_lt x; omega⟩
theorem z2_ex (x : Int32) : ∃ a : Int, B31 a ∧ x = z2 a := ⟨x.toInt, z2_rng x, (z2_of x).symm⟩
theorem z2_add (a b : Int) : z2 a + z2 b = z2 (a + b) := (Int32.ofInt_add a b).symm
theorem z2_sub (a b : Int) : z2 a - z2 b = z2 (a - b) := (Int32.ofInt_sub a b).symm
theorem z2_mul (a b : Int) : z2 a * z2 b = z2 (a * b) := (Int32.ofInt_mul a b).symm
theorem z2_le {a b : Int} (ha : B31 a) (hb : B31 b) : z2 a ≤ z2 b ↔ a ≤ b := by rw [Int32.le_iff_toInt_le, z2_toInt ha, z2_toInt hb]
theorem z2_lt {a b : Int} (ha : B31 a) (hb : B31 b) : z2 a < z2 b ↔ a < b := by rw [Int32.lt_iff_toInt_lt, z2_toInt ha, z2_toInt hb]
theorem z2_eq {a b : Int} (ha : B31 a) (hb : B31 b) : z2 a = z2 b ↔ a = b := by rw [← Int32.toInt_inj, z2_toInt ha, z2_toInt hb]
theorem z2_0 : (0 : Int32) = z2 0 := by decide +kernel
theorem B31_0 : B31 0 := ⟨by decide, by decide⟩
theorem z2_div {a b : Int} (ha : 0 ≤ a) (ha2 : a < 2147483648) (hb : 0 < b) (hb2 : b < 2147483648) : z2 a / z2 b = z2 (a / b) := by
  have h := Int32.ofInt_tdiv (a := a) (b := b) (by show (-2147483648 : Int) ≤ a; omega) (by show a ≤ (2147483647 : Int); omega) (by show (-2147483648 : Int) ≤ b; omega) (by show b ≤ (2147483647 : Int); omega)
  rw [Int.tdiv_eq_ediv_of_nonneg ha] at h
  exact h.symm
theorem z2_rem {a b : Int} (ha : 0 ≤ a) (ha2 : a < 2147483648) (hb : 0 < b) (hb2 : b < 2147483648) : z2 a - z2 a / z2 b * z2 b = z2 (a % b) := by
  rw [z2_div ha ha2 hb hb2, z2_mul, z2_sub, Int.emod_def, Int.mul_comm]
theorem z2_cl {a : Int} (h0 : 0 ≤ a) (h1 : a < 2147483648) : (z2 a).toNatClampNeg = a.toNat := Int32.toNatClampNeg_ofInt_of_le (by omega) (by omega)
theorem z2_in {a : Int} {n : Nat} (h0 : 0 ≤ a) (h1 : a < n) (h2 : a < 2147483648) : vp_in (z2 a) n := by
  intro h
  rw [z2_cl h0 h2, z2_0, z2_lt ⟨by omega, by omega⟩ B31_0] at h
  omega
theorem zj_in {i : Int} {j n : Nat} (h : i = (j : Int) ∧ j < n ∧ n < 2147483648) : vp_in (z2 i) n := z2_in (by omega) (by omega) (by omega)
theorem zj_cl {i : Int} {j n : Nat} (h : i = (j : Int) ∧ j < n ∧ n < 2147483648) : (z2 i).toNatClampNeg = j := by rw [z2_cl (by omega) (by omega)]; omega
theorem z2_len (n : Nat) : Int32.ofNat n = z2 n := Int32.ofInt_eq_ofNat.symm
def up (X : Nat → Nat → Int) (f i : Nat) (v : Int) : Nat → Nat → Int := fun g j => if g = f ∧ j = i then v else X g j
theorem up_s (X : Nat → Nat → Int) (f i : Nat) (v : Int) : up X f i v f i = v := if_pos ⟨rfl, rfl⟩
theorem up_f (X : Nat → Nat → Int) {f g : Nat} (i j : Nat) (v : Int) (h : g ≠ f) : up X f i v g j = X g j := if_neg (fun q => h q.1)
theorem up_i (X : Nat → Nat → Int) (f g : Nat) {i j : Nat} (v : Int) (h : j ≠ i) : up X f i v g j = X g j := if_neg (fun q => h q.2)
/-! ===== words carried as facts of the state ===== -/
def gwl : List Cond := [.fieldLinkNest RX4 101 RX3 "owner" "I" RX4, .fieldLinkNest RX4 106 RX2 "rights" "[I" RX4, .fieldLinkNest RX4 113 RX2 "quietFrom" "I" RX4, .fieldLinkNest RX4 116 RX2 "quietTo" "I" RX4, .fieldLinkNest RX4 129 RX0 "melody" "LBellStreet$Melody;" RX4, .fieldLinkNest RX4 135 RX0 "load" "I" RX4, .fieldLinkNest RX4 138 RX0 "isRinging" "Z" RX4, .fieldLinkNest RX4 142 RX3 "number" "I" RX4, .fieldLinkNest RX4 147 RX2 "sound" "Z" RX4, .fieldLinkNest RX4 150 RX2 "hushedPresses" "I" RX4, .fieldLinkNest RX4 177 RX2 "street" "I" RX4, .fieldLinkNest RX4 183 RX2 "faultsOfTheDay" "I" RX4, .fieldLinkNest RX4 188 RX1 "goal" "LBellStreet$House;" RX4, .fieldLinkNest RX4 194 RX1 "doneAt" "I" RX4, .fieldLinkNest RX4 211 RX2 "score" "I" RX4, .fieldLinkNest RX4 214 RX2 "rungSeconds" "I" RX4, .fieldLinkNest RX4 217 RX2 "rungQuietSeconds" "I" RX4, .fieldLinkNest RX4 226 RX2 "bells" "[LBellStreet$Bell;" RX4, .fieldLinkNest RX4 69 RX3 "count" "I" RX4, .fieldLinkNest RX1 17 RX2 "sound" "Z" RX4, .fieldLinkNest RX2 73 RX3 "owner" "I" RX4, .fieldLinkNest RX2 78 RX3 "number" "I" RX4, .fieldLinkNest RX2 79 RX0 "isRinging" "Z" RX4, .fieldLinkNest RX2 82 RX0 "load" "I" RX4, .fieldLinkNest RX2 85 RX0 "melody" "LBellStreet$Melody;" RX4, .fieldLinkNest RX2 97 RX0 "stopsAt" "I" RX4, .methodLinkNest RX2 56 yX0_init RX4, .methodLinkNest RX4 44 yX1_init RX4, .castable "java/lang/IndexOutOfBoundsException" "java/lang/IndexOutOfBoundsException", .castable "java/lang/IllegalArgumentException" "java/lang/IllegalArgumentException", .castable "java/lang/IllegalStateException" "java/lang/IllegalStateException", .declares ⟨"java/lang/RuntimeException", "<init>", "(Ljava/lang/String;)V"⟩, .declares ⟨"java/lang/Exception", "<init>", "(Ljava/lang/String;)V"⟩, .declares ⟨"java/lang/Throwable", "<init>", "(Ljava/lang/String;)V"⟩]
def gao : List String := [RX0, RX1, RX2, RX3]
def gnc : List (String × String) := [("java/lang/IllegalArgumentException", "java/lang/IndexOutOfBoundsException"), ("java/lang/IllegalStateException", "java/lang/IndexOutOfBoundsException"), ("java/lang/IllegalStateException", "java/lang/IllegalArgumentException")]
def gst : List (Nat × String) := [(222, "no such house"), (50, "a melody has 1 to 12 tones"), (55, "there are bits that are of no tone"), (59, "there are 12 melodies"), (230, "no such melody"), (74, "no such tone"), (81, "a shift is 0 to 15"), (99, "1 to 1000 rings are given"), (104, "the house is the owner"), (109, "a house has at most 1000 rings left"), (111, "a second of the day is 0 to 999"), (224, "no such bell"), (127, "a load is 1 to 9"), (145, "the bell has no melody"), (173, "the house is broken"), (175, "there were 100 faults"), (186, "the house is sound"), (192, "the crew is under way"), (197, "1 to 2000 seconds pass"), (200, "the time would be above 1000000"), (220, "no such fault")]
def gwk (w : Cond) : Prop := (∃ a i b n d h, w = .fieldLinkNest a i b n d h) ∨ (∃ a i x h, w = .methodLinkNest a i x h) ∨ (∃ a b, w = .castable a b) ∨ ∃ x, w = .declares x
theorem gwl_k : ∀ w ∈ gwl, gwk w := by
  intro w hw
  simp only [gwl, List.mem_cons, List.not_mem_nil, or_false] at hw
  rcases hw with rfl | rfl | rfl | rfl | rfl | rfl | rfl | rfl | rfl | rfl | rfl | rfl | rfl | rfl | rfl | rfl | rfl | rfl | rfl | rfl | rfl | rfl | rfl | rfl | rfl | rfl | rfl | rfl | rfl | rfl | rfl | rfl | rfl | rfl
  all_goals first | exact Or.inl ⟨_, _, _, _, _, _, rfl⟩ | exact Or.inr (Or.inl ⟨_, _, _, _, rfl⟩) | exact Or.inr (Or.inr (Or.inl ⟨_, _, rfl⟩)) | exact Or.inr (Or.inr (Or.inr ⟨_, rfl⟩))
theorem gwk.warm {w : Cond} (h : gwk w) {s U : State} (hW : s.WarmedH U.vm) (hz : va_Nw w s) : va_Nw w U := by
  rcases h with ⟨a, i, b, n, d, h, rfl⟩ | ⟨a, i, x, h, rfl⟩ | ⟨a, b, rfl⟩ | ⟨x, rfl⟩
  · exact va_Nw.warmF hW hz
  · exact va_Nw.warmM hW hz
  · exact va_Nw.warmC hW hz
  · exact va_Nw.warmD hW hz
theorem gwk.same {w : Cond} (h : gwk w) {s U : State} (hv : s.vm = U.vm) (hz : va_Nw w s) : va_Nw w U := by
  rcases h with ⟨a, i, b, n, d, h, rfl⟩ | ⟨a, i, x, h, rfl⟩ | ⟨a, b, rfl⟩ | ⟨x, rfl⟩ <;> exact va_Nw.same rfl hv hz
def tysG (ks : Nat → ClassId) : List (ClassId × FieldType) := [(ks 0, .int), (ks 1, .long), (ks 2, .object RX0), (ks 3, .object RX1), (ks 4, .object RX2), (ks 5, .object RX3)]
/-- what is known of the machine's tables and of the cells that nobody here writes -/
def GE (D : va_G) (ks : Nat → ClassId) (bx : Nat) (U : State) : Prop :=
  va_K D vwCl (tysG ks) U ∧ (∀ w ∈ gwl, va_Nw w U) ∧ (∀ C ∈ gao, va_AO C U) ∧ (∀ q ∈ gnc, va_Nc q.1 q.2 U) ∧ (∀ q ∈ gst, ∃ sa, vk_R RX4 q.1 q.2 sa U) ∧ vx_Zq Bundle.tN "UNASSIGNED_STACK" Bundle.steD (fun q => bx ≤ q) U U.heap ∧ vx_Zq Bundle.tN "SUPPRESSED_SENTINEL" Bundle.listD (fun q => bx ≤ q) U U.heap
theorem GE.calling {D : va_G} {ks : Nat → ClassId} {bx : Nat} {U : State} (h : GE D ks bx U) (g : JFrame) (mk : MethodId) (a : Array Value) : GE D ks bx (U.calling g mk a) := by
  obtain ⟨h1, h2, h3, h4, h5, h6, h7⟩ := h
  have e : U.vm = (U.calling g mk a).vm := rfl
  have hal : U.vm.Alike (U.calling g mk a).vm := Vm.Alike.refl U.vm
  exact ⟨va_K.moved (u := U) hal h1, fun w hw => (gwl_k w hw).same e (h2 w hw), fun C hC => va_AO.moved (u := U) hal (h3 C hC), fun q hq => va_Nc.moved (u := U) hal (h4 q hq), fun q hq => (h5 q hq).imp fun sa hs => vk_R.same (u := U) e.symm hs, vx_Zq.moved (u := U) hal h6, vx_Zq.moved (u := U) hal h7⟩
/-- a method may write: a region of its own, and what is new -/
def AR (Rg : Nat → Prop) (sz : Nat) : Nat → Prop := fun q => Rg q ∨ sz ≤ q
theorem GE.go {D : va_G} {ks : Nat → ClassId} {bx : Nat} {s U : State} {H : Heap} {locs : List Loc} {Rg : Nat → Prop} (h : GE D ks bx s) (hS : va_S (AR Rg s.heap.size) s.heap H locs) (hR : ∀ q, Rg q → bx ≤ q) (hU : U.heap = H) (hW : s.WarmedH U.vm) : GE D ks bx U := by
  obtain ⟨h1, h2, h3, h4, h5, h6, h7⟩ := h
  have hk : ∀ a : Nat, a < s.heap.size → ¬ bx ≤ a → U.heap[a]? = s.heap[a]? := fun a ha hn => by
    rw [hU]
    exact hS.2.1 a ha (fun q => q.elim (fun r => hn (hR a r)) (fun r => by omega))
  exact ⟨va_K.moved hW.alike h1, fun w hw => (gwl_k w hw).warm hW (h2 w hw), fun C hC => va_AO.moved hW.alike (h3 C hC), fun q hq => va_Nc.moved hW.alike (h4 q hq), fun q hq => (h5 q hq).imp fun sa hs => vk_R.warm hW hs, vx_Zq.moved hW.alike (h6.kept hk), vx_Zq.moved hW.alike (h7.kept hk)⟩
/-! ===== one form of contract ===== -/
def Pre (D : va_G) (ks : Nat → ClassId) (bx : Nat) (H0 : Heap) (U : State) : Prop := U.heap = H0 ∧ GE D ks bx U
theorem Pre.blind {D : va_G} {ks : Nat → ClassId} {bx : Nat} {H0 : Heap} {as : List Value} : FrameBlind (va_Pc as (Pre D ks bx H0)) := fun a _ g mk h => ⟨h.1, h.2.1, h.2.2.calling g mk a⟩
def gQ (post : Option Value → Heap → Prop) (A : Nat → Prop) : Array Value → State → Outcome → State → Prop := fun _ st oc t => (∃ v, oc = .returned v ∧ post v t.heap) ∧ va_F A st t
def gX (xp : String → Heap → Prop) (A : Nat → Prop) : String → State → State → Prop := fun E st t => xp E t.heap ∧ va_F A st t
/-- from the heap H0, with the arguments as: it returns v with 'post v H1', or throws an E with 'xp E H1'; only Rg and new cells are written -/
def KM (l : Launch) (y : MethodName) (ws : List Cond) (rm : Room) (D : va_G) (ks : Nat → ClassId) (bx : Nat) (as : List Value) (H0 : Heap) (Rg : Nat → Prop) (post : Option Value → Heap → Prop) (xp : String → Heap → Prop) : Prop :=
  vx_Met l y ws rm (va_Pc as (Pre D ks bx H0)) (gQ post (AR Rg H0.size)) (gX xp (AR Rg H0.size)) rm.cells rm.slots (AR Rg H0.size)
theorem KM.of {l : Launch} {y : MethodName} {ws ws' : List Cond} {rm : Room} {D : va_G} {ks : Nat → ClassId} {bx : Nat} {as : List Value} {H0 : Heap} {Rg : Nat → Prop} {post : Option Value → Heap → Prop} {xp : String → Heap → Prop} {cc : ByteArray} {maxL : Nat} {ret : Option FieldType}
    (hy : plainName y.cls = true) (hw : ws = Cond.code y cc maxL ret :: ws') (hal : (lg_sl as).length ≤ maxL)
    (body : ∀ (p : Program) (e : Env) (s : State) (m : MethodId) (below : List Frame) (meth : Method) (c : Code), p.tables.exec = Jvm.exec → c.code = cc → c.maxLocals = maxL → meth.sig.returnType = ret → meth.locks = false → s.vm.findClass y.cls = some m.cls → meth.name = y.name → (∀ w ∈ ws, w.before as.toArray s = true) → (∀ x ∈ c.exceptionTable.toList, False) → s.heap = H0 → GE D ks bx s → ∀ ls : Array Slot, lv_has ls maxL (lv_args 0 as) →
      W p l e rm s m as.toArray below meth c H0 [] 0 0 (vx_MQ below (gQ post (AR Rg H0.size)) (gX xp (AR Rg H0.size)) as.toArray s rm.cells rm.slots (AR Rg H0.size)) (F0 m 0 ls [])) :
    KM l y ws rm D ks bx as H0 Rg post xp := by
  refine vx_ofW (cc := cc) (maxL := maxL) (ret := ret) hy hw ?_
  intro p e s m args below meth c s₁ B hml ht hP
  obtain ⟨rfl, hH, hG⟩ := hP
  have hl := lv_entry as (n := maxL) hal
  rw [lg_entry_eq, hH]
  exact body p e s m below meth c B.exec B.bytes hml B.returns B.notSynchronized (findClass_of_methodNamed B.named) (name_of_methodNamed B.named B.method).1 (atoms_spec (ws := ws) B.pre) ht hH hG _ hl
/-- .. of a method with an exception table -/
theorem KM.ofH {l : Launch} {y : MethodName} {ws ws' : List Cond} {rm : Room} {D : va_G} {ks : Nat → ClassId} {bx : Nat} {as : List Value} {H0 : Heap} {Rg : Nat → Prop} {post : Option Value → Heap → Prop} {xp : String → Heap → Prop} {cc : ByteArray} {maxL : Nat} {ret : Option FieldType} {hh : List (Nat × Nat × Nat × Nat)}
    (hy : plainName y.cls = true) (hw : ws = Cond.codeWith y cc maxL ret hh :: ws') (hal : (lg_sl as).length ≤ maxL)
    (body : ∀ (p : Program) (e : Env) (s : State) (m : MethodId) (below : List Frame) (meth : Method) (c : Code), p.tables.exec = Jvm.exec → c.code = cc → c.maxLocals = maxL → meth.sig.returnType = ret → meth.locks = false → s.vm.findClass y.cls = some m.cls → (∀ w ∈ ws, w.before as.toArray s = true) → c.exceptionTable.toList = tableOf hh → s.heap = H0 → GE D ks bx s → ∀ ls : Array Slot, lv_has ls maxL (lv_args 0 as) →
      W p l e rm s m as.toArray below meth c H0 [] 0 0 (vx_MQ below (gQ post (AR Rg H0.size)) (gX xp (AR Rg H0.size)) as.toArray s rm.cells rm.slots (AR Rg H0.size)) (F0 m 0 ls [])) :
    KM l y ws rm D ks bx as H0 Rg post xp := by
  refine vx_ofWH (cc := cc) (maxL := maxL) (ret := ret) (hh := hh) hy hw ?_
  intro p e s m args below meth c s₁ B hml hP
  obtain ⟨rfl, hH, hG⟩ := hP
  have hl := lv_entry as (n := maxL) hal
  rw [lg_entry_eq, hH]
  have hpre := atoms_spec (ws := ws) B.pre
  exact body p e s m below meth c B.exec B.bytes hml B.returns B.notSynchronized (findClass_of_methodNamed B.named) hpre (vx_table (x := y) B (hpre _ (by rw [hw]; exact List.mem_cons_self))) hH hG _ hl
section GR
variable {p : Program} {l : Launch} {e : Env} {R : Room} {s : State} {m : MethodId} {args : Array Value} {below : List Frame} {meth : Method} {c : Code} {H : Heap} {locs : List Loc} {cells slots : Nat} {Q : State → Prop}
variable {cc : ByteArray} {pc : Nat} {ls : Array Slot} {rest : List Value} {D : va_G} {ks : Nat → ClassId} {bx : Nat} {Rg : Nat → Prop}
/-! ===== branches, over integers ===== -/
theorem b_icmp_eq (hx : p.tables.exec = Jvm.exec) (hb : c.code = cc) {a b : Int} {off : Int} {tgt : Nat} (hdg : decode cc pc = .ok (.if_icmp .eq off, 3)) (ht : (pc : Int) + off = (tgt : Int)) (hr : B31 a ∧ B31 b)
    (kt : a = b → W p l e R s m args below meth c H locs cells slots Q (F0 m tgt ls rest)) (kf : a ≠ b → W p l e R s m args below meth c H locs cells slots Q (F0 m (pc + 3) ls rest)) : W p l e R s m args below meth c H locs cells slots Q (F0 m pc ls (.int (z2 b) :: .int (z2 a) :: rest)) :=
  lv_icmp_eq hx hb hdg ht (fun h => kt ((z2_eq hr.1 hr.2).mp h)) (fun h => kf (fun q => h ((z2_eq hr.1 hr.2).mpr q)))
theorem b_icmp_ne (hx : p.tables.exec = Jvm.exec) (hb : c.code = cc) {a b : Int} {off : Int} {tgt : Nat} (hdg : decode cc pc = .ok (.if_icmp .ne off, 3)) (ht : (pc : Int) + off = (tgt : Int)) (hr : B31 a ∧ B31 b)
    (kt : a ≠ b → W p l e R s m args below meth c H locs cells slots Q (F0 m tgt ls rest)) (kf : a = b → W p l e R s m args below meth c H locs cells slots Q (F0 m (pc + 3) ls rest)) : W p l e R s m args below meth c H locs cells slots Q (F0 m pc ls (.int (z2 b) :: .int (z2 a) :: rest)) :=
  lv_icmp_ne hx hb hdg ht (fun h => kt (fun q => h ((z2_eq hr.1 hr.2).mpr q))) (fun h => kf ((z2_eq hr.1 hr.2).mp h))
theorem b_icmp_lt (hx : p.tables.exec = Jvm.exec) (hb : c.code = cc) {a b : Int} {off : Int} {tgt : Nat} (hdg : decode cc pc = .ok (.if_icmp .lt off, 3)) (ht : (pc : Int) + off = (tgt : Int)) (hr : B31 a ∧ B31 b)
    (kt : a < b → W p l e R s m args below meth c H locs cells slots Q (F0 m tgt ls rest)) (kf : b ≤ a → W p l e R s m args below meth c H locs cells slots Q (F0 m (pc + 3) ls rest)) : W p l e R s m args below meth c H locs cells slots Q (F0 m pc ls (.int (z2 b) :: .int (z2 a) :: rest)) :=
  lv_icmp_lt hx hb hdg ht (fun h => kt ((z2_lt hr.1 hr.2).mp h)) (fun h => kf (Int.not_lt.mp (fun q => h ((z2_lt hr.1 hr.2).mpr q))))
theorem b_icmp_ge (hx : p.tables.exec = Jvm.exec) (hb : c.code = cc) {a b : Int} {off : Int} {tgt : Nat} (hdg : decode cc pc = .ok (.if_icmp .ge off, 3)) (ht : (pc : Int) + off = (tgt : Int)) (hr : B31 a ∧ B31 b)
    (kt : b ≤ a → W p l e R s m args below meth c H locs cells slots Q (F0 m tgt ls rest)) (kf : a < b → W p l e R s m args below meth c H locs cells slots Q (F0 m (pc + 3) ls rest)) : W p l e R s m args below meth c H locs cells slots Q (F0 m pc ls (.int (z2 b) :: .int (z2 a) :: rest)) :=
  lv_icmp_ge hx hb hdg ht (fun h => kt ((z2_le hr.2 hr.1).mp h)) (fun h => kf (Int.not_le.mp (fun q => h ((z2_le hr.2 hr.1).mpr q))))
theorem b_icmp_gt (hx : p.tables.exec = Jvm.exec) (hb : c.code = cc) {a b : Int} {off : Int} {tgt : Nat} (hdg : decode cc pc = .ok (.if_icmp .gt off, 3)) (ht : (pc : Int) + off = (tgt : Int)) (hr : B31 a ∧ B31 b)
    (kt : b < a → W p l e R s m args below meth c H locs cells slots Q (F0 m tgt ls rest)) (kf : a ≤ b → W p l e R s m args below meth c H locs cells slots Q (F0 m (pc + 3) ls rest)) : W p l e R s m args below meth c H locs cells slots Q (F0 m pc ls (.int (z2 b) :: .int (z2 a) :: rest)) :=
  lv_icmp_gt hx hb hdg ht (fun h => kt ((z2_lt hr.2 hr.1).mp h)) (fun h => kf (Int.not_lt.mp (fun q => h ((z2_lt hr.2 hr.1).mpr q))))
theorem b_icmp_le (hx : p.tables.exec = Jvm.exec) (hb : c.code = cc) {a b : Int} {off : Int} {tgt : Nat} (hdg : decode cc pc = .ok (.if_icmp .le off, 3)) (ht : (pc : Int) + off = (tgt : Int)) (hr : B31 a ∧ B31 b)
    (kt : a ≤ b → W p l e R s m args below meth c H locs cells slots Q (F0 m tgt ls rest)) (kf : b < a → W p l e R s m args below meth c H locs cells slots Q (F0 m (pc + 3) ls rest)) : W p l e R s m args below meth c H locs cells slots Q (F0 m pc ls (.int (z2 b) :: .int (z2 a) :: rest)) :=
  lv_icmp_le hx hb hdg ht (fun h => kt ((z2_le hr.1 hr.2).mp h)) (fun h => kf (Int.not_le.mp (fun q => h ((z2_le hr.1 hr.2).mpr q))))
theorem b_if_eq (hx : p.tables.exec = Jvm.exec) (hb : c.code = cc) {a : Int} {off : Int} {tgt : Nat} (hdg : decode cc pc = .ok (.ifCond .eq off, 3)) (ht : (pc : Int) + off = (tgt : Int)) (hr : B31 a)
    (kt : a = 0 → W p l e R s m args below meth c H locs cells slots Q (F0 m tgt ls rest)) (kf : a ≠ 0 → W p l e R s m args below meth c H locs cells slots Q (F0 m (pc + 3) ls rest)) : W p l e R s m args below meth c H locs cells slots Q (F0 m pc ls (.int (z2 a) :: rest)) :=
  lv_if_eq hx hb hdg ht (fun h => kt ((z2_eq hr B31_0).mp (h.trans z2_0))) (fun h => kf (fun q => h (((z2_eq hr B31_0).mpr q).trans z2_0.symm)))
theorem b_if_ne (hx : p.tables.exec = Jvm.exec) (hb : c.code = cc) {a : Int} {off : Int} {tgt : Nat} (hdg : decode cc pc = .ok (.ifCond .ne off, 3)) (ht : (pc : Int) + off = (tgt : Int)) (hr : B31 a)
    (kt : a ≠ 0 → W p l e R s m args below meth c H locs cells slots Q (F0 m tgt ls rest)) (kf : a = 0 → W p l e R s m args below meth c H locs cells slots Q (F0 m (pc + 3) ls rest)) : W p l e R s m args below meth c H locs cells slots Q (F0 m pc ls (.int (z2 a) :: rest)) :=
  lv_if_ne hx hb hdg ht (fun h => kt (fun q => h (((z2_eq hr B31_0).mpr q).trans z2_0.symm))) (fun h => kf ((z2_eq hr B31_0).mp (h.trans z2_0)))
theorem b_if_lt (hx : p.tables.exec = Jvm.exec) (hb : c.code = cc) {a : Int} {off : Int} {tgt : Nat} (hdg : decode cc pc = .ok (.ifCond .lt off, 3)) (ht : (pc : Int) + off = (tgt : Int)) (hr : B31 a)
    (kt : a < 0 → W p l e R s m args below meth c H locs cells slots Q (F0 m tgt ls rest)) (kf : 0 ≤ a → W p l e R s m args below meth c H locs cells slots Q (F0 m (pc + 3) ls rest)) : W p l e R s m args below meth c H locs cells slots Q (F0 m pc ls (.int (z2 a) :: rest)) :=
  lv_if_lt hx hb hdg ht (fun h => kt ((z2_lt hr B31_0).mp (by rw [← z2_0]; exact h))) (fun h => kf (Int.not_lt.mp (fun q => h (by rw [z2_0]; exact (z2_lt hr B31_0).mpr q))))
theorem b_if_ge (hx : p.tables.exec = Jvm.exec) (hb : c.code = cc) {a : Int} {off : Int} {tgt : Nat} (hdg : decode cc pc = .ok (.ifCond .ge off, 3)) (ht : (pc : Int) + off = (tgt : Int)) (hr : B31 a)
    (kt : 0 ≤ a → W p l e R s m args below meth c H locs cells slots Q (F0 m tgt ls rest)) (kf : a < 0 → W p l e R s m args below meth c H locs cells slots Q (F0 m (pc + 3) ls rest)) : W p l e R s m args below meth c H locs cells slots Q (F0 m pc ls (.int (z2 a) :: rest)) :=
  lv_if_ge hx hb hdg ht (fun h => kt ((z2_le B31_0 hr).mp (by rw [← z2_0]; exact h))) (fun h => kf (Int.not_le.mp (fun q => h (by rw [z2_0]; exact (z2_le B31_0 hr).mpr q))))
theorem b_if_gt (hx : p.tables.exec = Jvm.exec) (hb : c.code = cc) {a : Int} {off : Int} {tgt : Nat} (hdg : decode cc pc = .ok (.ifCond .gt off, 3)) (ht : (pc : Int) + off = (tgt : Int)) (hr : B31 a)
    (kt : 0 < a → W p l e R s m args below meth c H locs cells slots Q (F0 m tgt ls rest)) (kf : a ≤ 0 → W p l e R s m args below meth c H locs cells slots Q (F0 m (pc + 3) ls rest)) : W p l e R s m args below meth c H locs cells slots Q (F0 m pc ls (.int (z2 a) :: rest)) :=
  lv_if_gt hx hb hdg ht (fun h => kt ((z2_lt B31_0 hr).mp (by rw [← z2_0]; exact h))) (fun h => kf (Int.not_lt.mp (fun q => h (by rw [z2_0]; exact (z2_lt B31_0 hr).mpr q))))
theorem b_if_le (hx : p.tables.exec = Jvm.exec) (hb : c.code = cc) {a : Int} {off : Int} {tgt : Nat} (hdg : decode cc pc = .ok (.ifCond .le off, 3)) (ht : (pc : Int) + off = (tgt : Int)) (hr : B31 a)
    (kt : a ≤ 0 → W p l e R s m args below meth c H locs cells slots Q (F0 m tgt ls rest)) (kf : 0 < a → W p l e R s m args below meth c H locs cells slots Q (F0 m (pc + 3) ls rest)) : W p l e R s m args below meth c H locs cells slots Q (F0 m pc ls (.int (z2 a) :: rest)) :=
  lv_if_le hx hb hdg ht (fun h => kt ((z2_le hr B31_0).mp (by rw [← z2_0]; exact h))) (fun h => kf (Int.not_le.mp (fun q => h (by rw [z2_0]; exact (z2_le hr B31_0).mpr q))))
/-! ===== arithmetic ===== -/
theorem b_iconst (hx : p.tables.exec = Jvm.exec) (hb : c.code = cc) {n : Int} (hdg : decode cc pc = .ok (.iconst n, 1)) (k : W p l e R s m args below meth c H locs cells slots Q (F0 m (pc + 1) ls (.int (z2 n) :: rest))) : W p l e R s m args below meth c H locs cells slots Q (F0 m pc ls rest) := lv_iconst (v := z2 n) hx hb hdg rfl k
theorem b_bipush (hx : p.tables.exec = Jvm.exec) (hb : c.code = cc) {n : Int} (hdg : decode cc pc = .ok (.bipush n, 2)) (hv : (Int8.ofInt n).toInt32 = z2 n) (k : W p l e R s m args below meth c H locs cells slots Q (F0 m (pc + 2) ls (.int (z2 n) :: rest))) : W p l e R s m args below meth c H locs cells slots Q (F0 m pc ls rest) := lv_bipush (v := z2 n) hx hb hdg hv k
theorem b_sipush (hx : p.tables.exec = Jvm.exec) (hb : c.code = cc) {n : Int} (hdg : decode cc pc = .ok (.sipush n, 3)) (hv : (Int16.ofInt n).toInt32 = z2 n) (k : W p l e R s m args below meth c H locs cells slots Q (F0 m (pc + 3) ls (.int (z2 n) :: rest))) : W p l e R s m args below meth c H locs cells slots Q (F0 m pc ls rest) := lv_sipush (v := z2 n) hx hb hdg hv k
theorem b_iadd (hx : p.tables.exec = Jvm.exec) (hb : c.code = cc) {a b : Int} (hdg : decode cc pc = .ok (.iadd, 1)) (k : W p l e R s m args below meth c H locs cells slots Q (F0 m (pc + 1) ls (.int (z2 (a + b)) :: rest))) : W p l e R s m args below meth c H locs cells slots Q (F0 m pc ls (.int (z2 b) :: .int (z2 a) :: rest)) := lv_iadd hx hb hdg (by rw [z2_add]; exact k)
theorem b_isub (hx : p.tables.exec = Jvm.exec) (hb : c.code = cc) {a b : Int} (hdg : decode cc pc = .ok (.isub, 1)) (k : W p l e R s m args below meth c H locs cells slots Q (F0 m (pc + 1) ls (.int (z2 (a - b)) :: rest))) : W p l e R s m args below meth c H locs cells slots Q (F0 m pc ls (.int (z2 b) :: .int (z2 a) :: rest)) := lv_isub hx hb hdg (by rw [z2_sub]; exact k)
theorem b_imul (hx : p.tables.exec = Jvm.exec) (hb : c.code = cc) {a b : Int} (hdg : decode cc pc = .ok (.imul, 1)) (k : W p l e R s m args below meth c H locs cells slots Q (F0 m (pc + 1) ls (.int (z2 (a * b)) :: rest))) : W p l e R s m args below meth c H locs cells slots Q (F0 m pc ls (.int (z2 b) :: .int (z2 a) :: rest)) := lv_imul hx hb hdg (by rw [z2_mul]; exact k)
theorem b_idiv (hx : p.tables.exec = Jvm.exec) (hb : c.code = cc) {a b : Int} (hr : (0 ≤ a ∧ a < 2147483648) ∧ 0 < b ∧ b < 2147483648) (hdg : decode cc pc = .ok (.idiv, 1)) (k : W p l e R s m args below meth c H locs cells slots Q (F0 m (pc + 1) ls (.int (z2 (a / b)) :: rest))) : W p l e R s m args below meth c H locs cells slots Q (F0 m pc ls (.int (z2 b) :: .int (z2 a) :: rest)) := lv_idiv hx hb hdg (by rw [z2_0, z2_eq ⟨by omega, by omega⟩ B31_0]; omega) (by rw [z2_div hr.1.1 hr.1.2 hr.2.1 hr.2.2]; exact k)
theorem b_irem (hx : p.tables.exec = Jvm.exec) (hb : c.code = cc) {a b : Int} (hr : (0 ≤ a ∧ a < 2147483648) ∧ 0 < b ∧ b < 2147483648) (hdg : decode cc pc = .ok (.irem, 1)) (k : W p l e R s m args below meth c H locs cells slots Q (F0 m (pc + 1) ls (.int (z2 (a % b)) :: rest))) : W p l e R s m args below meth c H locs cells slots Q (F0 m pc ls (.int (z2 b) :: .int (z2 a) :: rest)) := lv_irem hx hb hdg (by rw [z2_0, z2_eq ⟨by omega, by omega⟩ B31_0]; omega) (by rw [z2_rem hr.1.1 hr.1.2 hr.2.1 hr.2.2]; exact k)
theorem b_iinc (hx : p.tables.exec = Jvm.exec) (hb : c.code = cc) {i nL k : Nat} {n a : Int} {lv lv' : List (Nat × Value)} (hdg : decode cc pc = .ok (.iinc i n, 3)) (h : lv_has ls nL lv) (hk : lv[k]? = some (i, .int (z2 a))) (hn : i < nL) (hl : (i, Value.int (z2 (a + n))) :: lv.filter (fun q => !(q.1 == i) && !(q.1 + 1 == i && q.2.category == 2)) = lv')
    (kk : ∀ ls' : Array Slot, lv_has ls' nL lv' → W p l e R s m args below meth c H locs cells slots Q (F0 m (pc + 3) ls' rest)) : W p l e R s m args below meth c H locs cells slots Q (F0 m pc ls rest) := lv_iinc hx hb hdg h hk (z2_add a n) hn hl kk
theorem b_min (hx : p.tables.exec = Jvm.exec) (hb : c.code = cc) (hml : c.maxLocals = ls.size) {own : String} {index : Nat} (hown : s.vm.findClass own = some m.cls) (hlink : (Cond.methodLink own index Lib.Math.min.name).before args s = true) (hstat : (Cond.static Lib.Math.min.name).before args s = true) (hini : (Cond.initialized "java/lang/Math").before args s = true) (hcode : (Cond.code Lib.Math.min.name Lib.Math.min.code 2 (some .int)).before args s = true)
    (hfr : 1 ≤ R.frames ∧ (rest.map fun v => v.category).sum + 13 ≤ R.locals ∧ cells ≤ R.cells ∧ slots ≤ R.slots) {a b : Int} (hr : B31 a ∧ B31 b) (hdg : decode cc pc = .ok (.invokestatic index, 3))
    (kk : W p l e R s m args below meth c H locs cells slots Q (F0 m (pc + 3) ls (.int (z2 (min a b)) :: rest))) : W p l e R s m args below meth c H locs cells slots Q (F0 m pc ls (.int (z2 b) :: .int (z2 a) :: rest)) := by
  refine va_mmin hx hb hml hown hlink hstat hini hcode hfr.1 hfr.2.1 hfr.2.2.1 hfr.2.2.2 hdg ?_
  have e : (if z2 b < z2 a then z2 b else z2 a) = z2 (min a b) := by
    by_cases h : b < a
    · rw [if_pos ((z2_lt hr.2 hr.1).mpr h), Int.min_eq_right (by omega)]
    · rw [if_neg (fun q => h ((z2_lt hr.2 hr.1).mp q)), Int.min_eq_left (by omega)]
  rw [e]
  exact kk
theorem b_max (hx : p.tables.exec = Jvm.exec) (hb : c.code = cc) (hml : c.maxLocals = ls.size) {own : String} {index : Nat} (hown : s.vm.findClass own = some m.cls) (hlink : (Cond.methodLink own index Lib.Math.max.name).before args s = true) (hstat : (Cond.static Lib.Math.max.name).before args s = true) (hini : (Cond.initialized "java/lang/Math").before args s = true) (hcode : (Cond.code Lib.Math.max.name Lib.Math.max.code 2 (some .int)).before args s = true)
    (hfr : 1 ≤ R.frames ∧ (rest.map fun v => v.category).sum + 13 ≤ R.locals ∧ cells ≤ R.cells ∧ slots ≤ R.slots) {a b : Int} (hr : B31 a ∧ B31 b) (hdg : decode cc pc = .ok (.invokestatic index, 3))
    (kk : W p l e R s m args below meth c H locs cells slots Q (F0 m (pc + 3) ls (.int (z2 (max a b)) :: rest))) : W p l e R s m args below meth c H locs cells slots Q (F0 m pc ls (.int (z2 b) :: .int (z2 a) :: rest)) := by
  refine va_mmax hx hb hml hown hlink hstat hini hcode hfr.1 hfr.2.1 hfr.2.2.1 hfr.2.2.2 hdg ?_
  have e : (if z2 a < z2 b then z2 b else z2 a) = z2 (max a b) := by
    by_cases h : a < b
    · rw [if_pos ((z2_lt hr.1 hr.2).mpr h), Int.max_eq_right (by omega)]
    · rw [if_neg (fun q => h ((z2_lt hr.1 hr.2).mp q)), Int.max_eq_left (by omega)]
  rw [e]
  exact kk
theorem b_top {x : Int32} {v : Int} (h : x = z2 v) (k : W p l e R s m args below meth c H locs cells slots Q (F0 m pc ls (.int (z2 v) :: rest))) : W p l e R s m args below meth c H locs cells slots Q (F0 m pc ls (.int x :: rest)) := by
  rw [h]
  exact k
/-! ===== the heap: one cell at a time ===== -/
abbrev ca (D : va_G) (a : Nat) (x : va_E) (H : Heap) : Prop := va_at D vwCl (a, x) H
theorem ca.P {a : Nat} {x : va_E} (h : ca D a x H) : va_P D vwCl [(a, x)] H := fun k q hk => by
  cases k with
  | zero => cases hk; exact h
  | succ k => cases hk
theorem ca.lt {a : Nat} {x : va_E} (h : ca D a x H) : a < H.size := va_at.lt h
theorem ca.kept {a : Nat} {x : va_E} {H1 : Heap} (h : ca D a x H) (hq : H1[a]? = H[a]?) : ca D a x H1 := va_at.kept h hq
/-- getfield -/
theorem g_get (hx : p.tables.exec = Jvm.exec) (hb : c.code = cc) {own C : String} {T : u_T} {N ci index : Nat} {Ts : List Cond} (hts : ∀ w ∈ Ts, w.before args s = true) (hin : ∀ w ∈ u_ws C T N, w ∈ Ts) (hown : s.vm.findClass own = some m.cls) (hG : GE D ks bx s) {a : Nat} {fs : List Value} (he : ca D a (.inr (ci, fs)) H) (hc : vwCl[ci]? = some (C, T, N)) (k : Nat) (hk : k < N) (hlink : Cond.fieldLink own index C (T k).2.1 (T k).2.2.1 ∈ Ts) (h1 : (T k).1 = C) {v : Value} (hv : fs[k]? = some v) (hdg : decode cc pc = .ok (.getfield index, 3))
    (kk : W p l e R s m args below meth c H locs cells slots Q (F0 m (pc + 3) ls (v :: rest))) : W p l e R s m args below meth c H locs cells slots Q (F0 m pc ls (.ref a :: rest)) :=
  va_get hx hb hts hin hown hG.1 (ca.P he) 0 rfl hc k hk (hts _ hlink) (fun _ h => by rw [h1] at h; exact h) hv hdg kk
theorem g_getN (hx : p.tables.exec = Jvm.exec) (hb : c.code = cc) {own C : String} {T : u_T} {N ci index : Nat} {Ts : List Cond} (hts : ∀ w ∈ Ts, w.before args s = true) (hin : ∀ w ∈ u_ws C T N, w ∈ Ts) (hown : s.vm.findClass own = some m.cls) (hG : GE D ks bx s) {a : Nat} {fs : List Value} (he : ca D a (.inr (ci, fs)) H) (hc : vwCl[ci]? = some (C, T, N)) (k : Nat) (hk : k < N) (hlink : Cond.fieldLinkNest own index C (T k).2.1 (T k).2.2.1 RX4 ∈ gwl) (h1 : (T k).1 = C) {v : Value} (hv : fs[k]? = some v) (hdg : decode cc pc = .ok (.getfield index, 3))
    (kk : W p l e R s m args below meth c H locs cells slots Q (F0 m (pc + 3) ls (v :: rest))) : W p l e R s m args below meth c H locs cells slots Q (F0 m pc ls (.ref a :: rest)) :=
  va_getN hx hb hts hin hown hG.1 (ca.P he) 0 rfl hc k hk (va_Nw.use rfl (hG.2.1 _ hlink)) (fun _ h => by rw [h1] at h; exact h) hv hdg kk
theorem va_S.ar {A : Nat → Prop} {H0 H1 : Heap} {a k : Nat} (h : va_S A H0 H locs) (z : H1.size = H.size) (oq : ∀ q : Nat, q ≠ a → H1[q]? = H[q]?) (ha : A a) : va_S A H0 H1 (locs ++ [⟨a, k⟩]) := h.put z oq ha
/-- putfield, a field that isn't final -/
theorem g_put (hx : p.tables.exec = Jvm.exec) (hb : c.code = cc) {own C : String} {T : u_T} {N ci index : Nat} {Ts : List Cond} (hts : ∀ w ∈ Ts, w.before args s = true) (hin : ∀ w ∈ u_ws C T N, w ∈ Ts) (ty0 : Nat → FieldType) (hty : ∀ k, k < N → parseFieldDescriptor (T k).2.2.1 = some (ty0 k)) (hnm : ∀ a, a < N → ∀ b, b < N → a ≠ b → (T a).2.1 ≠ (T b).2.1) (hown : s.vm.findClass own = some m.cls) (hG : GE D ks bx s) {A : Nat → Prop} (hS : va_S A s.heap H locs) {a : Nat} {fs : List Value} (he : ca D a (.inr (ci, fs)) H) (ha : A a) (hc : vwCl[ci]? = some (C, T, N)) (k : Nat) (hk : k < N) (hlink : Cond.fieldLink own index C (T k).2.1 (T k).2.2.1 ∈ Ts) (h1 : (T k).1 = C) (hfin : (T k).2.2.2 = false) {v : Value} (hn : narrow (ty0 k) v = v) (hfit : fits (ty0 k) v = true) (hl : k < fs.length) (hdg : decode cc pc = .ok (.putfield index, 3))
    (kk : ∀ (H1 : Heap) (locs1 : List Loc), ca D a (.inr (ci, fs.set k v)) H1 → H1.size = H.size → (∀ q : Nat, q ≠ a → H1[q]? = H[q]?) → va_S A s.heap H1 locs1 → W p l e R s m args below meth c H1 locs1 cells slots Q (F0 m (pc + 3) ls rest)) : W p l e R s m args below meth c H locs cells slots Q (F0 m pc ls (v :: .ref a :: rest)) := by
  have hK := hG.1
  have hap := va_apart (own := own) hts hin ty0 hty hnm hK hc
  obtain ⟨r, h1', cell, q1, q2, q3, q4⟩ := he
  have hr : r = (C, T, N) := Option.some.inj (h1'.symm.trans hc)
  subst hr
  obtain ⟨hSl, hfc, kC, hkC, hkind⟩ := hK.1 ci _ hc
  obtain ⟨cf, kf, fi, f, hi, hsl⟩ := hSl k hk
  have hlay := hts _ (hin _ (u_in_lay hk))
  unfold u_lay at hlay
  rw [if_neg (by rw [hfin]; decide)] at hlay
  have hst := (u_facts hfc hkC (u_lays hts hin hk) hi).1
  have h6 := u_store hfc hkC hkind hlay hi (hty k hk) hn hfit
  have hi' : s.fieldFound? C (T k).2.1 (T k).2.2.1 = some (cf, kf, fi, f) := by rw [h1] at hi; exact hi
  refine W.putK hx hb (f := f) ⟨hown, hts _ hlink, ⟨_, _, _, hi'⟩, hst⟩ (by rw [q2]; exact h6) q1 q3 (by rw [hsl]; exact k2_hasslot (q4 k hk)) rfl rfl hdg fun H' e1 e2 e3 => ?_
  rw [hsl] at e1 ⊢
  exact kk H' _ ⟨_, hc, t_OB.to (V := updV (vp_V fs) k v) ⟨_, e1, q2, q3, t_set q4 hap hk v⟩ (fun j _ => vp_updV_set hl v j)⟩ e2 e3 (hS.put e2 e3 ha)
theorem g_putN (hx : p.tables.exec = Jvm.exec) (hb : c.code = cc) {own C : String} {T : u_T} {N ci index : Nat} {Ts : List Cond} (hts : ∀ w ∈ Ts, w.before args s = true) (hin : ∀ w ∈ u_ws C T N, w ∈ Ts) (ty0 : Nat → FieldType) (hty : ∀ k, k < N → parseFieldDescriptor (T k).2.2.1 = some (ty0 k)) (hnm : ∀ a, a < N → ∀ b, b < N → a ≠ b → (T a).2.1 ≠ (T b).2.1) (hown : s.vm.findClass own = some m.cls) (hG : GE D ks bx s) {A : Nat → Prop} (hS : va_S A s.heap H locs) {a : Nat} {fs : List Value} (he : ca D a (.inr (ci, fs)) H) (ha : A a) (hc : vwCl[ci]? = some (C, T, N)) (k : Nat) (hk : k < N) (hlink : Cond.fieldLinkNest own index C (T k).2.1 (T k).2.2.1 RX4 ∈ gwl) (h1 : (T k).1 = C) (hfin : (T k).2.2.2 = false) {v : Value} (hn : narrow (ty0 k) v = v) (hfit : fits (ty0 k) v = true) (hl : k < fs.length) (hdg : decode cc pc = .ok (.putfield index, 3))
    (kk : ∀ (H1 : Heap) (locs1 : List Loc), ca D a (.inr (ci, fs.set k v)) H1 → H1.size = H.size → (∀ q : Nat, q ≠ a → H1[q]? = H[q]?) → va_S A s.heap H1 locs1 → W p l e R s m args below meth c H1 locs1 cells slots Q (F0 m (pc + 3) ls rest)) : W p l e R s m args below meth c H locs cells slots Q (F0 m pc ls (v :: .ref a :: rest)) := by
  have hK := hG.1
  have hap := va_apart (own := own) hts hin ty0 hty hnm hK hc
  obtain ⟨r, h1', cell, q1, q2, q3, q4⟩ := he
  have hr : r = (C, T, N) := Option.some.inj (h1'.symm.trans hc)
  subst hr
  obtain ⟨hSl, hfc, kC, hkC, hkind⟩ := hK.1 ci _ hc
  obtain ⟨cf, kf, fi, f, hi, hsl⟩ := hSl k hk
  have hlay := hts _ (hin _ (u_in_lay hk))
  unfold u_lay at hlay
  rw [if_neg (by rw [hfin]; decide)] at hlay
  have hst := (u_facts hfc hkC (u_lays hts hin hk) hi).1
  have h6 := u_store hfc hkC hkind hlay hi (hty k hk) hn hfit
  have hi' : s.fieldFound? C (T k).2.1 (T k).2.2.1 = some (cf, kf, fi, f) := by rw [h1] at hi; exact hi
  refine va_WputK hx hb (f := f) hown (va_Nw.use rfl (hG.2.1 _ hlink)) hi' hst (by rw [q2]; exact h6) q1 q3 (by rw [hsl]; exact k2_hasslot (q4 k hk)) rfl rfl hdg fun H' e1 e2 e3 => ?_
  rw [hsl] at e1 ⊢
  exact kk H' _ ⟨_, hc, t_OB.to (V := updV (vp_V fs) k v) ⟨_, e1, q2, q3, t_set q4 hap hk v⟩ (fun j _ => vp_updV_set hl v j)⟩ e2 e3 (hS.put e2 e3 ha)
/-- .. a final field in its constructor -/
theorem g_putF (hx : p.tables.exec = Jvm.exec) (hb : c.code = cc) {C : String} {T : u_T} {N ci index : Nat} {Ts : List Cond} (hts : ∀ w ∈ Ts, w.before args s = true) (hin : ∀ w ∈ u_ws C T N, w ∈ Ts) (ty0 : Nat → FieldType) (hty : ∀ k, k < N → parseFieldDescriptor (T k).2.2.1 = some (ty0 k)) (hnm : ∀ a, a < N → ∀ b, b < N → a ≠ b → (T a).2.1 ≠ (T b).2.1) (hown : s.vm.findClass C = some m.cls) (hinit : meth.name = "<init>") (hG : GE D ks bx s) {A : Nat → Prop} (hS : va_S A s.heap H locs) {a : Nat} {fs : List Value} (he : ca D a (.inr (ci, fs)) H) (ha : A a) (hc : vwCl[ci]? = some (C, T, N)) (k : Nat) (hk : k < N) (hlink : Cond.fieldLink C index C (T k).2.1 (T k).2.2.1 ∈ Ts) (h1 : (T k).1 = C) (hfin : (T k).2.2.2 = true) {v : Value} (hn : narrow (ty0 k) v = v) (hfit : fits (ty0 k) v = true) (hl : k < fs.length) (hdg : decode cc pc = .ok (.putfield index, 3))
    (kk : ∀ (H1 : Heap) (locs1 : List Loc), ca D a (.inr (ci, fs.set k v)) H1 → H1.size = H.size → (∀ q : Nat, q ≠ a → H1[q]? = H[q]?) → va_S A s.heap H1 locs1 → W p l e R s m args below meth c H1 locs1 cells slots Q (F0 m (pc + 3) ls rest)) : W p l e R s m args below meth c H locs cells slots Q (F0 m pc ls (v :: .ref a :: rest)) := by
  have hK := hG.1
  have hap := va_apart (own := C) hts hin ty0 hty hnm hK hc
  obtain ⟨r, h1', cell, q1, q2, q3, q4⟩ := he
  have hr : r = (C, T, N) := Option.some.inj (h1'.symm.trans hc)
  subst hr
  obtain ⟨hSl, hfc, kC, hkC, hkind⟩ := hK.1 ci _ hc
  obtain ⟨cf, kf, fi, f, hi, hsl⟩ := hSl k hk
  have hlay := hts _ (hin _ (u_in_lay hk))
  unfold u_lay at hlay
  rw [if_pos hfin] at hlay
  have hst := (u_facts hfc hkC (u_lays hts hin hk) hi).1
  have hcf : m.cls = cf := by
    obtain ⟨_, _, c', _, _, _, -, -, hf', -, -, -, hown2, -⟩ := Cond.laysFinal_spec hlay
    have e1 : c' = cf := by have := hi.symm.trans hf'; simp at this; exact this.1.symm
    rw [h1] at hown2
    rw [← e1]; exact Option.some.inj (hown.symm.trans hown2)
  have h6 := u_fits hfc hkC hkind (Or.inr hlay) hi (hty k hk) hn hfit
  have hi' : s.fieldFound? C (T k).2.1 (T k).2.2.1 = some (cf, kf, fi, f) := by rw [h1] at hi; exact hi
  refine W.putFinK hx hb hown (hts _ hlink) hi' hst hcf hinit (by rw [q2]; exact h6) q1 q3 (by rw [hsl]; exact k2_hasslot (q4 k hk)) rfl rfl hdg fun H' e1 e2 e3 => ?_
  rw [hsl] at e1 ⊢
  exact kk H' _ ⟨_, hc, t_OB.to (V := updV (vp_V fs) k v) ⟨_, e1, q2, q3, t_set q4 hap hk v⟩ (fun j _ => vp_updV_set hl v j)⟩ e2 e3 (hS.put e2 e3 ha)
/-! arrays: their classes are ks 0 (int), 1 (long), 2 .. 5 (Bell, Crew, House, Melody) -/
theorem g_iald (hx : p.tables.exec = Jvm.exec) (hb : c.code = cc) (hG : GE D ks bx s) {a n : Nat} {f : Nat → Int32} (he : ca D a (.inl (ks 0, n, .inl f)) H) {i : Int} (j : Nat) (hi : i = (j : Int) ∧ j < n ∧ n < 2147483648) (hdg : decode cc pc = .ok (.iaload, 1))
    (kk : W p l e R s m args below meth c H locs cells slots Q (F0 m (pc + 1) ls (.int (f j) :: rest))) : W p l e R s m args below meth c H locs cells slots Q (F0 m pc ls (.int (z2 i) :: .ref a :: rest)) :=
  va_iald hx hb hG.1 (ca.P he) 0 0 rfl rfl (zj_in hi) hdg (by rw [zj_cl hi]; exact kk)
theorem g_lald (hx : p.tables.exec = Jvm.exec) (hb : c.code = cc) (hG : GE D ks bx s) {a n : Nat} {f : Nat → Int64} (he : ca D a (.inl (ks 1, n, .inr (.inl f))) H) {i : Int} (j : Nat) (hi : i = (j : Int) ∧ j < n ∧ n < 2147483648) (hdg : decode cc pc = .ok (.laload, 1))
    (kk : W p l e R s m args below meth c H locs cells slots Q (F0 m (pc + 1) ls (.long (f j) :: rest))) : W p l e R s m args below meth c H locs cells slots Q (F0 m pc ls (.int (z2 i) :: .ref a :: rest)) :=
  va_lald hx hb hG.1 (ca.P he) 0 1 rfl rfl (zj_in hi) hdg (by rw [zj_cl hi]; exact kk)
theorem g_aald (hx : p.tables.exec = Jvm.exec) (hb : c.code = cc) (hG : GE D ks bx s) {a n : Nat} {f : Nat → Option Nat} (t0 : Nat) {kA : ClassId} {C : String} (ht : (tysG ks)[t0]? = some (kA, .object C)) (he : ca D a (.inl (kA, n, .inr (.inr (.inr (.inr f))))) H) {i : Int} (j : Nat) (hi : i = (j : Int) ∧ j < n ∧ n < 2147483648) (hdg : decode cc pc = .ok (.aaload, 1)) {v : Value} (hv : va_rf (f j) = v)
    (kk : W p l e R s m args below meth c H locs cells slots Q (F0 m (pc + 1) ls (v :: rest))) : W p l e R s m args below meth c H locs cells slots Q (F0 m pc ls (.int (z2 i) :: .ref a :: rest)) :=
  va_aldq hx hb hG.1 (ca.P he) 0 t0 rfl ht (zj_in hi) hdg (by rw [zj_cl hi, hv]; exact kk)
theorem g_alen (hx : p.tables.exec = Jvm.exec) (hb : c.code = cc) (hG : GE D ks bx s) {a : Nat} {x : vp_A} {kA : ClassId} {ty : FieldType} (t0 : Nat) (ht : (tysG ks)[t0]? = some (kA, ty)) (he : ca D a (.inl (kA, x)) H) {n : Int} (hn : z2 (x.1 : Nat) = z2 n) (hdg : decode cc pc = .ok (.arraylength, 1))
    (kk : W p l e R s m args below meth c H locs cells slots Q (F0 m (pc + 1) ls (.int (z2 n) :: rest))) : W p l e R s m args below meth c H locs cells slots Q (F0 m pc ls (.ref a :: rest)) :=
  va_alen hx hb hG.1 (ca.P he) 0 t0 rfl ht ((z2_len x.1).trans hn) hdg kk
theorem g_iast (hx : p.tables.exec = Jvm.exec) (hb : c.code = cc) (hG : GE D ks bx s) {A : Nat → Prop} (hS : va_S A s.heap H locs) {a n : Nat} {f : Nat → Int32} (he : ca D a (.inl (ks 0, n, .inl f)) H) (ha : A a) {i : Int} {v : Int32} (j : Nat) (hi : i = (j : Int) ∧ j < n ∧ n < 2147483648) (hdg : decode cc pc = .ok (.iastore, 1))
    (kk : ∀ (H1 : Heap) (locs1 : List Loc), ca D a (.inl (ks 0, n, .inl (upd f j v))) H1 → H1.size = H.size → (∀ q : Nat, q ≠ a → H1[q]? = H[q]?) → va_S A s.heap H1 locs1 → W p l e R s m args below meth c H1 locs1 cells slots Q (F0 m (pc + 1) ls rest)) : W p l e R s m args below meth c H locs cells slots Q (F0 m pc ls (.int v :: .int (z2 i) :: .ref a :: rest)) := by
  refine W.iast hx hb he ((hG.1.2 0 _ rfl).1 n (fun j => .int (f j))) (fun q => by cases q) (by show ¬ (z2 i < 0 ∨ (arrV _ _ _).slots.size ≤ _); rw [arrV_size]; exact zj_in hi) rfl rfl hdg fun H1 e z oq => ?_
  refine kk H1 _ ?_ z oq (hS.put z oq ha)
  show H1[a]? = some (vp_cell _ _)
  rw [e, vp_cell_i, vp_cell_i, arrV_store, zj_cl hi]
  congr 2
  funext q
  by_cases hq : q = j
  · subst hq
    simp [updV, upd]
  · simp [updV, upd, hq]
theorem g_last (hx : p.tables.exec = Jvm.exec) (hb : c.code = cc) (hG : GE D ks bx s) {A : Nat → Prop} (hS : va_S A s.heap H locs) {a n : Nat} {f : Nat → Int64} (he : ca D a (.inl (ks 1, n, .inr (.inl f))) H) (ha : A a) {i : Int} {v : Int64} (j : Nat) (hi : i = (j : Int) ∧ j < n ∧ n < 2147483648) (hdg : decode cc pc = .ok (.lastore, 1))
    (kk : ∀ (H1 : Heap) (locs1 : List Loc), ca D a (.inl (ks 1, n, .inr (.inl (vp_updL f j v)))) H1 → H1.size = H.size → (∀ q : Nat, q ≠ a → H1[q]? = H[q]?) → va_S A s.heap H1 locs1 → W p l e R s m args below meth c H1 locs1 cells slots Q (F0 m (pc + 1) ls rest)) : W p l e R s m args below meth c H locs cells slots Q (F0 m pc ls (.long v :: .int (z2 i) :: .ref a :: rest)) := by
  refine W.last hx hb he ((hG.1.2 1 _ rfl).1 n (fun j => .long (f j))) (fun q => by cases q) (by show ¬ (z2 i < 0 ∨ (arrV _ _ _).slots.size ≤ _); rw [arrV_size]; exact zj_in hi) rfl rfl hdg fun H1 e z oq => ?_
  refine kk H1 _ ?_ z oq (hS.put z oq ha)
  show H1[a]? = some (vp_cell _ _)
  rw [e, vp_cell_l, vp_cell_l, arrV_store, zj_cl hi]
  congr 2
  funext q
  by_cases hq : q = j
  · subst hq
    simp [updV, vp_updL]
  · simp [updV, vp_updL, hq]
theorem g_aast (hx : p.tables.exec = Jvm.exec) (hb : c.code = cc) (hG : GE D ks bx s) {A : Nat → Prop} (hS : va_S A s.heap H locs) {a n v ci : Nat} {f : Nat → Option Nat} {vs : List Value} {r : vw_C} (t0 : Nat) {kA : ClassId} (ht : (tysG ks)[t0]? = some (kA, .object r.1)) (he : ca D a (.inl (kA, n, .inr (.inr (.inr (.inr f))))) H) (ha : A a) (hv : ca D v (.inr (ci, vs)) H) (hc : vwCl[ci]? = some r) {i : Int} (j : Nat) (hi : i = (j : Int) ∧ j < n ∧ n < 2147483648) (hdg : decode cc pc = .ok (.aastore, 1))
    (kk : ∀ (H1 : Heap) (locs1 : List Loc), ca D a (.inl (kA, n, .inr (.inr (.inr (.inr (va_up f j (some v))))))) H1 → H1.size = H.size → (∀ q : Nat, q ≠ a → H1[q]? = H[q]?) → va_S A s.heap H1 locs1 → W p l e R s m args below meth c H1 locs1 cells slots Q (F0 m (pc + 1) ls rest)) : W p l e R s m args below meth c H locs cells slots Q (F0 m pc ls (.ref v :: .int (z2 i) :: .ref a :: rest)) := by
  obtain ⟨r', hr', cellV, g1, g2, g3, -⟩ := hv
  have hcls := (hG.1.1 ci r hc).2
  obtain ⟨kA', comp, k1, k2, k3, -⟩ := (hG.1.2 t0 _ ht).2
  have hcomp : comp = D.1 ci := Option.some.inj (k3.symm.trans hcls.1)
  subst hcomp
  obtain ⟨kC, hkC, -⟩ := hcls.2
  have hin := zj_in hi
  refine W.aast hx hb he (fun q h => by cases h) (fun h => by cases h) k1 k2 rfl hkC ⟨fun q => hin (Or.inl q), by show _ < (arrV _ _ _).slots.size; rw [arrV_size]; exact Nat.not_le.mp fun q => hin (Or.inr q)⟩ g1 (fun q h => by rw [g3] at h; cases h) (by rw [g2]; exact hkC) (by rw [g2]; exact va_assign hcls) rfl rfl hdg fun H1 e z oq => ?_
  refine kk H1 _ ?_ z oq (hS.put z oq ha)
  show H1[a]? = some (vp_cell _ _)
  rw [e, vp_cell_q, vp_cell_q, arrV_store, zj_cl hi]
  congr 2
  funext q
  by_cases hq : q = j
  · subst hq
    simp [updV, va_up, va_rf]
  · simp [updV, va_up, hq]
/-! new cells: the next address -/
theorem g_new (hx : p.tables.exec = Jvm.exec) (hb : c.code = cc) {own C : String} {T : u_T} {N ci index : Nat} {Ts : List Cond} (hts : ∀ w ∈ Ts, w.before args s = true) (hin : ∀ w ∈ u_ws C T N, w ∈ Ts) (ty : Nat → FieldType) (hty : ∀ k, k < N → parseFieldDescriptor (T k).2.2.1 = some (ty k)) (hown : s.vm.findClass own = some m.cls) (hcl : Cond.classLink own index C ∈ Ts) (hinst : Cond.instantiable C N ∈ Ts) (hini : Cond.initialized C ∈ Ts)
    (hG : GE D ks bx s) {A : Nat → Prop} (hS : va_S A s.heap H locs) (hc : vwCl[ci]? = some (C, T, N)) {fs : List Value} (hfs : ∀ j, j < N → defaultValue (ty j) = vp_V fs j) (hcells : cells + 1 ≤ R.cells ∧ slots + N ≤ R.slots) (hdg : decode cc pc = .ok (.new index, 3))
    (kk : ∀ H1 : Heap, ca D H.size (.inr (ci, fs)) H1 → H1.size = H.size + 1 → (∀ q : Nat, q < H.size → H1[q]? = H[q]?) → va_S A s.heap H1 locs →
      W p l e R s m args below meth c H1 locs (cells + 1) (slots + N) Q (F0 m (pc + 3) ls (.ref H.size :: rest))) : W p l e R s m args below meth c H locs cells slots Q (F0 m pc ls rest) := by
  have hKn := hG.1.1 ci _ hc
  refine W.newcK hx hb hown (hts _ hcl) (hts _ hinst) (hts _ hini) rfl hdg hcells.1 hcells.2 hKn.2.1 rfl fun H1 kC hkC e1 z1 o1 => ?_
  exact kk H1 ⟨_, hc, (u_born ty hts hin hKn hkC e1 hty).to hfs⟩ z1 o1 ⟨Nat.le_trans hS.1 (by omega), fun x h1 h2 => (o1 x (Nat.lt_of_lt_of_le h1 hS.1)).trans (hS.2.1 x h1 h2), hS.2.2⟩
theorem g_newa (hx : p.tables.exec = Jvm.exec) (hb : c.code = cc) {atype : ArrayType} {Ts : List Cond} (hts : ∀ w ∈ Ts, w.before args s = true) (harr : Cond.arrayClass (newarray.typeOf atype) ∈ Ts) (hG : GE D ks bx s) {A : Nat → Prop} (hS : va_S A s.heap H locs)
    (t0 : Nat) {kA : ClassId} {ty : FieldType} (hty : newarray.typeOf atype = ty) (ht : (tysG ks)[t0]? = some (kA, ty)) (hnm : va_RA s kA ty → s.vm.findClass ("[" ++ ty.toString) = some kA) {n : Int} {N : Nat} (a0 : vp_A) (ha : ∀ cA : ClassId, vp_cell cA a0 = arrV cA N (fun _ => defaultValue ty)) (hn : n = (N : Int)) (hN : n < 2147483648) (hbytes : N * componentBytes ty ≤ 536870912) (hcells : cells + 1 ≤ R.cells ∧ slots + N ≤ R.slots) (hdg : decode cc pc = .ok (.newarray atype, 2))
    (kk : ∀ H1 : Heap, ca D H.size (.inl (kA, a0)) H1 → H1.size = H.size + 1 → (∀ q : Nat, q < H.size → H1[q]? = H[q]?) → va_S A s.heap H1 locs →
      W p l e R s m args below meth c H1 locs (cells + 1) (slots + N) Q (F0 m (pc + 2) ls (.ref H.size :: rest))) : W p l e R s m args below meth c H locs cells slots Q (F0 m pc ls (.int (z2 n) :: rest)) := by
  subst hty
  have hcl : (z2 n).toNatClampNeg = N := by rw [z2_cl (by omega) hN]; omega
  refine va_newaK hx hb (hts _ harr) rfl hdg rfl (by rw [z2_0, z2_lt ⟨by omega, by omega⟩ B31_0]; omega) hcl hbytes hcells.1 hcells.2 rfl fun H1 cA e1 z1 o1 hAr hNm => ?_
  have hk := hnm (hG.1.2 t0 _ ht).2
  have hcA : cA = kA := Option.some.inj (hNm.symm.trans hk)
  subst hcA
  refine kk H1 ?_ z1 o1 ⟨Nat.le_trans hS.1 (by omega), fun x h1 h2 => (o1 x (Nat.lt_of_lt_of_le h1 hS.1)).trans (hS.2.1 x h1 h2), hS.2.2⟩
  show H1[H.size]? = some (vp_cell _ _)
  rw [ha]
  exact e1
theorem g_anew (hx : p.tables.exec = Jvm.exec) (hb : c.code = cc) {own C : String} {index : Nat} {Ts : List Cond} (hts : ∀ w ∈ Ts, w.before args s = true) (hown : s.vm.findClass own = some m.cls) (hcl : Cond.classLink own index C ∈ Ts) (hao : C ∈ gao) (hG : GE D ks bx s) {A : Nat → Prop} (hS : va_S A s.heap H locs)
    (t0 : Nat) {kA : ClassId} (ht : (tysG ks)[t0]? = some (kA, .object C)) {n : Int} {N : Nat} (hn : n = (N : Int)) (hN : N * 4 ≤ 536870912) (hcells : cells + 1 ≤ R.cells ∧ slots + N ≤ R.slots) (hdg : decode cc pc = .ok (.anewarray index, 3))
    (kk : ∀ H1 : Heap, ca D H.size (.inl (kA, N, .inr (.inr (.inr (.inr (fun _ => none)))))) H1 → H1.size = H.size + 1 → (∀ q : Nat, q < H.size → H1[q]? = H[q]?) → va_S A s.heap H1 locs →
      W p l e R s m args below meth c H1 locs (cells + 1) (slots + N) Q (F0 m (pc + 3) ls (.ref H.size :: rest))) : W p l e R s m args below meth c H locs cells slots Q (F0 m pc ls (.int (z2 n) :: rest)) := by
  have hcl' : (z2 n).toNatClampNeg = N := by rw [z2_cl (by omega) (by omega)]; omega
  have hb4 : (z2 n).toNatClampNeg * 4 ≤ 536870912 := by rw [hcl']; exact hN
  refine W.anew hx hb hown (hts _ hcl) (va_AO.use (hG.2.2.1 _ hao)) rfl hdg rfl (by rw [z2_0, z2_lt ⟨by omega, by omega⟩ B31_0]; omega) hb4 hcells.1 (by rw [hcl']; exact hcells.2) fun cA kA' comp f1 f2 f3 f4 => ?_
  rw [hcl']
  obtain ⟨kA2, comp2, k1, k2, k3, k4⟩ := (hG.1.2 t0 _ ht).2
  have hcA : cA = kA := Option.some.inj (f1.symm.trans k4)
  subst hcA
  generalize hH1 : H.push ({ cls := cA, slots := Array.replicate N .null, vm := .none } : Cell) = H1
  have z1 : H1.size = H.size + 1 := by rw [← hH1, Array.size_push]
  have e1 : H1[H.size]? = some (arrV cA N (fun _ => .null)) := by rw [← hH1, Array.getElem?_push_size, ← arrV_new]
  have o1 : ∀ q : Nat, q < H.size → H1[q]? = H[q]? := fun q hq => by rw [← hH1, Array.getElem?_push, if_neg (Nat.ne_of_lt hq)]
  refine kk H1 ?_ z1 o1 ⟨Nat.le_trans hS.1 (by omega), fun x h1 h2 => (o1 x (Nat.lt_of_lt_of_le h1 hS.1)).trans (hS.2.1 x h1 h2), hS.2.2⟩
  show H1[H.size]? = some (vp_cell _ _)
  rw [vp_cell_q]
  exact e1
/-- any loop: what holds at its head, and a measure -/
theorem lp_ms {σ : Type} {pc : Nat} (I : σ → Heap → List Loc → Array Slot → Prop) (μ : σ → Nat) (step : ∀ (x : σ) (H : Heap) (locs : List Loc) (ls : Array Slot), I x H locs ls → (∀ (x' : σ) (H' : Heap) (locs' : List Loc) (ls' : Array Slot), μ x' < μ x → I x' H' locs' ls' → W p l e R s m args below meth c H' locs' cells slots Q (F0 m pc ls' [])) → W p l e R s m args below meth c H locs cells slots Q (F0 m pc ls [])) (x : σ) (h : I x H locs ls) :
    W p l e R s m args below meth c H locs cells slots Q (F0 m pc ls []) := by
  have key : ∀ (n : Nat) (x : σ) (H : Heap) (locs : List Loc) (ls : Array Slot), μ x < n → I x H locs ls → W p l e R s m args below meth c H locs cells slots Q (F0 m pc ls []) := by
    intro n
    induction n with
    | zero => intro x H locs ls h; omega
    | succ n ih => intro x H locs ls hn hI; exact step x H locs ls hI (fun x' H' locs' ls' hm h' => ih x' H' locs' ls' (by omega) h')
  exact key (μ x + 1) x H locs ls (Nat.lt_succ_self _) h
/-! ===== calls ===== -/
theorem g_preS {Hs : Heap} {as : List Value} (hG : GE D ks bx s) (hS : va_S (AR Rg s.heap.size) s.heap Hs locs) (hR : ∀ q, Rg q → bx ≤ q) : PreS s Hs (va_Pc as (Pre D ks bx Hs)) as := ⟨Pre.blind, fun _ hU hW => ⟨rfl, hU, hG.go hS hR hU hW⟩⟩
theorem g_preV {Hs : Heap} {b ci : Nat} {As fs : List Value} {r : vw_C} (hG : GE D ks bx s) (hS : va_S (AR Rg s.heap.size) s.heap Hs locs) (hR : ∀ q, Rg q → bx ≤ q) (he : ca D b (.inr (ci, fs)) Hs) (hc : vwCl[ci]? = some r) : PreV s Hs r.1 b (va_Pc (.ref b :: As) (Pre D ks bx Hs)) As :=
  ⟨Pre.blind, va_recv hG.1 (ca.P he) (q0 := 0) hc rfl, fun _ hU hW => ⟨rfl, hU, hG.go hS hR hU hW⟩⟩
theorem g_run {st0 : List Value} {Rg1 : Nat → Prop} {mc ms : Nat} {a : Array Value} {post : Option Value → Heap → Prop} {xp : String → Heap → Prop} (hr : vx_Run p l e R s m args below meth c H locs cells slots mc ms (F0 m pc ls st0) rest (gQ post (AR Rg1 H.size) a) (gX xp (AR Rg1 H.size)) (AR Rg1 H.size)) (hS : va_S (AR Rg s.heap.size) s.heap H locs) (hR1 : ∀ q, Rg1 q → Rg q)
    (kx : ∀ (E : String) (ce : Cell) (q9 : Addr) (H1 : Heap) (locs1 : List Loc), xp E H1 → H.size ≤ H1.size → (∀ q : Nat, q < H.size → ¬ Rg1 q → H1[q]? = H[q]?) → va_S (AR Rg s.heap.size) s.heap H1 locs1 → H1[q9]? = some ce → ce.vm = .none → s.vm.findClass E = some ce.cls → vx_W p l e R s m args below meth c H1 locs1 (cells + mc) (slots + ms) Q (F0 m pc ls rest) q9)
    (kk : ∀ (v : Option Value) (H1 : Heap) (locs1 : List Loc), post v H1 → H.size ≤ H1.size → (∀ q : Nat, q < H.size → ¬ Rg1 q → H1[q]? = H[q]?) → va_S (AR Rg s.heap.size) s.heap H1 locs1 → W p l e R s m args below meth c H1 locs1 (cells + mc) (slots + ms) Q (F0 m (pc + 3) ls (v.toList ++ rest))) :
    W p l e R s m args below meth c H locs cells slots Q (F0 m pc ls st0) := by
  have hA : ∀ q, q < H.size → AR Rg1 H.size q → AR Rg s.heap.size q := fun q h1 h2 => h2.elim (fun r => Or.inl (hR1 q r)) (fun r => by omega)
  have hf : ∀ q, AR Rg1 H.size q → AR Rg s.heap.size q := fun q h2 => h2.elim (fun r => Or.inl (hR1 q r)) (fun r => Or.inr (Nat.le_trans hS.1 r))
  have hn : ∀ {H1 : Heap}, (∀ q : Nat, q < H.size → ¬ AR Rg1 H.size q → H1[q]? = H[q]?) → ∀ q : Nat, q < H.size → ¬ Rg1 q → H1[q]? = H[q]? := fun h q h1 h2 => h q h1 (fun r => r.elim h2 (fun r => by omega))
  intro T hT X
  rcases hr T hT X with ⟨v, st₀, t, T', L, h0, X', hL, e1, e2, ⟨⟨v', hv, hp⟩, hF⟩, st⟩ | ⟨q, st₀, t, T', L, E, ce, h0, X', hL, e1, e2, ⟨hp, hF⟩, hce, hcv, hcl, st⟩
  · cases hv
    obtain ⟨k1, k2, k3⟩ := vx_keep h0 e1 hS hA hf hL hF
    obtain ⟨t2, a1, b1⟩ := kk v T'.heap (locs ++ L) (by rw [e1]; exact hp) k1 (hn k2) k3 T' rfl X'
    exact ⟨t2, st t2 a1, b1⟩
  · obtain ⟨k1, k2, k3⟩ := vx_keep h0 e1 hS hA hf hL hF
    obtain ⟨t2, a1, b1⟩ := kx E ce q T'.heap (locs ++ L) (by rw [e1]; exact hp) k1 (hn k2) k3 (by rw [e1]; exact hce) hcv hcl T' rfl X'
    exact ⟨t2, st.trans a1, b1⟩
/-! ===== ends ===== -/
variable {post : Option Value → Heap → Prop} {XC : String → State → State → Prop} {mc ms : Nat}
theorem g_iret (hx : p.tables.exec = Jvm.exec) (hb : c.code = cc) (hr : meth.sig.returnType = some .int) (hlocks : meth.locks = false) (hS : va_S (AR Rg s.heap.size) s.heap H locs) {v : Int32} (hm : cells ≤ mc ∧ slots ≤ ms) (hp : post (some (.int v)) H) (hdg : decode cc pc = .ok (.ireturn, 1)) :
    W p l e R s m args below meth c H locs cells slots (vx_MQ below (gQ post (AR Rg s.heap.size)) XC args s mc ms (AR Rg s.heap.size)) (F0 m pc ls [.int v]) :=
  W.widen hm.1 hm.2 (vx_ret (W.iret hx hb hr (fun t ht _ => ⟨⟨_, rfl, by rw [ht]; exact hp⟩, hS.F ht⟩) hS.2.2 hdg hlocks))
theorem g_zret (hx : p.tables.exec = Jvm.exec) (hb : c.code = cc) (hr : meth.sig.returnType = some .boolean) (hlocks : meth.locks = false) (hS : va_S (AR Rg s.heap.size) s.heap H locs) {v : Int32} (hv : narrow .boolean (.int v) = .int v) (hm : cells ≤ mc ∧ slots ≤ ms) (hp : post (some (.int v)) H) (hdg : decode cc pc = .ok (.ireturn, 1)) :
    W p l e R s m args below meth c H locs cells slots (vx_MQ below (gQ post (AR Rg s.heap.size)) XC args s mc ms (AR Rg s.heap.size)) (F0 m pc ls [.int v]) :=
  W.widen hm.1 hm.2 (vx_ret (W.zret hx hb hr hv (fun t ht _ => ⟨⟨_, rfl, by rw [ht]; exact hp⟩, hS.F ht⟩) hS.2.2 hdg hlocks))
theorem g_lret (hx : p.tables.exec = Jvm.exec) (hb : c.code = cc) (hr : meth.sig.returnType = some .long) (hlocks : meth.locks = false) (hS : va_S (AR Rg s.heap.size) s.heap H locs) {v : Int64} (hm : cells ≤ mc ∧ slots ≤ ms) (hp : post (some (.long v)) H) (hdg : decode cc pc = .ok (.lreturn, 1)) :
    W p l e R s m args below meth c H locs cells slots (vx_MQ below (gQ post (AR Rg s.heap.size)) XC args s mc ms (AR Rg s.heap.size)) (F0 m pc ls [.long v]) :=
  W.widen hm.1 hm.2 (vx_ret (W.lret hx hb hr (fun t ht _ => ⟨⟨_, rfl, by rw [ht]; exact hp⟩, hS.F ht⟩) hS.2.2 hdg hlocks))
theorem g_vret (hx : p.tables.exec = Jvm.exec) (hb : c.code = cc) (hr : meth.sig.returnType = none) (hlocks : meth.locks = false) (hS : va_S (AR Rg s.heap.size) s.heap H locs) (hm : cells ≤ mc ∧ slots ≤ ms) (hp : post none H) (hdg : decode cc pc = .ok (.return_, 1)) :
    W p l e R s m args below meth c H locs cells slots (vx_MQ below (gQ post (AR Rg s.heap.size)) XC args s mc ms (AR Rg s.heap.size)) (F0 m pc ls []) :=
  W.widen hm.1 hm.2 (vx_ret (W.vret hx hb hr (fun t ht _ => ⟨⟨_, rfl, by rw [ht]; exact hp⟩, hS.F ht⟩) hS.2.2 hdg hlocks))
theorem g_aret (hx : p.tables.exec = Jvm.exec) (hb : c.code = cc) {C : String} (hr : meth.sig.returnType = some (.object C)) (hlocks : meth.locks = false) (hS : va_S (AR Rg s.heap.size) s.heap H locs) {a : Nat} (hm : cells ≤ mc ∧ slots ≤ ms) (hp : post (some (.ref a)) H) (hdg : decode cc pc = .ok (.areturn, 1)) :
    W p l e R s m args below meth c H locs cells slots (vx_MQ below (gQ post (AR Rg s.heap.size)) XC args s mc ms (AR Rg s.heap.size)) (F0 m pc ls [.ref a]) :=
  W.widen hm.1 hm.2 (vx_ret (W.aret hx hb hr (Or.inl ⟨C, rfl⟩) (Or.inr ⟨a, rfl⟩) (fun t ht _ => ⟨⟨_, rfl, by rw [ht]; exact hp⟩, hS.F ht⟩) hS.2.2 hdg hlocks))
/-- an exception of a callee's goes on to the caller -/
theorem g_out {Qc : Array Value → State → Outcome → State → Prop} {xp : String → Heap → Prop} {E : String} {ce : Cell} {q9 : Addr} (ht : ∀ x ∈ c.exceptionTable.toList, False) (hlocks : meth.locks = false) (hS : va_S (AR Rg s.heap.size) s.heap H locs) (hce : H[q9]? = some ce) (hv : ce.vm = .none) (hcl : s.vm.findClass E = some ce.cls) (hm : cells ≤ mc ∧ slots ≤ ms) (hp : xp E H) :
    vx_W p l e R s m args below meth c H locs cells slots (vx_MQ below Qc (gX xp (AR Rg s.heap.size)) args s mc ms (AR Rg s.heap.size)) (F0 m pc ls rest) q9 :=
  vx_out (fun x hx => (ht x hx).elim) hlocks hce hv hcl (fun t ht' _ => ⟨by rw [ht']; exact hp, hS.F ht'⟩) hS.2.2 hm.1 hm.2
def gnl (cls : String) : List Cond := [.castable cls cls, .declares ⟨"java/lang/RuntimeException", "<init>", "(Ljava/lang/String;)V"⟩, .declares ⟨"java/lang/Exception", "<init>", "(Ljava/lang/String;)V"⟩, .declares ⟨"java/lang/Throwable", "<init>", "(Ljava/lang/String;)V"⟩]
def nm2 : List String := ["java/lang/RuntimeException", "java/lang/Exception"]
/-- 'throw new E("text")' in BellStreet -/
theorem g_throw {Qc : Array Value → State → Outcome → State → Prop} {xp : String → Heap → Prop} (hx : p.tables.exec = Jvm.exec) (hb : c.code = cc) (hl : l.stackTraces = false) {cls text : String} {ik is ic : Nat} {Ts : List Cond} (hts : ∀ w ∈ Ts, w.before args s = true) (hown : s.vm.findClass RX4 = some m.cls) (hG : GE D ks bx s) (hcls : Bundle.fit cls = true) (hst : (is, text) ∈ gst) (hk : Cond.classLink RX4 ik cls ∈ Ts) (hini : Cond.initialized cls ∈ Ts)
    (hgw : ∀ w ∈ (vx_atS RX4 ic cls nm2).filter goodWord, w ∈ Ts) (hng : ∀ w ∈ (vx_atS RX4 ic cls nm2).filter (fun w => !goodWord w), w ∈ gnl cls) (hca : Cond.castable cls cls ∈ gwl) (hgood : ∀ w ∈ Cond.classLink RX4 ik cls :: Cond.initialized cls :: vx_atS RX4 ic cls nm2, vx_ot w = true)
    (hS : va_S (AR Rg s.heap.size) s.heap H locs) (hRb : ∀ q, Rg q → bx ≤ q) (hbx : bx ≤ s.heap.size) (hsize : ls.size = c.maxLocals)
    (d0 : decode cc pc = .ok (.new ik, 3)) (d3 : decode cc (pc + 3) = .ok (.dup, 1)) (d4 : decode cc (pc + 4) = .ok (.ldc is, 2)) (d6 : decode cc (pc + 6) = .ok (.invokespecial ic, 3)) (d9 : decode cc (pc + 9) = .ok (.athrow, 1)) (ht : ∀ x ∈ c.exceptionTable.toList, False)
    (hR : 5 < R.frames ∧ (rest.map fun v => v.category).sum + 82 ≤ R.locals ∧ cells + 1 ≤ R.cells ∧ slots + 6 ≤ R.slots) (hlocks : meth.locks = false) (hm : cells + 1 ≤ mc ∧ slots + 6 ≤ ms)
    (hxp : ∀ H1 : Heap, H.size ≤ H1.size → (∀ q : Nat, q < H.size → H1[q]? = H[q]?) → xp cls H1) :
    W p l e R s m args below meth c H locs cells slots (vx_MQ below Qc (gX xp (AR Rg s.heap.size)) args s mc ms (AR Rg s.heap.size)) (F0 m pc ls rest) := by
  obtain ⟨g1, g2, g3, g4, g5, g6, g7⟩ := hG
  obtain ⟨sa, hsa⟩ := g5 _ hst
  have hAb : ∀ q, AR Rg s.heap.size q → bx ≤ q := fun q h => h.elim (hRb q) (fun r => Nat.le_trans hbx r)
  refine vx_throwS (A := AR Rg s.heap.size) (names := nm2) (sa := sa) (text := text) hx hb hl hown hcls (by decide +kernel) (hts _ hk) (hts _ hini) hsa (vx_hat (B := gnl cls) (fun w hw => hts w (hgw w hw)) hng (vx_c (va_Nw.use rfl (g2 _ hca)) (vx_c (va_Nw.use rfl (g2 _ (List.mem_of_getElem? (i := 31) rfl))) (vx_c (va_Nw.use rfl (g2 _ (List.mem_of_getElem? (i := 32) rfl))) (vx_c (va_Nw.use rfl (g2 _ (List.mem_of_getElem? (i := 33) rfl))) vx_n))))) hgood (g6.narrow hAb) (g7.narrow hAb) hS hsize d0 d3 d4 d6 d9 (fun x hx' => (ht x hx').elim) hR.1 (by simpa [nm2] using hR.2.1) hR.2.2.1 hR.2.2.2 hlocks (fun t _ hz hk' => ?_) hS.2.2 hm.1 hm.2
  exact ⟨hxp t.heap hz hk', Nat.le_trans hS.1 hz, fun q h1 h2 => (hk' q (Nat.lt_of_lt_of_le h1 hS.1)).trans (hS.2.1 q h1 h2)⟩
end GR
theorem thr_ng0 : ∀ w ∈ (vx_atS RX4 76 "java/lang/IndexOutOfBoundsException" nm2).filter (fun w => !goodWord w), w ∈ gnl "java/lang/IndexOutOfBoundsException" := by decide +kernel
theorem thr_ng1 : ∀ w ∈ (vx_atS RX4 52 "java/lang/IllegalArgumentException" nm2).filter (fun w => !goodWord w), w ∈ gnl "java/lang/IllegalArgumentException" := by decide +kernel
theorem thr_ng2 : ∀ w ∈ (vx_atS RX4 61 "java/lang/IllegalStateException" nm2).filter (fun w => !goodWord w), w ∈ gnl "java/lang/IllegalStateException" := by decide +kernel
theorem thr_go0 : ∀ w ∈ Cond.classLink RX4 72 "java/lang/IndexOutOfBoundsException" :: Cond.initialized "java/lang/IndexOutOfBoundsException" :: vx_atS RX4 76 "java/lang/IndexOutOfBoundsException" nm2, vx_ot w = true := by decide +kernel
theorem thr_go1 : ∀ w ∈ Cond.classLink RX4 48 "java/lang/IllegalArgumentException" :: Cond.initialized "java/lang/IllegalArgumentException" :: vx_atS RX4 52 "java/lang/IllegalArgumentException" nm2, vx_ot w = true := by decide +kernel
theorem thr_go2 : ∀ w ∈ Cond.classLink RX4 57 "java/lang/IllegalStateException" :: Cond.initialized "java/lang/IllegalStateException" :: vx_atS RX4 61 "java/lang/IllegalStateException" nm2, vx_ot w = true := by decide +kernel
end
section
/-! MY PICTURES. The class: one object at bx, its rows and parts at bx + 1 .. bx + 54, melodies further up. X f i: what a field holds, as an integer:
 4 melodyCount, 5 faultCount, 6 now; 7 toldFaults; 14 .. 22 a house's sound, quietFrom, quietTo, score, rungSeconds, rungQuietSeconds, hushedPresses, faultsOfTheDay, keptQuietToday; 23 rights (12 h + m);
 30 .. 33 a bell's melody (-1: none), load, isRinging, stopsAt (3 h + b); 34, 35 a crew's goal (-1: none), doneAt; 36, 37, 38 a melody's owner, count, tones. -/
def mo (ml : Nat → Nat) (z : Int) : Option Nat := if z < 0 then none else some (ml z.toNat)
def go (bx : Nat) (z : Int) : Option Nat := if z < 0 then none else some (bx + 5 + 6 * z.toNat)
def xF (bx : Nat) (X : Nat → Nat → Int) : List Value := [.ref (bx + 1), .ref (bx + 2), .ref (bx + 3), .ref (bx + 4), .int (z2 (X 4 0)), .int (z2 (X 5 0)), .int (z2 (X 6 0))]
def hF (bx : Nat) (X : Nat → Nat → Int) (h : Nat) : List Value := [.int (z2 (h : Nat)), .int (z2 (h / 4 : Nat)), .ref (bx + 5 + 6 * h + 1), .ref (bx + 5 + 6 * h + 2), .int (z2 (X 14 h)), .int (z2 (X 15 h)), .int (z2 (X 16 h)), .int (z2 (X 17 h)), .int (z2 (X 18 h)), .int (z2 (X 19 h)), .int (z2 (X 20 h)), .int (z2 (X 21 h)), .int (z2 (X 22 h))]
def bF (ml : Nat → Nat) (X : Nat → Nat → Int) (i : Nat) : List Value := [va_rf (mo ml (X 30 i)), .int (z2 (X 31 i)), .int (z2 (X 32 i)), .int (z2 (X 33 i))]
def cF (bx : Nat) (X : Nat → Nat → Int) (s : Nat) : List Value := [va_rf (go bx (X 34 s)), .int (z2 (X 35 s))]
def mF (X : Nat → Nat → Int) (k : Nat) : List Value := [.int (z2 (k : Nat)), .int (z2 (X 36 k)), .int (z2 (X 37 k)), .long (l2 (X 38 k))]
abbrev qA (k : ClassId) (n : Nat) (f : Nat → Option Nat) : va_E := .inl (k, n, .inr (.inr (.inr (.inr f))))
abbrev iA (k : ClassId) (n : Nat) (f : Nat → Int32) : va_E := .inl (k, n, .inl f)
abbrev jA (k : ClassId) (n : Nat) (f : Nat → Int64) : va_E := .inl (k, n, .inr (.inl f))
def PX (D : va_G) (ks : Nat → ClassId) (bx : Nat) (ml : Nat → Nat) (X : Nat → Nat → Int) (H : Heap) : Prop :=
  ca D bx (.inr (4, xF bx X)) H ∧
  ca D (bx + 1) (qA (ks 4) 8 (fun i => some (bx + 5 + 6 * i))) H ∧
  ca D (bx + 2) (qA (ks 3) 2 (fun i => some (bx + 53 + i))) H ∧
  ca D (bx + 3) (qA (ks 5) 12 (fun i => if (i : Int) < X 4 0 then some (ml i) else none)) H ∧
  ca D (bx + 4) (iA (ks 0) 100 (fun i => z2 (X 7 i))) H ∧
  (∀ h : Nat, h < 8 → ca D (bx + 5 + 6 * h) (.inr (2, hF bx X h)) H ∧ ca D (bx + 5 + 6 * h + 1) (qA (ks 2) 3 (fun b => some (bx + 5 + 6 * h + 3 + b))) H ∧ ca D (bx + 5 + 6 * h + 2) (iA (ks 0) 12 (fun m => z2 (X 23 (12 * h + m)))) H) ∧
  (∀ h b : Nat, h < 8 → b < 3 → ca D (bx + 5 + 6 * h + 3 + b) (.inr (0, bF ml X (3 * h + b))) H) ∧
  (∀ s : Nat, s < 2 → ca D (bx + 53 + s) (.inr (1, cF bx X s)) H) ∧
  (∀ k : Nat, (k : Int) < X 4 0 → ca D (ml k) (.inr (3, mF X k)) H ∧ bx + 76 ≤ ml k)
theorem arrV_cong (k : ClassId) (n : Nat) {f g : Nat → Value} (h : ∀ j, j < n → f j = g j) : arrV k n f = arrV k n g := by
  have e : (Array.ofFn (n := n) fun j => f j.val) = Array.ofFn (n := n) fun j => g j.val := congrArg Array.ofFn (funext fun j => h j.val j.isLt)
  unfold arrV
  rw [e]
theorem ia_cong {D : va_G} {H : Heap} {a : Nat} {k : ClassId} {n : Nat} {f g : Nat → Int32} (h : va_at D vwCl (a, .inl (k, n, .inl f)) H) (hfg : ∀ j, j < n → g j = f j) : va_at D vwCl (a, .inl (k, n, .inl g)) H := by
  have e : vp_cell k (n, .inl g) = vp_cell k (n, .inl f) := arrV_cong k n (fun j hj => congrArg Value.int (hfg j hj))
  exact (show H[a]? = some (vp_cell k (n, .inl f)) from h).trans (congrArg some e.symm)
theorem qa_cong {D : va_G} {H : Heap} {a : Nat} {k : ClassId} {n : Nat} {f g : Nat → Option Nat} (h : va_at D vwCl (a, .inl (k, n, .inr (.inr (.inr (.inr f))))) H) (hfg : ∀ j, j < n → g j = f j) : va_at D vwCl (a, .inl (k, n, .inr (.inr (.inr (.inr g))))) H := by
  have e : vp_cell k (n, .inr (.inr (.inr (.inr g)))) = vp_cell k (n, .inr (.inr (.inr (.inr f)))) := arrV_cong k n (fun j hj => congrArg va_rf (hfg j hj))
  exact (show H[a]? = some (vp_cell k (n, .inr (.inr (.inr (.inr f))))) from h).trans (congrArg some e.symm)
section PXs
variable {D : va_G} {ks : Nat → ClassId} {bx : Nat} {ml : Nat → Nat} {X : Nat → Nat → Int} {H H1 : Heap}
theorem PX.keep (h : PX D ks bx ml X H) (hk : ∀ q : Nat, q < H.size → q < bx + 55 ∨ bx + 76 ≤ q → H1[q]? = H[q]?) : PX D ks bx ml X H1 := by
  obtain ⟨p1, p2, p3, p4, p5, p6, p7, p8, p9⟩ := h
  have go : ∀ {a : Nat} {x : va_E}, ca D a x H → a < bx + 55 ∨ bx + 76 ≤ a → ca D a x H1 := fun hc ha => hc.kept (hk _ hc.lt ha)
  exact ⟨go p1 (by omega), go p2 (by omega), go p3 (by omega), go p4 (by omega), go p5 (by omega), fun h hh => ⟨go (p6 h hh).1 (by omega), go (p6 h hh).2.1 (by omega), go (p6 h hh).2.2 (by omega)⟩, fun h b hh hb => go (p7 h b hh hb) (by omega), fun s hs => go (p8 s hs) (by omega), fun k hk' => ⟨go (p9 k hk').1 (Or.inr (p9 k hk').2), (p9 k hk').2⟩⟩
theorem PX.house (h : PX D ks bx ml X H) {i k : Nat} (hi : i < 8) (hk : 4 ≤ k ∧ k ≤ 12) {v : Int} (e : ca D (bx + 5 + 6 * i) (.inr (2, (hF bx X i).set k (.int (z2 v)))) H1) (oq : ∀ q : Nat, q ≠ bx + 5 + 6 * i → H1[q]? = H[q]?) : PX D ks bx ml (up X (10 + k) i v) H1 := by
  obtain ⟨p1, p2, p3, p4, p5, p6, p7, p8, p9⟩ := h
  have ne : ∀ f j : Nat, f ≠ 10 + k → up X (10 + k) i v f j = X f j := fun f j hf => up_f X i j v hf
  refine ⟨?_, p2.kept (oq _ (by omega)), p3.kept (oq _ (by omega)), ?_, ?_, fun h hh => ⟨?_, (p6 h hh).2.1.kept (oq _ (by omega)), ?_⟩, fun h b hh hb => ?_, fun s hs => ?_, fun k' hk' => ?_⟩
  · have := p1.kept (oq _ (by omega))
    simpa only [xF, ne 4 0 (by omega), ne 5 0 (by omega), ne 6 0 (by omega)] using this
  · have := p4.kept (oq _ (by omega))
    simpa only [ne 4 0 (by omega)] using this
  · have := p5.kept (oq _ (by omega))
    simpa only [ne 7 _ (by omega)] using this
  · by_cases hhi : h = i
    · subst hhi
      have hs : (hF bx X h).set k (.int (z2 v)) = hF bx (up X (10 + k) h v) h := by
        obtain ⟨k1, k2⟩ := hk
        have hc : k = 4 ∨ k = 5 ∨ k = 6 ∨ k = 7 ∨ k = 8 ∨ k = 9 ∨ k = 10 ∨ k = 11 ∨ k = 12 := by omega
        rcases hc with rfl | rfl | rfl | rfl | rfl | rfl | rfl | rfl | rfl <;> simp [hF, up]
      rw [← hs]
      exact e
    · have := (p6 h hh).1.kept (oq _ (by omega))
      have hs : hF bx (up X (10 + k) i v) h = hF bx X h := by
        simp only [hF, up_i X (10 + k) _ v hhi]
      rw [hs]
      exact this
  · have := (p6 h hh).2.2.kept (oq _ (by omega))
    simpa only [ne 23 _ (by omega)] using this
  · have := (p7 h b hh hb).kept (oq _ (by omega))
    simpa only [bF, ne 30 _ (by omega), ne 31 _ (by omega), ne 32 _ (by omega), ne 33 _ (by omega)] using this
  · have := (p8 s hs).kept (oq _ (by omega))
    simpa only [cF, ne 34 _ (by omega), ne 35 _ (by omega)] using this
  · rw [ne 4 0 (by omega)] at hk'
    obtain ⟨q1, q2⟩ := p9 k' hk'
    have := q1.kept (oq _ (by omega))
    exact ⟨by simpa only [mF, ne 36 _ (by omega), ne 37 _ (by omega), ne 38 _ (by omega)] using this, q2⟩
theorem PX.right (h : PX D ks bx ml X H) {i j : Nat} (hi : i < 8) (hj : j < 12) {v : Int} (e : ca D (bx + 5 + 6 * i + 2) (iA (ks 0) 12 (upd (fun m => z2 (X 23 (12 * i + m))) j (z2 v))) H1) (oq : ∀ q : Nat, q ≠ bx + 5 + 6 * i + 2 → H1[q]? = H[q]?) : PX D ks bx ml (up X 23 (12 * i + j) v) H1 := by
  obtain ⟨p1, p2, p3, p4, p5, p6, p7, p8, p9⟩ := h
  have ne : ∀ f j' : Nat, f ≠ 23 → up X 23 (12 * i + j) v f j' = X f j' := fun f j' hf => up_f X _ j' v hf
  refine ⟨?_, p2.kept (oq _ (by omega)), p3.kept (oq _ (by omega)), ?_, ?_, fun h hh => ⟨?_, (p6 h hh).2.1.kept (oq _ (by omega)), ?_⟩, fun h b hh hb => ?_, fun s hs => ?_, fun k' hk' => ?_⟩
  · have := p1.kept (oq _ (by omega))
    simpa only [xF, ne 4 0 (by omega), ne 5 0 (by omega), ne 6 0 (by omega)] using this
  · have := p4.kept (oq _ (by omega))
    simpa only [ne 4 0 (by omega)] using this
  · have := p5.kept (oq _ (by omega))
    simpa only [ne 7 _ (by omega)] using this
  · have := (p6 h hh).1.kept (oq _ (by omega))
    simpa only [hF, ne 14 _ (by omega), ne 15 _ (by omega), ne 16 _ (by omega), ne 17 _ (by omega), ne 18 _ (by omega), ne 19 _ (by omega), ne 20 _ (by omega), ne 21 _ (by omega), ne 22 _ (by omega)] using this
  · by_cases hhi : h = i
    · subst hhi
      have hs : (fun m => z2 (up X 23 (12 * h + j) v 23 (12 * h + m))) = upd (fun m => z2 (X 23 (12 * h + m))) j (z2 v) := by
        funext m
        unfold upd
        by_cases hm : m = j
        · subst hm
          rw [up_s, if_pos rfl]
        · rw [up_i X 23 23 v (by omega), if_neg hm]
      rw [hs]
      exact e
    · have := (p6 h hh).2.2.kept (oq _ (by omega))
      have hs : ∀ m : Nat, m < 12 → up X 23 (12 * i + j) v 23 (12 * h + m) = X 23 (12 * h + m) := fun m hm => up_i X 23 23 v (by omega)
      exact ia_cong this fun m hm => by rw [hs m hm]
  · have := (p7 h b hh hb).kept (oq _ (by omega))
    simpa only [bF, ne 30 _ (by omega), ne 31 _ (by omega), ne 32 _ (by omega), ne 33 _ (by omega)] using this
  · have := (p8 s hs).kept (oq _ (by omega))
    simpa only [cF, ne 34 _ (by omega), ne 35 _ (by omega)] using this
  · rw [ne 4 0 (by omega)] at hk'
    obtain ⟨q1, q2⟩ := p9 k' hk'
    have := q1.kept (oq _ (by omega))
    exact ⟨by simpa only [mF, ne 36 _ (by omega), ne 37 _ (by omega), ne 38 _ (by omega)] using this, q2⟩
theorem PX.bell (h : PX D ks bx ml X H) {i j k : Nat} (hi : i < 8) (hj : j < 3) (hk : 1 ≤ k ∧ k ≤ 3) {v : Int} (e : ca D (bx + 5 + 6 * i + 3 + j) (.inr (0, (bF ml X (3 * i + j)).set k (.int (z2 v)))) H1) (oq : ∀ q : Nat, q ≠ bx + 5 + 6 * i + 3 + j → H1[q]? = H[q]?) : PX D ks bx ml (up X (30 + k) (3 * i + j) v) H1 := by
  obtain ⟨p1, p2, p3, p4, p5, p6, p7, p8, p9⟩ := h
  have ne : ∀ f j' : Nat, f ≠ 30 + k → up X (30 + k) (3 * i + j) v f j' = X f j' := fun f j' hf => up_f X _ j' v hf
  refine ⟨?_, p2.kept (oq _ (by omega)), p3.kept (oq _ (by omega)), ?_, ?_, fun h hh => ⟨?_, (p6 h hh).2.1.kept (oq _ (by omega)), ?_⟩, fun h b hh hb => ?_, fun s hs => ?_, fun k' hk' => ?_⟩
  · have := p1.kept (oq _ (by omega))
    simpa only [xF, ne 4 0 (by omega), ne 5 0 (by omega), ne 6 0 (by omega)] using this
  · have := p4.kept (oq _ (by omega))
    simpa only [ne 4 0 (by omega)] using this
  · have := p5.kept (oq _ (by omega))
    simpa only [ne 7 _ (by omega)] using this
  · have := (p6 h hh).1.kept (oq _ (by omega))
    simpa only [hF, ne 14 _ (by omega), ne 15 _ (by omega), ne 16 _ (by omega), ne 17 _ (by omega), ne 18 _ (by omega), ne 19 _ (by omega), ne 20 _ (by omega), ne 21 _ (by omega), ne 22 _ (by omega)] using this
  · have := (p6 h hh).2.2.kept (oq _ (by omega))
    simpa only [ne 23 _ (by omega)] using this
  · by_cases hhi : h = i ∧ b = j
    · obtain ⟨rfl, rfl⟩ := hhi
      have hs : (bF ml X (3 * h + b)).set k (.int (z2 v)) = bF ml (up X (30 + k) (3 * h + b) v) (3 * h + b) := by
        obtain ⟨k1, k2⟩ := hk
        have hc : k = 1 ∨ k = 2 ∨ k = 3 := by omega
        rcases hc with rfl | rfl | rfl <;> simp [bF, up]
      rw [← hs]
      exact e
    · have hn : 3 * h + b ≠ 3 * i + j := by omega
      have := (p7 h b hh hb).kept (oq _ (by omega))
      have hs : bF ml (up X (30 + k) (3 * i + j) v) (3 * h + b) = bF ml X (3 * h + b) := by
        simp only [bF, up_i X (30 + k) _ v hn]
      rw [hs]
      exact this
  · have := (p8 s hs).kept (oq _ (by omega))
    simpa only [cF, ne 34 _ (by omega), ne 35 _ (by omega)] using this
  · rw [ne 4 0 (by omega)] at hk'
    obtain ⟨q1, q2⟩ := p9 k' hk'
    have := q1.kept (oq _ (by omega))
    exact ⟨by simpa only [mF, ne 36 _ (by omega), ne 37 _ (by omega), ne 38 _ (by omega)] using this, q2⟩
theorem PX.bellM (h : PX D ks bx ml X H) {i j : Nat} (hi : i < 8) (hj : j < 3) {v : Int} (e : ca D (bx + 5 + 6 * i + 3 + j) (.inr (0, (bF ml X (3 * i + j)).set 0 (va_rf (mo ml v)))) H1) (oq : ∀ q : Nat, q ≠ bx + 5 + 6 * i + 3 + j → H1[q]? = H[q]?) : PX D ks bx ml (up X 30 (3 * i + j) v) H1 := by
  obtain ⟨p1, p2, p3, p4, p5, p6, p7, p8, p9⟩ := h
  have ne : ∀ f j' : Nat, f ≠ 30 → up X (30) (3 * i + j) v f j' = X f j' := fun f j' hf => up_f X _ j' v hf
  refine ⟨?_, p2.kept (oq _ (by omega)), p3.kept (oq _ (by omega)), ?_, ?_, fun h hh => ⟨?_, (p6 h hh).2.1.kept (oq _ (by omega)), ?_⟩, fun h b hh hb => ?_, fun s hs => ?_, fun k' hk' => ?_⟩
  · have := p1.kept (oq _ (by omega))
    simpa only [xF, ne 4 0 (by omega), ne 5 0 (by omega), ne 6 0 (by omega)] using this
  · have := p4.kept (oq _ (by omega))
    simpa only [ne 4 0 (by omega)] using this
  · have := p5.kept (oq _ (by omega))
    simpa only [ne 7 _ (by omega)] using this
  · have := (p6 h hh).1.kept (oq _ (by omega))
    simpa only [hF, ne 14 _ (by omega), ne 15 _ (by omega), ne 16 _ (by omega), ne 17 _ (by omega), ne 18 _ (by omega), ne 19 _ (by omega), ne 20 _ (by omega), ne 21 _ (by omega), ne 22 _ (by omega)] using this
  · have := (p6 h hh).2.2.kept (oq _ (by omega))
    simpa only [ne 23 _ (by omega)] using this
  · by_cases hhi : h = i ∧ b = j
    · obtain ⟨rfl, rfl⟩ := hhi
      have hs : (bF ml X (3 * h + b)).set 0 (va_rf (mo ml v)) = bF ml (up X 30 (3 * h + b) v) (3 * h + b) := by simp [bF, up]
      rw [← hs]
      exact e
    · have hn : 3 * h + b ≠ 3 * i + j := by omega
      have := (p7 h b hh hb).kept (oq _ (by omega))
      have hs : bF ml (up X 30 (3 * i + j) v) (3 * h + b) = bF ml X (3 * h + b) := by
        simp only [bF, up_i X 30 _ v hn]
      rw [hs]
      exact this
  · have := (p8 s hs).kept (oq _ (by omega))
    simpa only [cF, ne 34 _ (by omega), ne 35 _ (by omega)] using this
  · rw [ne 4 0 (by omega)] at hk'
    obtain ⟨q1, q2⟩ := p9 k' hk'
    have := q1.kept (oq _ (by omega))
    exact ⟨by simpa only [mF, ne 36 _ (by omega), ne 37 _ (by omega), ne 38 _ (by omega)] using this, q2⟩
theorem PX.goal (h : PX D ks bx ml X H) {i : Nat} (hi : i < 2) {v : Int} (e : ca D (bx + 53 + i) (.inr (1, (cF bx X i).set 0 (va_rf (go bx v)))) H1) (oq : ∀ q : Nat, q ≠ bx + 53 + i → H1[q]? = H[q]?) : PX D ks bx ml (up X 34 i v) H1 := by
  obtain ⟨p1, p2, p3, p4, p5, p6, p7, p8, p9⟩ := h
  have ne : ∀ f j' : Nat, f ≠ 34 → up X (34) (i) v f j' = X f j' := fun f j' hf => up_f X _ j' v hf
  refine ⟨?_, p2.kept (oq _ (by omega)), p3.kept (oq _ (by omega)), ?_, ?_, fun h hh => ⟨?_, (p6 h hh).2.1.kept (oq _ (by omega)), ?_⟩, fun h b hh hb => ?_, fun s hs => ?_, fun k' hk' => ?_⟩
  · have := p1.kept (oq _ (by omega))
    simpa only [xF, ne 4 0 (by omega), ne 5 0 (by omega), ne 6 0 (by omega)] using this
  · have := p4.kept (oq _ (by omega))
    simpa only [ne 4 0 (by omega)] using this
  · have := p5.kept (oq _ (by omega))
    simpa only [ne 7 _ (by omega)] using this
  · have := (p6 h hh).1.kept (oq _ (by omega))
    simpa only [hF, ne 14 _ (by omega), ne 15 _ (by omega), ne 16 _ (by omega), ne 17 _ (by omega), ne 18 _ (by omega), ne 19 _ (by omega), ne 20 _ (by omega), ne 21 _ (by omega), ne 22 _ (by omega)] using this
  · have := (p6 h hh).2.2.kept (oq _ (by omega))
    simpa only [ne 23 _ (by omega)] using this
  · have := (p7 h b hh hb).kept (oq _ (by omega))
    simpa only [bF, ne 30 _ (by omega), ne 31 _ (by omega), ne 32 _ (by omega), ne 33 _ (by omega)] using this
  · by_cases hhi : s = i
    · subst hhi
      have hs' : (cF bx X s).set 0 (va_rf (go bx v)) = cF bx (up X 34 s v) s := by simp [cF, up]
      rw [← hs']
      exact e
    · have := (p8 s hs).kept (oq _ (by omega))
      have hs' : cF bx (up X 34 i v) s = cF bx X s := by simp only [cF, up_i X 34 _ v hhi]
      rw [hs']
      exact this
  · rw [ne 4 0 (by omega)] at hk'
    obtain ⟨q1, q2⟩ := p9 k' hk'
    have := q1.kept (oq _ (by omega))
    exact ⟨by simpa only [mF, ne 36 _ (by omega), ne 37 _ (by omega), ne 38 _ (by omega)] using this, q2⟩
theorem PX.doneAt (h : PX D ks bx ml X H) {i : Nat} (hi : i < 2) {v : Int} (e : ca D (bx + 53 + i) (.inr (1, (cF bx X i).set 1 (.int (z2 v)))) H1) (oq : ∀ q : Nat, q ≠ bx + 53 + i → H1[q]? = H[q]?) : PX D ks bx ml (up X 35 i v) H1 := by
  obtain ⟨p1, p2, p3, p4, p5, p6, p7, p8, p9⟩ := h
  have ne : ∀ f j' : Nat, f ≠ 35 → up X (35) (i) v f j' = X f j' := fun f j' hf => up_f X _ j' v hf
  refine ⟨?_, p2.kept (oq _ (by omega)), p3.kept (oq _ (by omega)), ?_, ?_, fun h hh => ⟨?_, (p6 h hh).2.1.kept (oq _ (by omega)), ?_⟩, fun h b hh hb => ?_, fun s hs => ?_, fun k' hk' => ?_⟩
  · have := p1.kept (oq _ (by omega))
    simpa only [xF, ne 4 0 (by omega), ne 5 0 (by omega), ne 6 0 (by omega)] using this
  · have := p4.kept (oq _ (by omega))
    simpa only [ne 4 0 (by omega)] using this
  · have := p5.kept (oq _ (by omega))
    simpa only [ne 7 _ (by omega)] using this
  · have := (p6 h hh).1.kept (oq _ (by omega))
    simpa only [hF, ne 14 _ (by omega), ne 15 _ (by omega), ne 16 _ (by omega), ne 17 _ (by omega), ne 18 _ (by omega), ne 19 _ (by omega), ne 20 _ (by omega), ne 21 _ (by omega), ne 22 _ (by omega)] using this
  · have := (p6 h hh).2.2.kept (oq _ (by omega))
    simpa only [ne 23 _ (by omega)] using this
  · have := (p7 h b hh hb).kept (oq _ (by omega))
    simpa only [bF, ne 30 _ (by omega), ne 31 _ (by omega), ne 32 _ (by omega), ne 33 _ (by omega)] using this
  · by_cases hhi : s = i
    · subst hhi
      have hs' : (cF bx X s).set 1 (.int (z2 v)) = cF bx (up X 35 s v) s := by simp [cF, up]
      rw [← hs']
      exact e
    · have := (p8 s hs).kept (oq _ (by omega))
      have hs' : cF bx (up X 35 i v) s = cF bx X s := by simp only [cF, up_i X 35 _ v hhi]
      rw [hs']
      exact this
  · rw [ne 4 0 (by omega)] at hk'
    obtain ⟨q1, q2⟩ := p9 k' hk'
    have := q1.kept (oq _ (by omega))
    exact ⟨by simpa only [mF, ne 36 _ (by omega), ne 37 _ (by omega), ne 38 _ (by omega)] using this, q2⟩
theorem PX.own5 (h : PX D ks bx ml X H) {v : Int} (e : ca D bx (.inr (4, (xF bx X).set 5 (.int (z2 v)))) H1) (oq : ∀ q : Nat, q ≠ bx → H1[q]? = H[q]?) : PX D ks bx ml (up X 5 0 v) H1 := by
  obtain ⟨p1, p2, p3, p4, p5, p6, p7, p8, p9⟩ := h
  have ne : ∀ f j' : Nat, f ≠ 5 → up X (5) (0) v f j' = X f j' := fun f j' hf => up_f X _ j' v hf
  refine ⟨?_, p2.kept (oq _ (by omega)), p3.kept (oq _ (by omega)), ?_, ?_, fun h hh => ⟨?_, (p6 h hh).2.1.kept (oq _ (by omega)), ?_⟩, fun h b hh hb => ?_, fun s hs => ?_, fun k' hk' => ?_⟩
  · have hs : (xF bx X).set 5 (.int (z2 v)) = xF bx (up X 5 0 v) := by simp [xF, up]
    rw [← hs]
    exact e
  · have := p4.kept (oq _ (by omega))
    simpa only [ne 4 0 (by omega)] using this
  · have := p5.kept (oq _ (by omega))
    simpa only [ne 7 _ (by omega)] using this
  · have := (p6 h hh).1.kept (oq _ (by omega))
    simpa only [hF, ne 14 _ (by omega), ne 15 _ (by omega), ne 16 _ (by omega), ne 17 _ (by omega), ne 18 _ (by omega), ne 19 _ (by omega), ne 20 _ (by omega), ne 21 _ (by omega), ne 22 _ (by omega)] using this
  · have := (p6 h hh).2.2.kept (oq _ (by omega))
    simpa only [ne 23 _ (by omega)] using this
  · have := (p7 h b hh hb).kept (oq _ (by omega))
    simpa only [bF, ne 30 _ (by omega), ne 31 _ (by omega), ne 32 _ (by omega), ne 33 _ (by omega)] using this
  · have := (p8 s hs).kept (oq _ (by omega))
    simpa only [cF, ne 34 _ (by omega), ne 35 _ (by omega)] using this
  · rw [ne 4 0 (by omega)] at hk'
    obtain ⟨q1, q2⟩ := p9 k' hk'
    have := q1.kept (oq _ (by omega))
    exact ⟨by simpa only [mF, ne 36 _ (by omega), ne 37 _ (by omega), ne 38 _ (by omega)] using this, q2⟩
theorem PX.own6 (h : PX D ks bx ml X H) {v : Int} (e : ca D bx (.inr (4, (xF bx X).set 6 (.int (z2 v)))) H1) (oq : ∀ q : Nat, q ≠ bx → H1[q]? = H[q]?) : PX D ks bx ml (up X 6 0 v) H1 := by
  obtain ⟨p1, p2, p3, p4, p5, p6, p7, p8, p9⟩ := h
  have ne : ∀ f j' : Nat, f ≠ 6 → up X (6) (0) v f j' = X f j' := fun f j' hf => up_f X _ j' v hf
  refine ⟨?_, p2.kept (oq _ (by omega)), p3.kept (oq _ (by omega)), ?_, ?_, fun h hh => ⟨?_, (p6 h hh).2.1.kept (oq _ (by omega)), ?_⟩, fun h b hh hb => ?_, fun s hs => ?_, fun k' hk' => ?_⟩
  · have hs : (xF bx X).set 6 (.int (z2 v)) = xF bx (up X 6 0 v) := by simp [xF, up]
    rw [← hs]
    exact e
  · have := p4.kept (oq _ (by omega))
    simpa only [ne 4 0 (by omega)] using this
  · have := p5.kept (oq _ (by omega))
    simpa only [ne 7 _ (by omega)] using this
  · have := (p6 h hh).1.kept (oq _ (by omega))
    simpa only [hF, ne 14 _ (by omega), ne 15 _ (by omega), ne 16 _ (by omega), ne 17 _ (by omega), ne 18 _ (by omega), ne 19 _ (by omega), ne 20 _ (by omega), ne 21 _ (by omega), ne 22 _ (by omega)] using this
  · have := (p6 h hh).2.2.kept (oq _ (by omega))
    simpa only [ne 23 _ (by omega)] using this
  · have := (p7 h b hh hb).kept (oq _ (by omega))
    simpa only [bF, ne 30 _ (by omega), ne 31 _ (by omega), ne 32 _ (by omega), ne 33 _ (by omega)] using this
  · have := (p8 s hs).kept (oq _ (by omega))
    simpa only [cF, ne 34 _ (by omega), ne 35 _ (by omega)] using this
  · rw [ne 4 0 (by omega)] at hk'
    obtain ⟨q1, q2⟩ := p9 k' hk'
    have := q1.kept (oq _ (by omega))
    exact ⟨by simpa only [mF, ne 36 _ (by omega), ne 37 _ (by omega), ne 38 _ (by omega)] using this, q2⟩
theorem PX.told (h : PX D ks bx ml X H) {i : Nat} {v : Int} (e : ca D (bx + 4) (iA (ks 0) 100 (upd (fun j => z2 (X 7 j)) i (z2 v))) H1) (oq : ∀ q : Nat, q ≠ bx + 4 → H1[q]? = H[q]?) : PX D ks bx ml (up X 7 i v) H1 := by
  obtain ⟨p1, p2, p3, p4, p5, p6, p7, p8, p9⟩ := h
  have ne : ∀ f j' : Nat, f ≠ 7 → up X (7) (i) v f j' = X f j' := fun f j' hf => up_f X _ j' v hf
  refine ⟨?_, p2.kept (oq _ (by omega)), p3.kept (oq _ (by omega)), ?_, ?_, fun h hh => ⟨?_, (p6 h hh).2.1.kept (oq _ (by omega)), ?_⟩, fun h b hh hb => ?_, fun s hs => ?_, fun k' hk' => ?_⟩
  · have := p1.kept (oq _ (by omega))
    simpa only [xF, ne 4 0 (by omega), ne 5 0 (by omega), ne 6 0 (by omega)] using this
  · have := p4.kept (oq _ (by omega))
    simpa only [ne 4 0 (by omega)] using this
  · have hs : (fun j => z2 (up X 7 i v 7 j)) = upd (fun j => z2 (X 7 j)) i (z2 v) := by
      funext m
      unfold upd
      by_cases hm : m = i
      · subst hm
        rw [up_s, if_pos rfl]
      · rw [up_i X 7 7 v hm, if_neg hm]
    rw [hs]
    exact e
  · have := (p6 h hh).1.kept (oq _ (by omega))
    simpa only [hF, ne 14 _ (by omega), ne 15 _ (by omega), ne 16 _ (by omega), ne 17 _ (by omega), ne 18 _ (by omega), ne 19 _ (by omega), ne 20 _ (by omega), ne 21 _ (by omega), ne 22 _ (by omega)] using this
  · have := (p6 h hh).2.2.kept (oq _ (by omega))
    simpa only [ne 23 _ (by omega)] using this
  · have := (p7 h b hh hb).kept (oq _ (by omega))
    simpa only [bF, ne 30 _ (by omega), ne 31 _ (by omega), ne 32 _ (by omega), ne 33 _ (by omega)] using this
  · have := (p8 s hs).kept (oq _ (by omega))
    simpa only [cF, ne 34 _ (by omega), ne 35 _ (by omega)] using this
  · rw [ne 4 0 (by omega)] at hk'
    obtain ⟨q1, q2⟩ := p9 k' hk'
    have := q1.kept (oq _ (by omega))
    exact ⟨by simpa only [mF, ne 36 _ (by omega), ne 37 _ (by omega), ne 38 _ (by omega)] using this, q2⟩
/-- a melody more: its cell at a, the row's place n, the count -/
def nX (X : Nat → Nat → Int) (n : Nat) (o c t : Int) : Nat → Nat → Int := up (up (up (up X 36 n o) 37 n c) 38 n t) 4 0 (n + 1 : Nat)
theorem nX_f (X : Nat → Nat → Int) (n : Nat) (o c t : Int) {f : Nat} (j : Nat) (h : f ≠ 36 ∧ f ≠ 37 ∧ f ≠ 38 ∧ f ≠ 4) : nX X n o c t f j = X f j := by
  unfold nX
  rw [up_f _ _ _ _ h.2.2.2, up_f _ _ _ _ h.2.2.1, up_f _ _ _ _ h.2.1, up_f _ _ _ _ h.1]
theorem nX_i (X : Nat → Nat → Int) (n : Nat) (o c t : Int) {f j : Nat} (hf : f ≠ 4) (h : j ≠ n) : nX X n o c t f j = X f j := by
  unfold nX
  rw [up_f _ _ _ _ hf, up_i _ _ _ _ h, up_i _ _ _ _ h, up_i _ _ _ _ h]
theorem PX.more (h : PX D ks bx ml X H) {n a : Nat} {o c t : Int} (hn : X 4 0 = n) (hml : ∀ h b : Nat, h < 8 → b < 3 → mo (va_up ml n a) (X 30 (3 * h + b)) = mo ml (X 30 (3 * h + b))) (ha : bx + 76 ≤ a) (hm : ca D a (.inr (3, [.int (z2 (n : Nat)), .int (z2 o), .int (z2 c), .long (l2 t)])) H1)
    (e1 : ca D (bx + 3) (qA (ks 5) 12 (va_up (fun i => if (i : Int) < X 4 0 then some (ml i) else none) n (some a))) H1) (e2 : ca D bx (.inr (4, (xF bx X).set 4 (.int (z2 (n + 1 : Nat))))) H1)
    (oq : ∀ q : Nat, q < H.size → q ≠ bx + 3 → q ≠ bx → H1[q]? = H[q]?) : PX D ks bx (va_up ml n a) (nX X n o c t) H1 := by
  obtain ⟨p1, p2, p3, p4, p5, p6, p7, p8, p9⟩ := h
  have ne : ∀ f j' : Nat, (f ≠ 36 ∧ f ≠ 37 ∧ f ≠ 38 ∧ f ≠ 4) → nX X n o c t f j' = X f j' := fun f j' hf => nX_f X n o c t j' hf
  have n4 : nX X n o c t 4 0 = (n + 1 : Nat) := by unfold nX; rw [up_s]
  have kp : ∀ {q : Nat} {x : va_E}, ca D q x H → q ≠ bx + 3 → q ≠ bx → ca D q x H1 := fun hc h1 h2 => hc.kept (oq _ hc.lt h1 h2)
  refine ⟨?_, kp p2 (by omega) (by omega), kp p3 (by omega) (by omega), ?_, ?_, fun h hh => ⟨?_, kp (p6 h hh).2.1 (by omega) (by omega), ?_⟩, fun h b hh hb => ?_, fun s hs => ?_, fun k' hk' => ?_⟩
  · have hs : (xF bx X).set 4 (.int (z2 (n + 1 : Nat))) = xF bx (nX X n o c t) := by
      simp only [xF, n4, ne 5 0 (by omega), ne 6 0 (by omega)]
      rfl
    rw [← hs]
    exact e2
  · refine qa_cong e1 fun j hj => ?_
    rw [n4]
    unfold va_up
    by_cases hjn : j = n
    · subst hjn
      rw [if_pos (by omega), if_pos rfl, if_pos rfl]
    · rw [if_neg hjn, if_neg hjn, hn]
      by_cases hjl : (j : Int) < n
      · exact (if_pos (by omega)).trans (if_pos hjl).symm
      · exact (if_neg (by omega)).trans (if_neg hjl).symm
  · have := kp p5 (by omega) (by omega)
    simpa only [ne 7 _ (by omega)] using this
  · have := kp (p6 h hh).1 (by omega) (by omega)
    simpa only [hF, ne 14 _ (by omega), ne 15 _ (by omega), ne 16 _ (by omega), ne 17 _ (by omega), ne 18 _ (by omega), ne 19 _ (by omega), ne 20 _ (by omega), ne 21 _ (by omega), ne 22 _ (by omega)] using this
  · have := kp (p6 h hh).2.2 (by omega) (by omega)
    simpa only [ne 23 _ (by omega)] using this
  · have := kp (p7 h b hh hb) (by omega) (by omega)
    have hmo : mo (va_up ml n a) (X 30 (3 * h + b)) = mo ml (X 30 (3 * h + b)) := hml h b hh hb
    simpa only [bF, hmo, ne 30 _ (by omega), ne 31 _ (by omega), ne 32 _ (by omega), ne 33 _ (by omega)] using this
  · have := kp (p8 s hs) (by omega) (by omega)
    simpa only [cF, ne 34 _ (by omega), ne 35 _ (by omega)] using this
  · rw [n4] at hk'
    by_cases hkn : k' = n
    · subst hkn
      have hs : mF (nX X k' o c t) k' = [.int (z2 (k' : Nat)), .int (z2 o), .int (z2 c), .long (l2 t)] := by
        simp [mF, nX, up]
      rw [hs]
      unfold va_up
      rw [if_pos rfl]
      exact ⟨hm, ha⟩
    · obtain ⟨q1, q2⟩ := p9 k' (by omega)
      have := kp q1 (by omega) (by omega)
      unfold va_up
      rw [if_neg hkn]
      refine ⟨?_, q2⟩
      simpa only [mF, nX_i X n o c t (f := 36) (by omega) hkn, nX_i X n o c t (f := 37) (by omega) hkn, nX_i X n o c t (f := 38) (by omega) hkn] using this
theorem PX.hs (h : PX D ks bx ml X H) {n : Nat} (hn : n < 8) : ca D (bx + 5 + 6 * n) (.inr (2, hF bx X n)) H := (h.2.2.2.2.2.1 n hn).1
theorem PX.ba (h : PX D ks bx ml X H) {n : Nat} (hn : n < 8) : ca D (bx + 5 + 6 * n + 1) (qA (ks 2) 3 (fun b => some (bx + 5 + 6 * n + 3 + b))) H := (h.2.2.2.2.2.1 n hn).2.1
theorem PX.ra (h : PX D ks bx ml X H) {n : Nat} (hn : n < 8) : ca D (bx + 5 + 6 * n + 2) (iA (ks 0) 12 (fun m => z2 (X 23 (12 * n + m)))) H := (h.2.2.2.2.2.1 n hn).2.2
theorem PX.be (h : PX D ks bx ml X H) {n b : Nat} (hn : n < 8) (hb : b < 3) : ca D (bx + 5 + 6 * n + 3 + b) (.inr (0, bF ml X (3 * n + b))) H := h.2.2.2.2.2.2.1 n b hn hb
theorem PX.cr (h : PX D ks bx ml X H) {s : Nat} (hs : s < 2) : ca D (bx + 53 + s) (.inr (1, cF bx X s)) H := h.2.2.2.2.2.2.2.1 s hs
theorem PX.me (h : PX D ks bx ml X H) {k : Nat} (hk : (k : Int) < X 4 0) : ca D (ml k) (.inr (3, mF X k)) H := (h.2.2.2.2.2.2.2.2 k hk).1
end PXs
section GM
variable {p : Program} {l : Launch} {e : Env} {R : Room} {s : State} {m : MethodId} {args : Array Value} {below : List Frame} {meth : Method} {c : Code} {H : Heap} {locs : List Loc} {cells slots : Nat} {Q : State → Prop} {pc : Nat} {ls : Array Slot} {rest : List Value}
/-- a bell's melody is none, or one by its number -/
theorem g_mo {ml : Nat → Nat} {z : Int} (hz : -1 ≤ z) (k0 : z = -1 → W p l e R s m args below meth c H locs cells slots Q (F0 m pc ls (.null :: rest))) (k1 : ∀ k : Nat, z = (k : Int) → W p l e R s m args below meth c H locs cells slots Q (F0 m pc ls (.ref (ml k) :: rest))) : W p l e R s m args below meth c H locs cells slots Q (F0 m pc ls (va_rf (mo ml z) :: rest)) := by
  unfold mo
  by_cases h : z < 0
  · rw [if_pos h]
    exact k0 (by omega)
  · rw [if_neg h]
    exact k1 z.toNat (by omega)
theorem g_go {bx : Nat} {z : Int} (hz : -1 ≤ z) (k0 : z = -1 → W p l e R s m args below meth c H locs cells slots Q (F0 m pc ls (.null :: rest))) (k1 : ∀ k : Nat, z = (k : Int) → W p l e R s m args below meth c H locs cells slots Q (F0 m pc ls (.ref (bx + 5 + 6 * k) :: rest))) : W p l e R s m args below meth c H locs cells slots Q (F0 m pc ls (va_rf (go bx z) :: rest)) := by
  unfold go
  by_cases h : z < 0
  · rw [if_pos h]
    exact k0 (by omega)
  · rw [if_neg h]
    exact k1 z.toNat (by omega)
theorem g_ml {b : Prop} [Decidable b] {a : Nat} (k1 : b → W p l e R s m args below meth c H locs cells slots Q (F0 m pc ls (.ref a :: rest))) (k0 : ¬ b → W p l e R s m args below meth c H locs cells slots Q (F0 m pc ls (.null :: rest))) : W p l e R s m args below meth c H locs cells slots Q (F0 m pc ls (va_rf (if b then some a else none) :: rest)) := by
  by_cases h : b
  · rw [if_pos h]
    exact k1 h
  · rw [if_neg h]
    exact k0 h
end GM
end
section
/-! MY PICTURE of the reference: one object at bm, its 19 rows at bm + 1 .. bm + 19. S f i: field f (by its place in the object), element i, as an integer: 0 time, 1 melodies, 2 owners, 3 counts, 4 tones, 5 laid, 6 loads, 7 ends, 8 left, 9 froms, 10 tos, 11 broken, 12 points, 13 rung, 14 noisy, 15 hushes, 16 loud, 17 faultsOfDay, 18 done, 19 goal, 20 faults, 21 told, 22 thrown. -/
def sF (bm : Nat) (S : Nat → Nat → Int) : List Value := [.int (z2 (S 0 0)), .int (z2 (S 1 0)), .ref (bm + 1), .ref (bm + 2), .ref (bm + 3), .ref (bm + 4), .ref (bm + 5), .ref (bm + 6), .ref (bm + 7), .ref (bm + 8), .ref (bm + 9), .ref (bm + 10), .ref (bm + 11), .ref (bm + 12), .ref (bm + 13), .ref (bm + 14), .ref (bm + 15), .ref (bm + 16), .ref (bm + 17), .ref (bm + 18), .int (z2 (S 20 0)), .ref (bm + 19), .int (z2 (S 22 0))]
/-- where field f's row lies, and how long it is -/
def sO (f : Nat) : Nat := if f = 21 then 19 else f - 1
def sL (f : Nat) : Nat := if f ≤ 4 then 12 else if f ≤ 7 then 24 else if f = 8 then 96 else if f ≤ 17 then 8 else if f ≤ 19 then 2 else 100
def sR (f : Nat) : Prop := (2 ≤ f ∧ f ≤ 19 ∧ f ≠ 4) ∨ f = 21
def PM (D : va_G) (ks : Nat → ClassId) (bm : Nat) (S : Nat → Nat → Int) (H : Heap) : Prop :=
  ca D bm (.inr (5, sF bm S)) H ∧ (∀ f : Nat, sR f → ca D (bm + sO f) (iA (ks 0) (sL f) (fun i => z2 (S f i))) H) ∧ ca D (bm + 3) (jA (ks 1) 12 (fun i => l2 (S 4 i))) H
section PMs
variable {D : va_G} {ks : Nat → ClassId} {bm : Nat} {S : Nat → Nat → Int} {H H1 : Heap}
theorem sO_r {f : Nat} (h : sR f) : 1 ≤ sO f ∧ sO f ≤ 19 ∧ sO f ≠ 3 := by
  unfold sO
  rcases h with h | h
  · rw [if_neg (by omega)]
    omega
  · rw [if_pos h]
    omega
theorem sO_i {f g : Nat} (hf : sR f) (hg : sR g) (h : sO f = sO g) : f = g := by
  unfold sO at h
  rcases hf with hf | hf <;> rcases hg with hg | hg
  · rw [if_neg (by omega), if_neg (by omega)] at h
    omega
  · rw [if_neg (by omega), if_pos hg] at h
    omega
  · rw [if_pos hf, if_neg (by omega)] at h
    omega
  · omega
theorem PM.keep (h : PM D ks bm S H) (hk : ∀ q : Nat, q < H.size → bm ≤ q → q < bm + 20 → H1[q]? = H[q]?) : PM D ks bm S H1 := by
  obtain ⟨p1, p2, p3⟩ := h
  have go : ∀ {a : Nat} {x : va_E}, ca D a x H → bm ≤ a → a < bm + 20 → ca D a x H1 := fun hc h1 h2 => hc.kept (hk _ hc.lt h1 h2)
  exact ⟨go p1 (by omega) (by omega), fun f hf => go (p2 f hf) (by omega) (by have := sO_r hf; omega), go p3 (by omega) (by omega)⟩
theorem PM.row (h : PM D ks bm S H) {f i : Nat} (hf : sR f) {v : Int} (e : ca D (bm + sO f) (iA (ks 0) (sL f) (upd (fun j => z2 (S f j)) i (z2 v))) H1) (oq : ∀ q : Nat, q ≠ bm + sO f → H1[q]? = H[q]?) : PM D ks bm (up S f i v) H1 := by
  obtain ⟨p1, p2, p3⟩ := h
  have ne : ∀ g j : Nat, g ≠ f → up S f i v g j = S g j := fun g j hg => up_f S i j v hg
  have r := sO_r hf
  have f20 : f ≠ 20 ∧ f ≠ 22 ∧ f ≠ 0 ∧ f ≠ 1 ∧ f ≠ 4 := by unfold sR at hf; omega
  refine ⟨?_, fun g hg => ?_, ?_⟩
  · have := p1.kept (oq _ (by omega))
    simpa only [sF, ne 0 _ (by omega), ne 1 _ (by omega), ne 20 _ (by omega), ne 22 _ (by omega)] using this
  · by_cases hgf : g = f
    · subst hgf
      have hs : (fun j => z2 (up S g i v g j)) = upd (fun j => z2 (S g j)) i (z2 v) := by
        funext m
        unfold upd
        by_cases hm : m = i
        · subst hm
          rw [up_s, if_pos rfl]
        · rw [up_i S g g v hm, if_neg hm]
      rw [hs]
      exact e
    · have := (p2 g hg).kept (oq _ (fun q => hgf (sO_i hg hf (by omega))))
      simpa only [ne g _ hgf] using this
  · have := p3.kept (oq _ (by omega))
    simpa only [ne 4 _ (by omega)] using this
theorem PM.tone (h : PM D ks bm S H) {i : Nat} {v : Int} (e : ca D (bm + 3) (jA (ks 1) 12 (vp_updL (fun j => l2 (S 4 j)) i (l2 v))) H1) (oq : ∀ q : Nat, q ≠ bm + 3 → H1[q]? = H[q]?) : PM D ks bm (up S 4 i v) H1 := by
  obtain ⟨p1, p2, p3⟩ := h
  have ne : ∀ g j : Nat, g ≠ 4 → up S 4 i v g j = S g j := fun g j hg => up_f S i j v hg
  refine ⟨?_, fun g hg => ?_, ?_⟩
  · have := p1.kept (oq _ (by omega))
    simpa only [sF, ne 0 _ (by omega), ne 1 _ (by omega), ne 20 _ (by omega), ne 22 _ (by omega)] using this
  · have r := sO_r hg
    have := (p2 g hg).kept (oq _ (by omega))
    simpa only [ne g _ (by unfold sR at hg; omega)] using this
  · have hs : (fun j => l2 (up S 4 i v 4 j)) = vp_updL (fun j => l2 (S 4 j)) i (l2 v) := by
      funext m
      unfold vp_updL
      by_cases hm : m = i
      · subst hm
        rw [up_s, if_pos rfl]
      · rw [up_i S 4 4 v hm, if_neg hm]
    rw [hs]
    exact e
theorem PM.own (h : PM D ks bm S H) {k : Nat} (hk : k = 0 ∨ k = 1 ∨ k = 20 ∨ k = 22) {v : Int} (e : ca D bm (.inr (5, (sF bm S).set k (.int (z2 v)))) H1) (oq : ∀ q : Nat, q ≠ bm → H1[q]? = H[q]?) : PM D ks bm (up S k 0 v) H1 := by
  obtain ⟨p1, p2, p3⟩ := h
  have ne : ∀ g j : Nat, g ≠ k → up S k 0 v g j = S g j := fun g j hg => up_f S 0 j v hg
  refine ⟨?_, fun g hg => ?_, ?_⟩
  · have hs : (sF bm S).set k (.int (z2 v)) = sF bm (up S k 0 v) := by rcases hk with rfl | rfl | rfl | rfl <;> simp [sF, up]
    rw [← hs]
    exact e
  · have r := sO_r hg
    have := (p2 g hg).kept (oq _ (by omega))
    simpa only [ne g _ (by unfold sR at hg; omega)] using this
  · have := p3.kept (oq _ (by omega))
    simpa only [ne 4 _ (by omega)] using this
end PMs
end
section
/-! THE CLASS over integers: what each method does to X, written after its lines. -/
def shS (f t a b : Int) : Int := max 0 (min t b - max f a)
def qS (X : Nat → Nat → Int) (h : Nat) (s e : Int) : Int :=
  if X 15 h ≤ X 16 h then shS (s % 1000) (s % 1000 + e - s) (X 15 h) (X 16 h) else shS (s % 1000) (s % 1000 + e - s) 0 (X 16 h) + shS (s % 1000) (s % 1000 + e - s) (X 15 h) 1000
def rsS (X : Nat → Nat → Int) (h : Nat) : Int := (if X 32 (3 * h + 0) = 0 then 0 else 1) + (if X 32 (3 * h + 1) = 0 then 0 else 2) + (if X 32 (3 * h + 2) = 0 then 0 else 4)
def rlS (X : Nat → Nat → Int) (h : Nat) : Int := (if X 32 (3 * h + 0) = 0 then 0 else X 31 (3 * h + 0)) + (if X 32 (3 * h + 1) = 0 then 0 else X 31 (3 * h + 1)) + (if X 32 (3 * h + 2) = 0 then 0 else X 31 (3 * h + 2))
def mrS (X : Nat → Nat → Int) (h k : Nat) : Int := if X 36 k = h ∨ 0 < X 23 (12 * h + k) then 1 else 0
def urS (X : Nat → Nat → Int) (h k : Nat) : Nat → Nat → Int := if X 36 k = h then X else up X 23 (12 * h + k) (X 23 (12 * h + k) - 1)
def ruS (X : Nat → Nat → Int) (i : Nat) (e : Int) : Nat → Nat → Int := up (up X 32 i 1) 33 i e
/-- startBells: the first k bells -/
def sbX (X : Nat → Nat → Int) (h : Nat) (t : Int) : Nat → Nat → Nat → Int
  | 0 => X
  | k + 1 => if 0 ≤ X 30 (3 * h + k) ∧ X 32 (3 * h + k) = 0 then ruS (sbX X h t k) (3 * h + k) (t + 2 * X 37 (X 30 (3 * h + k)).toNat) else sbX X h t k
def sbN (X : Nat → Nat → Int) (h : Nat) : Nat → Int
  | 0 => 0
  | k + 1 => if 0 ≤ X 30 (3 * h + k) ∧ X 32 (3 * h + k) = 0 then sbN X h k + 1 else sbN X h k
def bdS (X : Nat → Nat → Int) (h : Nat) : Nat → Nat → Int := up (up (up (up X 14 h 0) 32 (3 * h + 0) 0) 32 (3 * h + 1) 0) 32 (3 * h + 2) 0
def fsS (X : Nat → Nat → Int) (h : Nat) (l : Int) : Nat → Int
  | 0 => l
  | k + 1 => if X 32 (3 * h + k) ≠ 0 ∧ X 33 (3 * h + k) < fsS X h l k then X 33 (3 * h + k) else fsS X h l k
def seS (X : Nat → Nat → Int) (h : Nat) (t : Int) : Nat → Nat → Nat → Int
  | 0 => X
  | k + 1 => if X 33 (3 * h + k) ≤ t then up (seS X h t k) 32 (3 * h + k) 0 else seS X h t k
def spS (X : Nat → Nat → Int) (h : Nat) (s e : Int) : Nat → Nat → Int :=
  if rsS X h = 0 then X else
    if 0 < qS X h s e then up (up (up X 18 h (X 18 h + (e - s))) 19 h (X 19 h + qS X h s e)) 22 h 0 else up (up X 18 h (X 18 h + (e - s))) 19 h (X 19 h + qS X h s e)
def cdS (X : Nat → Nat → Int) (h : Nat) : Nat → Nat → Int :=
  if X 22 h = 0 then up (up (up X 17 h (X 17 h - 3 * X 21 h)) 22 h 1) 21 h 0 else up (up (up (up X 17 h (X 17 h + 1)) 17 h (X 17 h + 1 - 3 * X 21 h)) 22 h 1) 21 h 0
def fiS (X : Nat → Nat → Int) (s : Nat) (t : Int) : Nat → Nat → Int :=
  if 0 ≤ X 34 s ∧ X 35 s ≤ t then up (up X 14 (X 34 s).toNat 1) 34 s (-1) else X
/-- nextChange: the first k houses, the first k crews -/
def ncH (X : Nat → Nat → Int) (n : Int) : Nat → Int
  | 0 => n
  | k + 1 => min (ncH X n k) (fsS X k (ncH X n k) 3)
def ncC (X : Nat → Nat → Int) (n : Int) : Nat → Int
  | 0 => n
  | k + 1 => if 0 ≤ X 34 k then min (ncC X n k) (X 35 k) else ncC X n k
def ncS (X : Nat → Nat → Int) (e : Int) : Int := ncC X (ncH X (min e (X 6 0 - X 6 0 % 1000 + 1000)) 8) 2
/-- passStretch, loop by loop -/
def pa1 (X : Nat → Nat → Int) (u : Int) : Nat → Nat → Nat → Int
  | 0 => X
  | k + 1 => spS (pa1 X u k) k (pa1 X u k 6 0) u
def pa2 (X : Nat → Nat → Int) : Nat → Nat → Nat → Int
  | 0 => X
  | k + 1 => seS (pa2 X k) k (pa2 X k 6 0) 3
def pa3 (X : Nat → Nat → Int) : Nat → Nat → Nat → Int
  | 0 => X
  | k + 1 => fiS (pa3 X k) k (pa3 X k 6 0)
def pa4 (X : Nat → Nat → Int) : Nat → Nat → Nat → Int
  | 0 => X
  | k + 1 => cdS (pa4 X k) k
def psA (X : Nat → Nat → Int) (u : Int) : Nat → Nat → Int := up (pa1 X u 8) 6 0 u
def psB (X : Nat → Nat → Int) (u : Int) : Nat → Nat → Int := pa3 (pa2 (psA X u) 8) 2
def psS (X : Nat → Nat → Int) (u : Int) : Nat → Nat → Int := if psB X u 6 0 % 1000 = 0 then pa4 (psB X u) 8 else psB X u
/-- pass: the first k stretches up to e -/
def paX (X : Nat → Nat → Int) (e : Int) : Nat → Nat → Nat → Int
  | 0 => X
  | k + 1 => if paX X e k 6 0 < e then psS (paX X e k) (ncS (paX X e k) e) else paX X e k
/-- press -/
def prV (X : Nat → Nat → Int) (h b k : Nat) : Int :=
  if X 14 h = 0 ∨ X 32 (3 * h + b) ≠ 0 then 0 else if 0 < qS X h (X 6 0) (X 6 0 + 1) then 2 else if mrS X h k = 0 then 0 else if 10 < rlS X h + X 31 (3 * h + b) then 3 else 1
def prX (X : Nat → Nat → Int) (h b k : Nat) : Nat → Nat → Int :=
  if X 14 h = 0 ∨ X 32 (3 * h + b) ≠ 0 then X else if 0 < qS X h (X 6 0) (X 6 0 + 1) then up X 20 h (X 20 h + 1) else if mrS X h k = 0 then X else if 10 < rlS X h + X 31 (3 * h + b) then bdS X h else ruS (urS X h k) (3 * h + b) (urS X h k 6 0 + 2 * urS X h k 37 k)
/-- fault: the first k houses -/
def faX (X : Nat → Nat → Int) (h : Nat) : Nat → Nat → Nat → Int
  | 0 => X
  | k + 1 => if k ≠ h ∧ k / 4 = h / 4 ∧ faX X h k 14 k ≠ 0 then sbX (faX X h k) k (faX X h k 6 0) 3 else faX X h k
def faN (X : Nat → Nat → Int) (h : Nat) : Nat → Int
  | 0 => 0
  | k + 1 => if k ≠ h ∧ k / 4 = h / 4 ∧ faX X h k 14 k ≠ 0 then faN X h k + sbN (faX X h k) k 3 else faN X h k
/-! what holds of X at every call: vc: which fields are ever compared, vlo, vhi: where they lie -/
def vc (f : Nat) : Bool := match f with
  | 7 => false | 17 => false | 18 => false | 19 => false | 20 => false | 21 => false | 38 => false | _ => true
def vlo (f : Nat) : Int := match f with
  | 30 => -1 | 31 => 1 | 34 => -1 | 37 => 1 | _ => 0
def vhi (f : Nat) : Int := match f with
  | 4 => 12 | 5 => 100 | 6 => 1000000 | 14 => 1 | 15 => 999 | 16 => 999 | 22 => 1 | 23 => 1000 | 30 => 11 | 31 => 9 | 32 => 1 | 33 => 1000024 | 34 => 7 | 35 => 1000050 | 36 => 7 | 37 => 12 | _ => 0
def VX (X : Nat → Nat → Int) : Prop := (∀ f i : Nat, vc f = true → vlo f ≤ X f i ∧ X f i ≤ vhi f) ∧ (∀ i : Nat, X 30 i < X 4 0) ∧ ∀ k : Nat, 0 ≤ X 38 k ∧ X 38 k < 16 ^ (X 37 k).toNat
theorem vx_up {X : Nat → Nat → Int} (h : VX X) {f i : Nat} {v : Int} (hf : f ≠ 4 ∧ f ≠ 30 ∧ f ≠ 37 ∧ f ≠ 38) (hv : vc f = true → vlo f ≤ v ∧ v ≤ vhi f) : VX (up X f i v) := by
  refine ⟨fun g j hg => ?_, fun j => ?_, fun k => ?_⟩
  · by_cases hq : g = f ∧ j = i
    · obtain ⟨rfl, rfl⟩ := hq
      rw [up_s]
      exact hv hg
    · have e : up X f i v g j = X g j := if_neg hq
      rw [e]
      exact h.1 g j hg
  · rw [up_f X i j v (Ne.symm hf.2.1), up_f X i 0 v (Ne.symm hf.1)]
    exact h.2.1 j
  · rw [up_f X i k v (Ne.symm hf.2.2.2), up_f X i k v (Ne.symm hf.2.2.1)]
    exact h.2.2 k
/-- a field that is never compared -/
theorem vx_uf {X : Nat → Nat → Int} (h : VX X) {f i : Nat} {v : Int} (hf : vc f = false ∧ f ≠ 38) : VX (up X f i v) := vx_up h ⟨fun q => by rw [q] at hf; exact absurd hf.1 (by decide), fun q => by rw [q] at hf; exact absurd hf.1 (by decide), fun q => by rw [q] at hf; exact absurd hf.1 (by decide), hf.2⟩ (fun q => by rw [hf.1] at q; cases q)
/-- a bell's melody -/
theorem vx_u30 {X : Nat → Nat → Int} (h : VX X) {i : Nat} {v : Int} (hv : -1 ≤ v ∧ v < X 4 0) : VX (up X 30 i v) := by
  have b4 : 0 ≤ X 4 0 ∧ X 4 0 ≤ 12 := h.1 4 0 rfl
  refine ⟨fun g j hg => ?_, fun j => ?_, fun k => ?_⟩
  · by_cases hq : g = 30 ∧ j = i
    · obtain ⟨rfl, rfl⟩ := hq
      rw [up_s]
      show -1 ≤ v ∧ v ≤ 11
      omega
    · have e : up X 30 i v g j = X g j := if_neg hq
      rw [e]
      exact h.1 g j hg
  · rw [up_f X i 0 v (by decide)]
    by_cases hq : j = i
    · rw [hq, up_s]
      exact hv.2
    · rw [up_i X 30 30 v hq]
      exact h.2.1 j
  · rw [up_f X i k v (by decide), up_f X i k v (by decide)]
    exact h.2.2 k
theorem vx_sp {X : Nat → Nat → Int} (h : VX X) (hh : Nat) (s e : Int) : VX (spS X hh s e) := by
  unfold spS
  split
  · exact h
  · have h2 := vx_uf (f := 19) (i := hh) (v := X 19 hh + qS X hh s e) (vx_uf (f := 18) (i := hh) (v := X 18 hh + (e - s)) h ⟨rfl, by decide⟩) ⟨rfl, by decide⟩
    split
    · exact vx_up h2 (by decide) (fun _ => by decide)
    · exact h2
theorem vx_ru {X : Nat → Nat → Int} (h : VX X) {i : Nat} {e : Int} (he : 0 ≤ e ∧ e ≤ 1000024) : VX (ruS X i e) := vx_up (f := 33) (vx_up (f := 32) h (by decide) (fun _ => by decide)) (by decide) (fun _ => he)
theorem sbX_f (X : Nat → Nat → Int) (h : Nat) (t : Int) {f : Nat} (hf : f ≠ 32 ∧ f ≠ 33) (j : Nat) : ∀ k : Nat, sbX X h t k f j = X f j := by
  intro k
  induction k with
  | zero => rfl
  | succ k ih =>
    unfold sbX
    split
    · unfold ruS
      rw [up_f _ _ _ _ hf.2, up_f _ _ _ _ hf.1]
      exact ih
    · exact ih
theorem sbX_i (X : Nat → Nat → Int) (h : Nat) (t : Int) (f j : Nat) : ∀ k : Nat, (j < 3 * h ∨ 3 * h + k ≤ j) → sbX X h t k f j = X f j := by
  intro k
  induction k with
  | zero => intro _; rfl
  | succ k ih =>
    intro hj
    unfold sbX
    split
    · unfold ruS
      rw [up_i _ _ _ _ (by omega), up_i _ _ _ _ (by omega)]
      exact ih (by omega)
    · exact ih (by omega)
theorem vx_sb {X : Nat → Nat → Int} (hV : VX X) {h : Nat} {t : Int} (ht : 0 ≤ t ∧ t ≤ 1000000) : ∀ k : Nat, VX (sbX X h t k) := by
  intro k
  induction k with
  | zero => exact hV
  | succ k ih =>
    unfold sbX
    split
    · have b : 1 ≤ X 37 (X 30 (3 * h + k)).toNat ∧ X 37 (X 30 (3 * h + k)).toNat ≤ 12 := hV.1 37 _ rfl
      exact vx_ru ih (by omega)
    · exact ih
theorem seS_f (X : Nat → Nat → Int) (h : Nat) (t : Int) {f : Nat} (hf : f ≠ 32) (j : Nat) : ∀ k : Nat, seS X h t k f j = X f j := by
  intro k
  induction k with
  | zero => rfl
  | succ k ih =>
    unfold seS
    split
    · rw [up_f _ _ _ _ hf]
      exact ih
    · exact ih
theorem vx_se {X : Nat → Nat → Int} (hV : VX X) (h : Nat) (t : Int) : ∀ k : Nat, VX (seS X h t k) := by
  intro k
  induction k with
  | zero => exact hV
  | succ k ih =>
    unfold seS
    split
    · exact vx_up ih (by decide) (fun _ => by decide)
    · exact ih
theorem vx_fi {X : Nat → Nat → Int} (hV : VX X) (s : Nat) (t : Int) : VX (fiS X s t) := by
  unfold fiS
  split
  · exact vx_up (f := 34) (vx_up (f := 14) hV (by decide) (fun _ => by decide)) (by decide) (fun _ => by decide)
  · exact hV
theorem vx_cd {X : Nat → Nat → Int} (hV : VX X) (h : Nat) : VX (cdS X h) := by
  unfold cdS
  split
  · exact vx_uf (f := 21) (vx_up (f := 22) (vx_uf (f := 17) hV ⟨rfl, by decide⟩) (by decide) (fun _ => by decide)) ⟨rfl, by decide⟩
  · exact vx_uf (f := 21) (vx_up (f := 22) (vx_uf (f := 17) (vx_uf (f := 17) hV ⟨rfl, by decide⟩) ⟨rfl, by decide⟩) (by decide) (fun _ => by decide)) ⟨rfl, by decide⟩
theorem vx_p1 {X : Nat → Nat → Int} (hV : VX X) (u : Int) : ∀ k : Nat, VX (pa1 X u k) := by
  intro k
  induction k with
  | zero => exact hV
  | succ k ih => exact vx_sp ih _ _ _
theorem vx_p2 {X : Nat → Nat → Int} (hV : VX X) : ∀ k : Nat, VX (pa2 X k) := by
  intro k
  induction k with
  | zero => exact hV
  | succ k ih => exact vx_se ih _ _ _
theorem vx_p3 {X : Nat → Nat → Int} (hV : VX X) : ∀ k : Nat, VX (pa3 X k) := by
  intro k
  induction k with
  | zero => exact hV
  | succ k ih => exact vx_fi ih _ _
theorem vx_p4 {X : Nat → Nat → Int} (hV : VX X) : ∀ k : Nat, VX (pa4 X k) := by
  intro k
  induction k with
  | zero => exact hV
  | succ k ih => exact vx_cd ih _
theorem vx_psA {X : Nat → Nat → Int} (hV : VX X) {u : Int} (hu : 0 ≤ u ∧ u ≤ 1000000) : VX (psA X u) := vx_up (vx_p1 hV u 8) (by decide) (fun _ => hu)
theorem vx_ps {X : Nat → Nat → Int} (hV : VX X) {u : Int} (hu : 0 ≤ u ∧ u ≤ 1000000) : VX (psS X u) := by
  have h3 : VX (psB X u) := vx_p3 (vx_p2 (vx_psA hV hu) 8) 2
  unfold psS
  split
  · exact vx_p4 h3 8
  · exact h3
theorem vx_bd {X : Nat → Nat → Int} (hV : VX X) (h : Nat) : VX (bdS X h) := vx_up (f := 32) (vx_up (f := 32) (vx_up (f := 32) (vx_up (f := 14) hV (by decide) (fun _ => by decide)) (by decide) (fun _ => by decide)) (by decide) (fun _ => by decide)) (by decide) (fun _ => by decide)
theorem vx_ur {X : Nat → Nat → Int} (hV : VX X) {h k : Nat} (hr : X 36 k = h ∨ 0 < X 23 (12 * h + k)) : VX (urS X h k) := by
  unfold urS
  split
  · exact hV
  · have b : 0 ≤ X 23 (12 * h + k) ∧ X 23 (12 * h + k) ≤ 1000 := hV.1 23 _ rfl
    exact vx_up hV (by decide) (fun _ => by show 0 ≤ _ ∧ _ ≤ (1000 : Int); omega)
theorem fs_le (X : Nat → Nat → Int) (h : Nat) (l : Int) : ∀ k : Nat, fsS X h l k ≤ l := by
  intro k
  induction k with
  | zero => exact Int.le_refl _
  | succ k ih =>
    unfold fsS
    split <;> omega
theorem fs_ge {X : Nat → Nat → Int} (hV : VX X) (h : Nat) {l : Int} (hl : 0 ≤ l) : ∀ k : Nat, 0 ≤ fsS X h l k := by
  intro k
  induction k with
  | zero => exact hl
  | succ k ih =>
    have b : 0 ≤ X 33 (3 * h + k) ∧ X 33 (3 * h + k) ≤ 1000024 := hV.1 33 _ rfl
    unfold fsS
    split <;> omega
theorem nh_le (X : Nat → Nat → Int) (n : Int) : ∀ k : Nat, ncH X n k ≤ n := by
  intro k
  induction k with
  | zero => exact Int.le_refl _
  | succ k ih =>
    unfold ncH
    omega
theorem nh_ge {X : Nat → Nat → Int} (hV : VX X) {n : Int} (hn : 0 ≤ n) : ∀ k : Nat, 0 ≤ ncH X n k := by
  intro k
  induction k with
  | zero => exact hn
  | succ k ih =>
    have := fs_ge hV k ih 3
    unfold ncH
    omega
theorem nc_le (X : Nat → Nat → Int) (n : Int) : ∀ k : Nat, ncC X n k ≤ n := by
  intro k
  induction k with
  | zero => exact Int.le_refl _
  | succ k ih =>
    unfold ncC
    split <;> omega
theorem nc_ge {X : Nat → Nat → Int} (hV : VX X) {n : Int} (hn : 0 ≤ n) : ∀ k : Nat, 0 ≤ ncC X n k := by
  intro k
  induction k with
  | zero => exact hn
  | succ k ih =>
    have b : 0 ≤ X 35 k ∧ X 35 k ≤ 1000050 := hV.1 35 _ rfl
    unfold ncC
    split <;> omega
theorem ncS_b {X : Nat → Nat → Int} (hV : VX X) {e : Int} (he : 0 ≤ e ∧ e ≤ 1000000) : 0 ≤ ncS X e ∧ ncS X e ≤ 1000000 := by
  have b : 0 ≤ X 6 0 ∧ X 6 0 ≤ 1000000 := hV.1 6 0 rfl
  have h0 : 0 ≤ min e (X 6 0 - X 6 0 % 1000 + 1000) := by omega
  have h1 := nh_ge hV h0 8
  have h2 := nc_ge hV h1 2
  have h3 := nh_le X (min e (X 6 0 - X 6 0 % 1000 + 1000)) 8
  have h4 := nc_le X (ncH X (min e (X 6 0 - X 6 0 % 1000 + 1000)) 8) 2
  unfold ncS
  omega
theorem vx_pa {X : Nat → Nat → Int} (hV : VX X) {e : Int} (he : 0 ≤ e ∧ e ≤ 1000000) : ∀ k : Nat, VX (paX X e k) := by
  intro k
  induction k with
  | zero => exact hV
  | succ k ih =>
    unfold paX
    split
    · exact vx_ps ih (ncS_b ih he)
    · exact ih
theorem urS_f (X : Nat → Nat → Int) (h k : Nat) {f : Nat} {j : Nat} (hf : f ≠ 23) : urS X h k f j = X f j := by
  unfold urS
  split
  · rfl
  · exact up_f X _ _ _ hf
theorem mr_of {X : Nat → Nat → Int} {h k : Nat} (q : mrS X h k ≠ 0) : X 36 k = h ∨ 0 < X 23 (12 * h + k) := by
  unfold mrS at q
  split at q
  · assumption
  · exact absurd rfl q
theorem vx_fa {X : Nat → Nat → Int} (hV : VX X) (h : Nat) : ∀ k : Nat, VX (faX X h k) := by
  intro k
  induction k with
  | zero => exact hV
  | succ k ih =>
    have b : 0 ≤ faX X h k 6 0 ∧ faX X h k 6 0 ≤ 1000000 := ih.1 6 0 rfl
    unfold faX
    split
    · exact vx_sb ih b 3
    · exact ih
theorem sbN_b (X : Nat → Nat → Int) (h : Nat) : ∀ k : Nat, 0 ≤ sbN X h k ∧ sbN X h k ≤ k := by
  intro k
  induction k with
  | zero => exact ⟨Int.le_refl _, Int.le_refl _⟩
  | succ k ih =>
    unfold sbN
    split <;> omega
theorem faN_b (X : Nat → Nat → Int) (h : Nat) : ∀ k : Nat, 0 ≤ faN X h k ∧ faN X h k ≤ 3 * k := by
  intro k
  induction k with
  | zero => exact ⟨Int.le_refl _, Int.le_refl _⟩
  | succ k ih =>
    have b := sbN_b (faX X h k) k 3
    unfold faN
    split <;> omega
/-- what a throw may do: new cells only -/
def TX (H H1 : Heap) : Prop := H.size ≤ H1.size ∧ ∀ q : Nat, q < H.size → H1[q]? = H[q]?
def RX (bx : Nat) : Nat → Prop := fun q => bx ≤ q ∧ q < bx + 55
def RM (bm : Nat) : Nat → Prop := fun q => bm ≤ q ∧ q < bm + 20
theorem rx_ge {bx : Nat} : ∀ q, RX bx q → bx ≤ q := fun _ h => h.1
end
section
/-! THE CLASS, module House (and Bell.ringUntil, Melody.lasts): contracts. -/
theorem shS_b (f t a b : Int) : 0 ≤ shS f t a b ∧ shS f t a b ≤ max 0 (b - a) := by
  unfold shS
  omega
theorem qS_b {X : Nat → Nat → Int} (hV : VX X) (h : Nat) (s e : Int) : 0 ≤ qS X h s e ∧ qS X h s e ≤ 2000 := by
  have b15 : 0 ≤ X 15 h ∧ X 15 h ≤ 999 := hV.1 15 _ rfl
  have b16 : 0 ≤ X 16 h ∧ X 16 h ≤ 999 := hV.1 16 _ rfl
  unfold qS
  split
  · have h1 := shS_b (s % 1000) (s % 1000 + e - s) (X 15 h) (X 16 h)
    omega
  · have h1 := shS_b (s % 1000) (s % 1000 + e - s) 0 (X 16 h)
    have h2 := shS_b (s % 1000) (s % 1000 + e - s) (X 15 h) 1000
    omega
theorem mrS_b (X : Nat → Nat → Int) (h k : Nat) : 0 ≤ mrS X h k ∧ mrS X h k ≤ 1 := by
  unfold mrS
  split <;> omega
theorem rsS_b (X : Nat → Nat → Int) (h : Nat) : 0 ≤ rsS X h ∧ rsS X h ≤ 7 := by
  unfold rsS
  (repeat' split) <;> omega
theorem rlS_b {X : Nat → Nat → Int} (hV : VX X) (h : Nat) : 0 ≤ rlS X h ∧ rlS X h ≤ 27 := by
  have b0 : 1 ≤ X 31 (3 * h + 0) ∧ X 31 (3 * h + 0) ≤ 9 := hV.1 31 _ rfl
  have b1 : 1 ≤ X 31 (3 * h + 1) ∧ X 31 (3 * h + 1) ≤ 9 := hV.1 31 _ rfl
  have b2 : 1 ≤ X 31 (3 * h + 2) ∧ X 31 (3 * h + 2) ≤ 9 := hV.1 31 _ rfl
  unfold rlS
  (repeat' split) <;> omega
set_option maxHeartbeats 4000000 in
set_option maxRecDepth 100000 in
theorem k_shared (l : Launch) (D : va_G) (ks : Nat → ClassId) (bx : Nat) (H : Heap) (f t a b : Int) (hr : (0 ≤ f ∧ f ≤ 1000000) ∧ (-2000000 ≤ t ∧ t ≤ 3000000) ∧ (0 ≤ a ∧ a ≤ 1000) ∧ 0 ≤ b ∧ b ≤ 1000) : KM l yX2_shared wsX2_shared ({ frames := 1, cells := 0, slots := 0, locals := 24 } : Room) D ks bx [.int (z2 f), .int (z2 t), .int (z2 a), .int (z2 b)] H (RX bx) (fun v H1 => v = some (.int (z2 (shS f t a b))) ∧ H1 = H) (fun _ _ => False) := by
  refine KM.of (cc := cX2_shared) (maxL := 4) (ret := (some .int)) (by decide) rfl (Nat.le_of_ble_eq_true rfl) ?_
  intro p e s m below meth c hx hb hml hr hlocks hown hname hts hext hH0 hG ls hl
  subst hH0
  have hown : s.vm.findClass RX2 = some m.cls := hown
  have hS : va_S (AR (RX bx) s.heap.size) s.heap s.heap [] := va_S.rf
  have hl : lv_has ls 4 [(0, .int (z2 (f))), (1, .int (z2 (t))), (2, .int (z2 (a))), (3, .int (z2 (b)))] := hl
  refine b_iconst hx hb dX2_shared_0 ?_
  refine lv_iload_n hx hb dX2_shared_1 rfl (lv_at hl 1 rfl) ?_
  refine lv_iload_n hx hb dX2_shared_2 rfl (lv_at hl 3 rfl) ?_
  refine b_min hx hb (hml.trans hl.1.symm) (own := RX2) (index := 65) hown (hts _ (by decide +kernel)) (hts _ (by decide +kernel)) (hts _ (by decide +kernel)) (hts _ (by decide +kernel)) ⟨Nat.le_of_ble_eq_true rfl, Nat.le_of_ble_eq_true rfl, Nat.le_of_ble_eq_true rfl, Nat.le_of_ble_eq_true rfl⟩ ⟨⟨by omega, by omega⟩, ⟨by omega, by omega⟩⟩ dX2_shared_3 ?_
  refine lv_iload_n hx hb dX2_shared_6 rfl (lv_at hl 0 rfl) ?_
  refine lv_iload_n hx hb dX2_shared_7 rfl (lv_at hl 2 rfl) ?_
  refine b_max hx hb (hml.trans hl.1.symm) (own := RX2) (index := 70) hown (hts _ (by decide +kernel)) (hts _ (by decide +kernel)) (hts _ (by decide +kernel)) (hts _ (by decide +kernel)) ⟨Nat.le_of_ble_eq_true rfl, Nat.le_of_ble_eq_true rfl, Nat.le_of_ble_eq_true rfl, Nat.le_of_ble_eq_true rfl⟩ ⟨⟨by omega, by omega⟩, ⟨by omega, by omega⟩⟩ dX2_shared_8 ?_
  refine b_isub hx hb dX2_shared_11 ?_
  refine b_max hx hb (hml.trans hl.1.symm) (own := RX2) (index := 70) hown (hts _ (by decide +kernel)) (hts _ (by decide +kernel)) (hts _ (by decide +kernel)) (hts _ (by decide +kernel)) ⟨Nat.le_of_ble_eq_true rfl, Nat.le_of_ble_eq_true rfl, Nat.le_of_ble_eq_true rfl, Nat.le_of_ble_eq_true rfl⟩ ⟨⟨by omega, by omega⟩, ⟨by omega, by omega⟩⟩ dX2_shared_12 ?_
  exact g_iret hx hb hr hlocks hS ⟨Nat.le_of_ble_eq_true rfl, Nat.le_of_ble_eq_true rfl⟩ (⟨rfl, rfl⟩) dX2_shared_15
set_option maxHeartbeats 4000000 in
set_option maxRecDepth 100000 in
theorem k_quietSeconds (l : Launch) (D : va_G) (ks : Nat → ClassId) (bx : Nat) (ml : Nat → Nat) (X : Nat → Nat → Int) (H : Heap) (hP : PX D ks bx ml X H) (hV : VX X) {n : Nat} (hn : n < 8) (u v2 : Int) (hr : (0 ≤ u ∧ u ≤ 1000000) ∧ 0 ≤ v2 ∧ v2 ≤ 1000001) : KM l yX2_quietSeconds wsX2_quietSeconds ({ frames := 2, cells := 0, slots := 0, locals := 47 } : Room) D ks bx [.ref (bx + 5 + 6 * n), .int (z2 u), .int (z2 v2)] H (RX bx) (fun v H1 => v = some (.int (z2 (qS X n u v2))) ∧ H1 = H) (fun _ _ => False) := by
  refine KM.of (cc := cX2_quietSeconds) (maxL := 5) (ret := (some .int)) (by decide) rfl (Nat.le_of_ble_eq_true rfl) ?_
  intro p e s m below meth c hx hb hml hr hlocks hown hname hts hext hH0 hG ls hl
  subst hH0
  have hown : s.vm.findClass RX2 = some m.cls := hown
  have hS : va_S (AR (RX bx) s.heap.size) s.heap s.heap [] := va_S.rf
  have hl : lv_has ls 5 [(0, .ref (bx + 5 + 6 * n)), (1, .int (z2 (u))), (2, .int (z2 (v2)))] := hl
  have inX2 : ∀ w ∈ wsX20, w ∈ wsX2_quietSeconds := by decide +kernel
  refine lv_iload_n hx hb dX2_quietSeconds_0 rfl (lv_at hl 1 rfl) ?_
  refine b_sipush hx hb dX2_quietSeconds_1 (by decide +kernel) ?_
  refine b_irem hx hb ⟨⟨by omega, by omega⟩, by decide, by decide⟩ dX2_quietSeconds_4 ?_
  refine lv_istore_n (lv' := [(3, .int (z2 (u % 1000))), (0, .ref (bx + 5 + 6 * n)), (1, .int (z2 (u))), (2, .int (z2 (v2)))]) hx hb dX2_quietSeconds_5 rfl hl (by decide) rfl (fun ls hl => ?_)
  refine lv_iload_n hx hb dX2_quietSeconds_6 rfl (lv_at hl 0 rfl) ?_
  refine lv_iload_n hx hb dX2_quietSeconds_7 rfl (lv_at hl 3 rfl) ?_
  refine b_iadd hx hb dX2_quietSeconds_8 ?_
  refine lv_iload_n hx hb dX2_quietSeconds_9 rfl (lv_at hl 2 rfl) ?_
  refine b_isub hx hb dX2_quietSeconds_10 ?_
  refine lv_istore (lv' := [(4, .int (z2 (((u % 1000) + v2) - u))), (3, .int (z2 (u % 1000))), (0, .ref (bx + 5 + 6 * n)), (1, .int (z2 (u))), (2, .int (z2 (v2)))]) hx hb dX2_quietSeconds_11 hl (by decide) rfl (fun ls hl => ?_)
  refine lv_aload_n hx hb dX2_quietSeconds_13 rfl (lv_at hl 2 rfl) ?_
  have b_14 : 0 ≤ X 15 n ∧ X 15 n ≤ 999 := hV.1 15 _ rfl
  refine g_get (C := RX2) (T := TX2) (N := 13) hx hb hts inX2 hown hG (hP.hs hn) rfl 5 (by decide) (by decide +kernel) rfl (v := .int (z2 (X 15 n))) rfl dX2_quietSeconds_14 ?_
  refine lv_aload_n hx hb dX2_quietSeconds_17 rfl (lv_at hl 2 rfl) ?_
  have b_18 : 0 ≤ X 16 n ∧ X 16 n ≤ 999 := hV.1 16 _ rfl
  refine g_get (C := RX2) (T := TX2) (N := 13) hx hb hts inX2 hown hG (hP.hs hn) rfl 6 (by decide) (by decide +kernel) rfl (v := .int (z2 (X 16 n))) rfl dX2_quietSeconds_18 ?_
  refine b_icmp_gt (tgt := 39) hx hb dX2_quietSeconds_21 (by decide) ⟨⟨by omega, by omega⟩, ⟨by omega, by omega⟩⟩ (fun c_21 => ?_) (fun c_21 => ?_)
  · skip
    refine lv_iload_n hx hb dX2_quietSeconds_39 rfl (lv_at hl 1 rfl) ?_
    refine lv_iload hx hb dX2_quietSeconds_40 (lv_at hl 0 rfl) ?_
    refine b_iconst hx hb dX2_quietSeconds_42 ?_
    refine lv_aload_n hx hb dX2_quietSeconds_43 rfl (lv_at hl 2 rfl) ?_
    have b_44 : 0 ≤ X 16 n ∧ X 16 n ≤ 999 := hV.1 16 _ rfl
    refine g_get (C := RX2) (T := TX2) (N := 13) hx hb hts inX2 hown hG (hP.hs hn) rfl 6 (by decide) (by decide +kernel) rfl (v := .int (z2 (X 16 n))) rfl dX2_quietSeconds_44 ?_
    refine g_run (vx_runS (As := [.int (z2 (u % 1000)), .int (z2 (((u % 1000) + v2) - u)), .int (z2 (0)), .int (z2 (X 16 n))]) (rest := []) ⟨hx, hb, hml, hown, hts⟩ (k_shared l D ks bx _ (u % 1000) (((u % 1000) + v2) - u) (0) (X 16 n) ⟨⟨by omega, by omega⟩, ⟨by omega, by omega⟩, ⟨by omega, by omega⟩, by omega, by omega⟩) (cwS 4 hts gX2_quietSeconds_X2_shared rfl rfl rfl (by decide +kernel) ⟨Nat.le_of_ble_eq_true rfl, Nat.le_of_ble_eq_true rfl⟩) (g_preS hG hS rx_ge) rfl rfl hl.1 rfl (lv_room (Nat.le_of_ble_eq_true rfl)) dX2_quietSeconds_47 ⟨Nat.le_of_ble_eq_true rfl, Nat.le_of_ble_eq_true rfl⟩) hS (fun _ h => h) (fun _ _ _ _ _ h => h.elim) (fun v H1 locs hp hz9 hk9 hS => ?_)
    obtain ⟨rfl, rfl⟩ := hp
    have sb_47 := shS_b (u % 1000) (((u % 1000) + v2) - u) (0) (X 16 n)
    refine W.eq (g2 := F0 m 50 ls [.int (z2 (shS (u % 1000) (((u % 1000) + v2) - u) (0) (X 16 n)))]) rfl ?_
    refine lv_iload_n hx hb dX2_quietSeconds_50 rfl (lv_at hl 1 rfl) ?_
    refine lv_iload hx hb dX2_quietSeconds_51 (lv_at hl 0 rfl) ?_
    refine lv_aload_n hx hb dX2_quietSeconds_53 rfl (lv_at hl 2 rfl) ?_
    have b_54 : 0 ≤ X 15 n ∧ X 15 n ≤ 999 := hV.1 15 _ rfl
    refine g_get (C := RX2) (T := TX2) (N := 13) hx hb hts inX2 hown hG (hP.hs hn) rfl 5 (by decide) (by decide +kernel) rfl (v := .int (z2 (X 15 n))) rfl dX2_quietSeconds_54 ?_
    refine b_sipush hx hb dX2_quietSeconds_57 (by decide +kernel) ?_
    refine g_run (vx_runS (As := [.int (z2 (u % 1000)), .int (z2 (((u % 1000) + v2) - u)), .int (z2 (X 15 n)), .int (z2 (1000))]) (rest := [.int (z2 (shS (u % 1000) (((u % 1000) + v2) - u) (0) (X 16 n)))]) ⟨hx, hb, hml, hown, hts⟩ (k_shared l D ks bx _ (u % 1000) (((u % 1000) + v2) - u) (X 15 n) (1000) ⟨⟨by omega, by omega⟩, ⟨by omega, by omega⟩, ⟨by omega, by omega⟩, by omega, by omega⟩) (cwS 4 hts gX2_quietSeconds_X2_shared rfl rfl rfl (by decide +kernel) ⟨Nat.le_of_ble_eq_true rfl, Nat.le_of_ble_eq_true rfl⟩) (g_preS hG hS rx_ge) rfl rfl hl.1 rfl (lv_room (Nat.le_of_ble_eq_true rfl)) dX2_quietSeconds_60 ⟨Nat.le_of_ble_eq_true rfl, Nat.le_of_ble_eq_true rfl⟩) hS (fun _ h => h) (fun _ _ _ _ _ h => h.elim) (fun v H1 locs hp hz9 hk9 hS => ?_)
    obtain ⟨rfl, rfl⟩ := hp
    have sb_60 := shS_b (u % 1000) (((u % 1000) + v2) - u) (X 15 n) (1000)
    refine W.eq (g2 := F0 m 63 ls [.int (z2 (shS (u % 1000) (((u % 1000) + v2) - u) (X 15 n) (1000))), .int (z2 (shS (u % 1000) (((u % 1000) + v2) - u) (0) (X 16 n)))]) rfl ?_
    refine b_iadd hx hb dX2_quietSeconds_63 ?_
    exact g_iret hx hb hr hlocks hS ⟨Nat.le_of_ble_eq_true rfl, Nat.le_of_ble_eq_true rfl⟩ (⟨congrArg (fun z => some (Value.int (z2 z))) (by unfold qS; first | rw [if_pos (by omega)] | rw [if_neg (by omega)]), rfl⟩) dX2_quietSeconds_64
  · skip
    refine lv_iload_n hx hb dX2_quietSeconds_24 rfl (lv_at hl 1 rfl) ?_
    refine lv_iload hx hb dX2_quietSeconds_25 (lv_at hl 0 rfl) ?_
    refine lv_aload_n hx hb dX2_quietSeconds_27 rfl (lv_at hl 2 rfl) ?_
    have b_28 : 0 ≤ X 15 n ∧ X 15 n ≤ 999 := hV.1 15 _ rfl
    refine g_get (C := RX2) (T := TX2) (N := 13) hx hb hts inX2 hown hG (hP.hs hn) rfl 5 (by decide) (by decide +kernel) rfl (v := .int (z2 (X 15 n))) rfl dX2_quietSeconds_28 ?_
    refine lv_aload_n hx hb dX2_quietSeconds_31 rfl (lv_at hl 2 rfl) ?_
    have b_32 : 0 ≤ X 16 n ∧ X 16 n ≤ 999 := hV.1 16 _ rfl
    refine g_get (C := RX2) (T := TX2) (N := 13) hx hb hts inX2 hown hG (hP.hs hn) rfl 6 (by decide) (by decide +kernel) rfl (v := .int (z2 (X 16 n))) rfl dX2_quietSeconds_32 ?_
    refine g_run (vx_runS (As := [.int (z2 (u % 1000)), .int (z2 (((u % 1000) + v2) - u)), .int (z2 (X 15 n)), .int (z2 (X 16 n))]) (rest := []) ⟨hx, hb, hml, hown, hts⟩ (k_shared l D ks bx _ (u % 1000) (((u % 1000) + v2) - u) (X 15 n) (X 16 n) ⟨⟨by omega, by omega⟩, ⟨by omega, by omega⟩, ⟨by omega, by omega⟩, by omega, by omega⟩) (cwS 4 hts gX2_quietSeconds_X2_shared rfl rfl rfl (by decide +kernel) ⟨Nat.le_of_ble_eq_true rfl, Nat.le_of_ble_eq_true rfl⟩) (g_preS hG hS rx_ge) rfl rfl hl.1 rfl (lv_room (Nat.le_of_ble_eq_true rfl)) dX2_quietSeconds_35 ⟨Nat.le_of_ble_eq_true rfl, Nat.le_of_ble_eq_true rfl⟩) hS (fun _ h => h) (fun _ _ _ _ _ h => h.elim) (fun v H1 locs hp hz9 hk9 hS => ?_)
    obtain ⟨rfl, rfl⟩ := hp
    have sb_35 := shS_b (u % 1000) (((u % 1000) + v2) - u) (X 15 n) (X 16 n)
    refine W.eq (g2 := F0 m 38 ls [.int (z2 (shS (u % 1000) (((u % 1000) + v2) - u) (X 15 n) (X 16 n)))]) rfl ?_
    exact g_iret hx hb hr hlocks hS ⟨Nat.le_of_ble_eq_true rfl, Nat.le_of_ble_eq_true rfl⟩ (⟨congrArg (fun z => some (Value.int (z2 z))) (by unfold qS; first | rw [if_pos (by omega)] | rw [if_neg (by omega)]), rfl⟩) dX2_quietSeconds_38
set_option maxHeartbeats 4000000 in
set_option maxRecDepth 100000 in
theorem k_isQuietAt (l : Launch) (D : va_G) (ks : Nat → ClassId) (bx : Nat) (ml : Nat → Nat) (X : Nat → Nat → Int) (H : Heap) (hP : PX D ks bx ml X H) (hV : VX X) {n : Nat} (hn : n < 8) (u : Int) (hr : 0 ≤ u ∧ u ≤ 1000000) : KM l yX2_isQuietAt wsX2_isQuietAt ({ frames := 3, cells := 0, slots := 0, locals := 71 } : Room) D ks bx [.ref (bx + 5 + 6 * n), .int (z2 u)] H (RX bx) (fun v H1 => v = some (.int (z2 (if 0 < qS X n u (u + 1) then 1 else 0))) ∧ H1 = H) (fun _ _ => False) := by
  refine KM.of (cc := cX2_isQuietAt) (maxL := 2) (ret := (some .boolean)) (by decide) rfl (Nat.le_of_ble_eq_true rfl) ?_
  intro p e s m below meth c hx hb hml hr hlocks hown hname hts hext hH0 hG ls hl
  subst hH0
  have hown : s.vm.findClass RX2 = some m.cls := hown
  have hS : va_S (AR (RX bx) s.heap.size) s.heap s.heap [] := va_S.rf
  have hl : lv_has ls 2 [(0, .ref (bx + 5 + 6 * n)), (1, .int (z2 (u)))] := hl
  refine lv_aload_n hx hb dX2_isQuietAt_0 rfl (lv_at hl 0 rfl) ?_
  refine lv_iload_n hx hb dX2_isQuietAt_1 rfl (lv_at hl 1 rfl) ?_
  refine lv_iload_n hx hb dX2_isQuietAt_2 rfl (lv_at hl 1 rfl) ?_
  refine b_iconst hx hb dX2_isQuietAt_3 ?_
  refine b_iadd hx hb dX2_isQuietAt_4 ?_
  refine g_run (vx_runV (As := [.int (z2 (u)), .int (z2 (u + 1))]) (rest := []) ⟨hx, hb, hml, hown, hts⟩ (k_quietSeconds l D ks bx ml X _ hP hV hn (u) (u + 1) ⟨⟨by omega, by omega⟩, by omega, by omega⟩) (cwV 2 hts gX2_isQuietAt_X2_quietSeconds rfl rfl rfl (by decide +kernel) ⟨Nat.le_of_ble_eq_true rfl, Nat.le_of_ble_eq_true rfl⟩) (g_preV (r := (RX2, TX2, 13)) hG hS rx_ge (hP.hs hn) rfl) rfl rfl hl.1 rfl (lv_room (Nat.le_of_ble_eq_true rfl)) dX2_isQuietAt_5 ⟨Nat.le_of_ble_eq_true rfl, Nat.le_of_ble_eq_true rfl⟩) hS (fun _ h => h) (fun _ _ _ _ _ h => h.elim) (fun v H1 locs hp hz9 hk9 hS => ?_)
  obtain ⟨rfl, rfl⟩ := hp
  have qb_5 := qS_b (X := X) hV n (u) (u + 1)
  refine W.eq (g2 := F0 m 8 ls [.int (z2 (qS X n (u) (u + 1)))]) rfl ?_
  refine b_if_le (tgt := 15) hx hb dX2_isQuietAt_8 (by decide) ⟨by omega, by omega⟩ (fun c_8 => ?_) (fun c_8 => ?_)
  · skip
    refine b_iconst hx hb dX2_isQuietAt_15 ?_
    exact g_zret hx hb hr hlocks hS (by decide +kernel) ⟨Nat.le_of_ble_eq_true rfl, Nat.le_of_ble_eq_true rfl⟩ (⟨congrArg (fun z => some (Value.int (z2 z))) (by first | rw [if_pos (by omega)] | rw [if_neg (by omega)]), rfl⟩) dX2_isQuietAt_16
  · skip
    refine b_iconst hx hb dX2_isQuietAt_11 ?_
    refine lv_goto (tgt := 16) hx hb dX2_isQuietAt_12 (by decide) ?_
    exact g_zret hx hb hr hlocks hS (by decide +kernel) ⟨Nat.le_of_ble_eq_true rfl, Nat.le_of_ble_eq_true rfl⟩ (⟨congrArg (fun z => some (Value.int (z2 z))) (by first | rw [if_pos (by omega)] | rw [if_neg (by omega)]), rfl⟩) dX2_isQuietAt_16
set_option maxHeartbeats 4000000 in
set_option maxRecDepth 100000 in
theorem k_mayRing (l : Launch) (D : va_G) (ks : Nat → ClassId) (bx : Nat) (ml : Nat → Nat) (X : Nat → Nat → Int) (H : Heap) (hP : PX D ks bx ml X H) (hV : VX X) {n k : Nat} (hn : n < 8) (hk : (k : Int) < X 4 0) : KM l yX2_mayRing wsX2_mayRing ({ frames := 0, cells := 0, slots := 0, locals := 0 } : Room) D ks bx [.ref (bx + 5 + 6 * n), .ref (ml k)] H (RX bx) (fun v H1 => v = some (.int (z2 (mrS X n k))) ∧ H1 = H) (fun _ _ => False) := by
  refine KM.of (cc := cX2_mayRing) (maxL := 2) (ret := (some .boolean)) (by decide) rfl (Nat.le_of_ble_eq_true rfl) ?_
  intro p e s m below meth c hx hb hml hr hlocks hown hname hts hext hH0 hG ls hl
  subst hH0
  have hown : s.vm.findClass RX2 = some m.cls := hown
  have hS : va_S (AR (RX bx) s.heap.size) s.heap s.heap [] := va_S.rf
  have hl : lv_has ls 2 [(0, .ref (bx + 5 + 6 * n)), (1, .ref (ml k))] := hl
  have inX2 : ∀ w ∈ wsX20, w ∈ wsX2_mayRing := by decide +kernel
  have inX3 : ∀ w ∈ wsX30, w ∈ wsX2_mayRing := by decide +kernel
  have b4 : 0 ≤ X 4 0 ∧ X 4 0 ≤ 12 := hV.1 4 0 rfl
  refine lv_aload_n hx hb dX2_mayRing_0 rfl (lv_at hl 1 rfl) ?_
  have b_1 : 0 ≤ X 36 k ∧ X 36 k ≤ 7 := hV.1 36 _ rfl
  refine g_getN (C := RX3) (T := TX3) (N := 4) hx hb hts inX3 hown hG (hP.me hk) rfl 1 (by decide) (List.mem_of_getElem? (i := 20) rfl) rfl (v := .int (z2 (X 36 k))) rfl dX2_mayRing_1 ?_
  refine lv_aload_n hx hb dX2_mayRing_4 rfl (lv_at hl 0 rfl) ?_
  refine g_get (C := RX2) (T := TX2) (N := 13) hx hb hts inX2 hown hG (hP.hs hn) rfl 0 (by decide) (by decide +kernel) rfl (v := .int (z2 (((n : Nat) : Int)))) rfl dX2_mayRing_5 ?_
  refine b_icmp_eq (tgt := 23) hx hb dX2_mayRing_8 (by decide) ⟨⟨by omega, by omega⟩, ⟨by omega, by omega⟩⟩ (fun c_8 => ?_) (fun c_8 => ?_)
  · skip
    refine b_iconst hx hb dX2_mayRing_23 ?_
    refine lv_goto (tgt := 28) hx hb dX2_mayRing_24 (by decide) ?_
    exact g_zret hx hb hr hlocks hS (by decide +kernel) ⟨Nat.le_of_ble_eq_true rfl, Nat.le_of_ble_eq_true rfl⟩ (⟨congrArg (fun z => some (Value.int (z2 z))) (by unfold mrS; first | rw [if_pos (by omega)] | rw [if_neg (by omega)]), rfl⟩) dX2_mayRing_28
  · skip
    refine lv_aload_n hx hb dX2_mayRing_11 rfl (lv_at hl 0 rfl) ?_
    refine g_get (C := RX2) (T := TX2) (N := 13) hx hb hts inX2 hown hG (hP.hs hn) rfl 3 (by decide) (by decide +kernel) rfl (v := .ref (bx + 5 + 6 * n + 2)) rfl dX2_mayRing_12 ?_
    refine lv_aload_n hx hb dX2_mayRing_15 rfl (lv_at hl 1 rfl) ?_
    refine g_getN (C := RX3) (T := TX3) (N := 4) hx hb hts inX3 hown hG (hP.me hk) rfl 0 (by decide) (List.mem_of_getElem? (i := 21) rfl) rfl (v := .int (z2 (((k : Nat) : Int)))) rfl dX2_mayRing_16 ?_
    have b_19 : 0 ≤ X 23 (12 * n + k) ∧ X 23 (12 * n + k) ≤ 1000 := hV.1 23 _ rfl
    refine g_iald (n := 12) hx hb hG (hP.ra hn) k ⟨by omega, by omega, by decide⟩ dX2_mayRing_19 ?_
    refine W.eq (g2 := F0 m 20 ls (.int (z2 (X 23 (12 * n + k))) :: [])) rfl ?_
    refine b_if_le (tgt := 27) hx hb dX2_mayRing_20 (by decide) ⟨by omega, by omega⟩ (fun c_20 => ?_) (fun c_20 => ?_)
    · skip
      refine b_iconst hx hb dX2_mayRing_27 ?_
      exact g_zret hx hb hr hlocks hS (by decide +kernel) ⟨Nat.le_of_ble_eq_true rfl, Nat.le_of_ble_eq_true rfl⟩ (⟨congrArg (fun z => some (Value.int (z2 z))) (by unfold mrS; first | rw [if_pos (by omega)] | rw [if_neg (by omega)]), rfl⟩) dX2_mayRing_28
    · skip
      refine b_iconst hx hb dX2_mayRing_23 ?_
      refine lv_goto (tgt := 28) hx hb dX2_mayRing_24 (by decide) ?_
      exact g_zret hx hb hr hlocks hS (by decide +kernel) ⟨Nat.le_of_ble_eq_true rfl, Nat.le_of_ble_eq_true rfl⟩ (⟨congrArg (fun z => some (Value.int (z2 z))) (by unfold mrS; first | rw [if_pos (by omega)] | rw [if_neg (by omega)]), rfl⟩) dX2_mayRing_28
set_option maxHeartbeats 4000000 in
set_option maxRecDepth 100000 in
theorem k_useRight (l : Launch) (D : va_G) (ks : Nat → ClassId) (bx : Nat) (ml : Nat → Nat) (X : Nat → Nat → Int) (H : Heap) (hP : PX D ks bx ml X H) (hV : VX X) {n k : Nat} (hn : n < 8) (hk : (k : Int) < X 4 0) : KM l yX2_useRight wsX2_useRight ({ frames := 0, cells := 0, slots := 0, locals := 0 } : Room) D ks bx [.ref (bx + 5 + 6 * n), .ref (ml k)] H (RX bx) (fun v H1 => v = none ∧ PX D ks bx ml (urS X n k) H1) (fun _ _ => False) := by
  refine KM.of (cc := cX2_useRight) (maxL := 2) (ret := none) (by decide) rfl (Nat.le_of_ble_eq_true rfl) ?_
  intro p e s m below meth c hx hb hml hr hlocks hown hname hts hext hH0 hG ls hl
  subst hH0
  have hown : s.vm.findClass RX2 = some m.cls := hown
  have hS : va_S (AR (RX bx) s.heap.size) s.heap s.heap [] := va_S.rf
  have hl : lv_has ls 2 [(0, .ref (bx + 5 + 6 * n)), (1, .ref (ml k))] := hl
  have inX2 : ∀ w ∈ wsX20, w ∈ wsX2_useRight := by decide +kernel
  have inX3 : ∀ w ∈ wsX30, w ∈ wsX2_useRight := by decide +kernel
  have b4 : 0 ≤ X 4 0 ∧ X 4 0 ≤ 12 := hV.1 4 0 rfl
  refine lv_aload_n hx hb dX2_useRight_0 rfl (lv_at hl 1 rfl) ?_
  have b_1 : 0 ≤ X 36 k ∧ X 36 k ≤ 7 := hV.1 36 _ rfl
  refine g_getN (C := RX3) (T := TX3) (N := 4) hx hb hts inX3 hown hG (hP.me hk) rfl 1 (by decide) (List.mem_of_getElem? (i := 20) rfl) rfl (v := .int (z2 (X 36 k))) rfl dX2_useRight_1 ?_
  refine lv_aload_n hx hb dX2_useRight_4 rfl (lv_at hl 0 rfl) ?_
  refine g_get (C := RX2) (T := TX2) (N := 13) hx hb hts inX2 hown hG (hP.hs hn) rfl 0 (by decide) (by decide +kernel) rfl (v := .int (z2 (((n : Nat) : Int)))) rfl dX2_useRight_5 ?_
  refine b_icmp_eq (tgt := 24) hx hb dX2_useRight_8 (by decide) ⟨⟨by omega, by omega⟩, ⟨by omega, by omega⟩⟩ (fun c_8 => ?_) (fun c_8 => ?_)
  · skip
    exact g_vret hx hb hr hlocks hS ⟨Nat.le_of_ble_eq_true rfl, Nat.le_of_ble_eq_true rfl⟩ (⟨rfl, by unfold urS; first | (rw [if_pos (by omega)]; exact hP) | (rw [if_neg (by omega)]; exact hP)⟩) dX2_useRight_24
  · skip
    refine lv_aload_n hx hb dX2_useRight_11 rfl (lv_at hl 0 rfl) ?_
    refine g_get (C := RX2) (T := TX2) (N := 13) hx hb hts inX2 hown hG (hP.hs hn) rfl 3 (by decide) (by decide +kernel) rfl (v := .ref (bx + 5 + 6 * n + 2)) rfl dX2_useRight_12 ?_
    refine lv_aload_n hx hb dX2_useRight_15 rfl (lv_at hl 1 rfl) ?_
    refine g_getN (C := RX3) (T := TX3) (N := 4) hx hb hts inX3 hown hG (hP.me hk) rfl 0 (by decide) (List.mem_of_getElem? (i := 21) rfl) rfl (v := .int (z2 (((k : Nat) : Int)))) rfl dX2_useRight_16 ?_
    refine lv_dup2_11 hx hb dX2_useRight_19 rfl rfl ?_
    have b_20 : 0 ≤ X 23 (12 * n + k) ∧ X 23 (12 * n + k) ≤ 1000 := hV.1 23 _ rfl
    refine g_iald (n := 12) hx hb hG (hP.ra hn) k ⟨by omega, by omega, by decide⟩ dX2_useRight_20 ?_
    refine W.eq (g2 := F0 m 21 ls (.int (z2 (X 23 (12 * n + k))) :: [.int (z2 (((k : Nat) : Int))), .ref (bx + 5 + 6 * n + 2)])) rfl ?_
    refine b_iconst hx hb dX2_useRight_21 ?_
    refine b_isub hx hb dX2_useRight_22 ?_
    refine g_iast (n := 12) hx hb hG hS (hP.ra hn) (Or.inl ⟨by omega, by omega⟩) k ⟨by omega, by omega, by decide⟩ dX2_useRight_23 (fun H locs he hz oq hS => ?_)
    have hP : PX D ks bx ml (up X 23 (12 * n + k) ((X 23 (12 * n + k)) - 1)) H := hP.right hn (by omega) he oq
    exact g_vret hx hb hr hlocks hS ⟨Nat.le_of_ble_eq_true rfl, Nat.le_of_ble_eq_true rfl⟩ (⟨rfl, by unfold urS; first | (rw [if_pos (by omega)]; exact hP) | (rw [if_neg (by omega)]; exact hP)⟩) dX2_useRight_24
set_option maxHeartbeats 4000000 in
set_option maxRecDepth 100000 in
theorem k_ringingSet (l : Launch) (D : va_G) (ks : Nat → ClassId) (bx : Nat) (ml : Nat → Nat) (X : Nat → Nat → Int) (H : Heap) (hP : PX D ks bx ml X H) (hV : VX X) {n : Nat} (hn : n < 8) : KM l yX2_ringingSet wsX2_ringingSet ({ frames := 0, cells := 0, slots := 0, locals := 0 } : Room) D ks bx [.ref (bx + 5 + 6 * n)] H (RX bx) (fun v H1 => v = some (.int (z2 (rsS X n))) ∧ H1 = H) (fun _ _ => False) := by
  refine KM.of (cc := cX2_ringingSet) (maxL := 3) (ret := (some .int)) (by decide) rfl (Nat.le_of_ble_eq_true rfl) ?_
  intro p e s m below meth c hx hb hml hr hlocks hown hname hts hext hH0 hG ls hl
  subst hH0
  have hown : s.vm.findClass RX2 = some m.cls := hown
  have hS : va_S (AR (RX bx) s.heap.size) s.heap s.heap [] := va_S.rf
  have hl : lv_has ls 3 [(0, .ref (bx + 5 + 6 * n))] := hl
  have inX0 : ∀ w ∈ wsX00, w ∈ wsX2_ringingSet := by decide +kernel
  have inX2 : ∀ w ∈ wsX20, w ∈ wsX2_ringingSet := by decide +kernel
  refine b_iconst hx hb dX2_ringingSet_0 ?_
  refine lv_istore_n (lv' := [(1, .int (z2 (0))), (0, .ref (bx + 5 + 6 * n))]) hx hb dX2_ringingSet_1 rfl hl (by decide) rfl (fun ls hl => ?_)
  refine b_iconst hx hb dX2_ringingSet_2 ?_
  refine lv_istore_n (lv' := [(2, .int (z2 (0))), (1, .int (z2 (0))), (0, .ref (bx + 5 + 6 * n))]) hx hb dX2_ringingSet_3 rfl hl (by decide) rfl (fun ls hl => ?_)
  refine lv_iload_n hx hb dX2_ringingSet_4 rfl (lv_at hl 0 rfl) ?_
  refine b_iconst hx hb dX2_ringingSet_5 ?_
  refine b_icmp_ge (tgt := 33) hx hb dX2_ringingSet_6 (by decide) ⟨⟨by omega, by omega⟩, ⟨by omega, by omega⟩⟩ (fun c => absurd c (by omega)) (fun _ => ?_)
  refine lv_aload_n hx hb dX2_ringingSet_9 rfl (lv_at hl 2 rfl) ?_
  refine g_get (C := RX2) (T := TX2) (N := 13) hx hb hts inX2 hown hG (hP.hs hn) rfl 2 (by decide) (by decide +kernel) rfl (v := .ref (bx + 5 + 6 * n + 1)) rfl dX2_ringingSet_10 ?_
  refine lv_iload_n hx hb dX2_ringingSet_13 rfl (lv_at hl 0 rfl) ?_
  refine g_aald (n := 3) hx hb hG 2 rfl (hP.ba hn) 0 ⟨by omega, by omega, by decide⟩ dX2_ringingSet_14 (v := .ref (bx + 5 + 6 * n + 3 + 0)) rfl ?_
  have b_15 : 0 ≤ X 32 (3 * n + 0) ∧ X 32 (3 * n + 0) ≤ 1 := hV.1 32 _ rfl
  refine g_getN (C := RX0) (T := TX0) (N := 4) hx hb hts inX0 hown hG (hP.be hn (by decide)) rfl 2 (by decide) (List.mem_of_getElem? (i := 22) rfl) rfl (v := .int (z2 (X 32 (3 * n + 0)))) rfl dX2_ringingSet_15 ?_
  refine b_if_eq (tgt := 27) hx hb dX2_ringingSet_18 (by decide) ⟨by omega, by omega⟩ (fun c_18 => ?_) (fun c_18 => ?_)
  · skip
    refine b_iinc (lv' := [(2, .int (z2 (1))), (1, .int (z2 (0))), (0, .ref (bx + 5 + 6 * n))]) hx hb dX2_ringingSet_27 hl (k := 0) rfl (by decide) rfl (fun ls hl => ?_)
    refine lv_goto (tgt := 4) hx hb dX2_ringingSet_30 (by decide) ?_
    refine lv_iload_n hx hb dX2_ringingSet_4 rfl (lv_at hl 0 rfl) ?_
    refine b_iconst hx hb dX2_ringingSet_5 ?_
    refine b_icmp_ge (tgt := 33) hx hb dX2_ringingSet_6 (by decide) ⟨⟨by omega, by omega⟩, ⟨by omega, by omega⟩⟩ (fun c => absurd c (by omega)) (fun _ => ?_)
    refine lv_aload_n hx hb dX2_ringingSet_9 rfl (lv_at hl 2 rfl) ?_
    refine g_get (C := RX2) (T := TX2) (N := 13) hx hb hts inX2 hown hG (hP.hs hn) rfl 2 (by decide) (by decide +kernel) rfl (v := .ref (bx + 5 + 6 * n + 1)) rfl dX2_ringingSet_10 ?_
    refine lv_iload_n hx hb dX2_ringingSet_13 rfl (lv_at hl 0 rfl) ?_
    refine g_aald (n := 3) hx hb hG 2 rfl (hP.ba hn) 1 ⟨by omega, by omega, by decide⟩ dX2_ringingSet_14 (v := .ref (bx + 5 + 6 * n + 3 + 1)) rfl ?_
    have b_15 : 0 ≤ X 32 (3 * n + 1) ∧ X 32 (3 * n + 1) ≤ 1 := hV.1 32 _ rfl
    refine g_getN (C := RX0) (T := TX0) (N := 4) hx hb hts inX0 hown hG (hP.be hn (by decide)) rfl 2 (by decide) (List.mem_of_getElem? (i := 22) rfl) rfl (v := .int (z2 (X 32 (3 * n + 1)))) rfl dX2_ringingSet_15 ?_
    refine b_if_eq (tgt := 27) hx hb dX2_ringingSet_18 (by decide) ⟨by omega, by omega⟩ (fun c_18 => ?_) (fun c_18 => ?_)
    · skip
      refine b_iinc (lv' := [(2, .int (z2 (2))), (1, .int (z2 (0))), (0, .ref (bx + 5 + 6 * n))]) hx hb dX2_ringingSet_27 hl (k := 0) rfl (by decide) rfl (fun ls hl => ?_)
      refine lv_goto (tgt := 4) hx hb dX2_ringingSet_30 (by decide) ?_
      refine lv_iload_n hx hb dX2_ringingSet_4 rfl (lv_at hl 0 rfl) ?_
      refine b_iconst hx hb dX2_ringingSet_5 ?_
      refine b_icmp_ge (tgt := 33) hx hb dX2_ringingSet_6 (by decide) ⟨⟨by omega, by omega⟩, ⟨by omega, by omega⟩⟩ (fun c => absurd c (by omega)) (fun _ => ?_)
      refine lv_aload_n hx hb dX2_ringingSet_9 rfl (lv_at hl 2 rfl) ?_
      refine g_get (C := RX2) (T := TX2) (N := 13) hx hb hts inX2 hown hG (hP.hs hn) rfl 2 (by decide) (by decide +kernel) rfl (v := .ref (bx + 5 + 6 * n + 1)) rfl dX2_ringingSet_10 ?_
      refine lv_iload_n hx hb dX2_ringingSet_13 rfl (lv_at hl 0 rfl) ?_
      refine g_aald (n := 3) hx hb hG 2 rfl (hP.ba hn) 2 ⟨by omega, by omega, by decide⟩ dX2_ringingSet_14 (v := .ref (bx + 5 + 6 * n + 3 + 2)) rfl ?_
      have b_15 : 0 ≤ X 32 (3 * n + 2) ∧ X 32 (3 * n + 2) ≤ 1 := hV.1 32 _ rfl
      refine g_getN (C := RX0) (T := TX0) (N := 4) hx hb hts inX0 hown hG (hP.be hn (by decide)) rfl 2 (by decide) (List.mem_of_getElem? (i := 22) rfl) rfl (v := .int (z2 (X 32 (3 * n + 2)))) rfl dX2_ringingSet_15 ?_
      refine b_if_eq (tgt := 27) hx hb dX2_ringingSet_18 (by decide) ⟨by omega, by omega⟩ (fun c_18 => ?_) (fun c_18 => ?_)
      · skip
        refine b_iinc (lv' := [(2, .int (z2 (3))), (1, .int (z2 (0))), (0, .ref (bx + 5 + 6 * n))]) hx hb dX2_ringingSet_27 hl (k := 0) rfl (by decide) rfl (fun ls hl => ?_)
        refine lv_goto (tgt := 4) hx hb dX2_ringingSet_30 (by decide) ?_
        refine lv_iload_n hx hb dX2_ringingSet_4 rfl (lv_at hl 0 rfl) ?_
        refine b_iconst hx hb dX2_ringingSet_5 ?_
        refine b_icmp_ge (tgt := 33) hx hb dX2_ringingSet_6 (by decide) ⟨⟨by omega, by omega⟩, ⟨by omega, by omega⟩⟩ (fun _ => ?_) (fun c => absurd c (by omega))
        refine lv_iload_n hx hb dX2_ringingSet_33 rfl (lv_at hl 1 rfl) ?_
        exact g_iret hx hb hr hlocks hS ⟨Nat.le_of_ble_eq_true rfl, Nat.le_of_ble_eq_true rfl⟩ (⟨congrArg (fun z => some (Value.int (z2 z))) (by unfold rsS; (repeat' split) <;> omega), rfl⟩) dX2_ringingSet_34
      · skip
        refine lv_iload_n hx hb dX2_ringingSet_21 rfl (lv_at hl 1 rfl) ?_
        refine b_iconst hx hb dX2_ringingSet_22 ?_
        refine lv_iload_n hx hb dX2_ringingSet_23 rfl (lv_at hl 0 rfl) ?_
        refine lv_ishl hx hb dX2_ringingSet_24 ?_
        refine b_top (v := 4) (by decide +kernel) ?_
        refine lv_ior hx hb dX2_ringingSet_25 ?_
        refine b_top (v := 4) (by decide +kernel) ?_
        refine lv_istore_n (lv' := [(1, .int (z2 (4))), (2, .int (z2 (2))), (0, .ref (bx + 5 + 6 * n))]) hx hb dX2_ringingSet_26 rfl hl (by decide) rfl (fun ls hl => ?_)
        refine b_iinc (lv' := [(2, .int (z2 (3))), (1, .int (z2 (4))), (0, .ref (bx + 5 + 6 * n))]) hx hb dX2_ringingSet_27 hl (k := 1) rfl (by decide) rfl (fun ls hl => ?_)
        refine lv_goto (tgt := 4) hx hb dX2_ringingSet_30 (by decide) ?_
        refine lv_iload_n hx hb dX2_ringingSet_4 rfl (lv_at hl 0 rfl) ?_
        refine b_iconst hx hb dX2_ringingSet_5 ?_
        refine b_icmp_ge (tgt := 33) hx hb dX2_ringingSet_6 (by decide) ⟨⟨by omega, by omega⟩, ⟨by omega, by omega⟩⟩ (fun _ => ?_) (fun c => absurd c (by omega))
        refine lv_iload_n hx hb dX2_ringingSet_33 rfl (lv_at hl 1 rfl) ?_
        exact g_iret hx hb hr hlocks hS ⟨Nat.le_of_ble_eq_true rfl, Nat.le_of_ble_eq_true rfl⟩ (⟨congrArg (fun z => some (Value.int (z2 z))) (by unfold rsS; (repeat' split) <;> omega), rfl⟩) dX2_ringingSet_34
    · skip
      refine lv_iload_n hx hb dX2_ringingSet_21 rfl (lv_at hl 1 rfl) ?_
      refine b_iconst hx hb dX2_ringingSet_22 ?_
      refine lv_iload_n hx hb dX2_ringingSet_23 rfl (lv_at hl 0 rfl) ?_
      refine lv_ishl hx hb dX2_ringingSet_24 ?_
      refine b_top (v := 2) (by decide +kernel) ?_
      refine lv_ior hx hb dX2_ringingSet_25 ?_
      refine b_top (v := 2) (by decide +kernel) ?_
      refine lv_istore_n (lv' := [(1, .int (z2 (2))), (2, .int (z2 (1))), (0, .ref (bx + 5 + 6 * n))]) hx hb dX2_ringingSet_26 rfl hl (by decide) rfl (fun ls hl => ?_)
      refine b_iinc (lv' := [(2, .int (z2 (2))), (1, .int (z2 (2))), (0, .ref (bx + 5 + 6 * n))]) hx hb dX2_ringingSet_27 hl (k := 1) rfl (by decide) rfl (fun ls hl => ?_)
      refine lv_goto (tgt := 4) hx hb dX2_ringingSet_30 (by decide) ?_
      refine lv_iload_n hx hb dX2_ringingSet_4 rfl (lv_at hl 0 rfl) ?_
      refine b_iconst hx hb dX2_ringingSet_5 ?_
      refine b_icmp_ge (tgt := 33) hx hb dX2_ringingSet_6 (by decide) ⟨⟨by omega, by omega⟩, ⟨by omega, by omega⟩⟩ (fun c => absurd c (by omega)) (fun _ => ?_)
      refine lv_aload_n hx hb dX2_ringingSet_9 rfl (lv_at hl 2 rfl) ?_
      refine g_get (C := RX2) (T := TX2) (N := 13) hx hb hts inX2 hown hG (hP.hs hn) rfl 2 (by decide) (by decide +kernel) rfl (v := .ref (bx + 5 + 6 * n + 1)) rfl dX2_ringingSet_10 ?_
      refine lv_iload_n hx hb dX2_ringingSet_13 rfl (lv_at hl 0 rfl) ?_
      refine g_aald (n := 3) hx hb hG 2 rfl (hP.ba hn) 2 ⟨by omega, by omega, by decide⟩ dX2_ringingSet_14 (v := .ref (bx + 5 + 6 * n + 3 + 2)) rfl ?_
      have b_15 : 0 ≤ X 32 (3 * n + 2) ∧ X 32 (3 * n + 2) ≤ 1 := hV.1 32 _ rfl
      refine g_getN (C := RX0) (T := TX0) (N := 4) hx hb hts inX0 hown hG (hP.be hn (by decide)) rfl 2 (by decide) (List.mem_of_getElem? (i := 22) rfl) rfl (v := .int (z2 (X 32 (3 * n + 2)))) rfl dX2_ringingSet_15 ?_
      refine b_if_eq (tgt := 27) hx hb dX2_ringingSet_18 (by decide) ⟨by omega, by omega⟩ (fun c_18 => ?_) (fun c_18 => ?_)
      · skip
        refine b_iinc (lv' := [(2, .int (z2 (3))), (1, .int (z2 (2))), (0, .ref (bx + 5 + 6 * n))]) hx hb dX2_ringingSet_27 hl (k := 0) rfl (by decide) rfl (fun ls hl => ?_)
        refine lv_goto (tgt := 4) hx hb dX2_ringingSet_30 (by decide) ?_
        refine lv_iload_n hx hb dX2_ringingSet_4 rfl (lv_at hl 0 rfl) ?_
        refine b_iconst hx hb dX2_ringingSet_5 ?_
        refine b_icmp_ge (tgt := 33) hx hb dX2_ringingSet_6 (by decide) ⟨⟨by omega, by omega⟩, ⟨by omega, by omega⟩⟩ (fun _ => ?_) (fun c => absurd c (by omega))
        refine lv_iload_n hx hb dX2_ringingSet_33 rfl (lv_at hl 1 rfl) ?_
        exact g_iret hx hb hr hlocks hS ⟨Nat.le_of_ble_eq_true rfl, Nat.le_of_ble_eq_true rfl⟩ (⟨congrArg (fun z => some (Value.int (z2 z))) (by unfold rsS; (repeat' split) <;> omega), rfl⟩) dX2_ringingSet_34
      · skip
        refine lv_iload_n hx hb dX2_ringingSet_21 rfl (lv_at hl 1 rfl) ?_
        refine b_iconst hx hb dX2_ringingSet_22 ?_
        refine lv_iload_n hx hb dX2_ringingSet_23 rfl (lv_at hl 0 rfl) ?_
        refine lv_ishl hx hb dX2_ringingSet_24 ?_
        refine b_top (v := 4) (by decide +kernel) ?_
        refine lv_ior hx hb dX2_ringingSet_25 ?_
        refine b_top (v := 6) (by decide +kernel) ?_
        refine lv_istore_n (lv' := [(1, .int (z2 (6))), (2, .int (z2 (2))), (0, .ref (bx + 5 + 6 * n))]) hx hb dX2_ringingSet_26 rfl hl (by decide) rfl (fun ls hl => ?_)
        refine b_iinc (lv' := [(2, .int (z2 (3))), (1, .int (z2 (6))), (0, .ref (bx + 5 + 6 * n))]) hx hb dX2_ringingSet_27 hl (k := 1) rfl (by decide) rfl (fun ls hl => ?_)
        refine lv_goto (tgt := 4) hx hb dX2_ringingSet_30 (by decide) ?_
        refine lv_iload_n hx hb dX2_ringingSet_4 rfl (lv_at hl 0 rfl) ?_
        refine b_iconst hx hb dX2_ringingSet_5 ?_
        refine b_icmp_ge (tgt := 33) hx hb dX2_ringingSet_6 (by decide) ⟨⟨by omega, by omega⟩, ⟨by omega, by omega⟩⟩ (fun _ => ?_) (fun c => absurd c (by omega))
        refine lv_iload_n hx hb dX2_ringingSet_33 rfl (lv_at hl 1 rfl) ?_
        exact g_iret hx hb hr hlocks hS ⟨Nat.le_of_ble_eq_true rfl, Nat.le_of_ble_eq_true rfl⟩ (⟨congrArg (fun z => some (Value.int (z2 z))) (by unfold rsS; (repeat' split) <;> omega), rfl⟩) dX2_ringingSet_34
  · skip
    refine lv_iload_n hx hb dX2_ringingSet_21 rfl (lv_at hl 1 rfl) ?_
    refine b_iconst hx hb dX2_ringingSet_22 ?_
    refine lv_iload_n hx hb dX2_ringingSet_23 rfl (lv_at hl 0 rfl) ?_
    refine lv_ishl hx hb dX2_ringingSet_24 ?_
    refine b_top (v := 1) (by decide +kernel) ?_
    refine lv_ior hx hb dX2_ringingSet_25 ?_
    refine b_top (v := 1) (by decide +kernel) ?_
    refine lv_istore_n (lv' := [(1, .int (z2 (1))), (2, .int (z2 (0))), (0, .ref (bx + 5 + 6 * n))]) hx hb dX2_ringingSet_26 rfl hl (by decide) rfl (fun ls hl => ?_)
    refine b_iinc (lv' := [(2, .int (z2 (1))), (1, .int (z2 (1))), (0, .ref (bx + 5 + 6 * n))]) hx hb dX2_ringingSet_27 hl (k := 1) rfl (by decide) rfl (fun ls hl => ?_)
    refine lv_goto (tgt := 4) hx hb dX2_ringingSet_30 (by decide) ?_
    refine lv_iload_n hx hb dX2_ringingSet_4 rfl (lv_at hl 0 rfl) ?_
    refine b_iconst hx hb dX2_ringingSet_5 ?_
    refine b_icmp_ge (tgt := 33) hx hb dX2_ringingSet_6 (by decide) ⟨⟨by omega, by omega⟩, ⟨by omega, by omega⟩⟩ (fun c => absurd c (by omega)) (fun _ => ?_)
    refine lv_aload_n hx hb dX2_ringingSet_9 rfl (lv_at hl 2 rfl) ?_
    refine g_get (C := RX2) (T := TX2) (N := 13) hx hb hts inX2 hown hG (hP.hs hn) rfl 2 (by decide) (by decide +kernel) rfl (v := .ref (bx + 5 + 6 * n + 1)) rfl dX2_ringingSet_10 ?_
    refine lv_iload_n hx hb dX2_ringingSet_13 rfl (lv_at hl 0 rfl) ?_
    refine g_aald (n := 3) hx hb hG 2 rfl (hP.ba hn) 1 ⟨by omega, by omega, by decide⟩ dX2_ringingSet_14 (v := .ref (bx + 5 + 6 * n + 3 + 1)) rfl ?_
    have b_15 : 0 ≤ X 32 (3 * n + 1) ∧ X 32 (3 * n + 1) ≤ 1 := hV.1 32 _ rfl
    refine g_getN (C := RX0) (T := TX0) (N := 4) hx hb hts inX0 hown hG (hP.be hn (by decide)) rfl 2 (by decide) (List.mem_of_getElem? (i := 22) rfl) rfl (v := .int (z2 (X 32 (3 * n + 1)))) rfl dX2_ringingSet_15 ?_
    refine b_if_eq (tgt := 27) hx hb dX2_ringingSet_18 (by decide) ⟨by omega, by omega⟩ (fun c_18 => ?_) (fun c_18 => ?_)
    · skip
      refine b_iinc (lv' := [(2, .int (z2 (2))), (1, .int (z2 (1))), (0, .ref (bx + 5 + 6 * n))]) hx hb dX2_ringingSet_27 hl (k := 0) rfl (by decide) rfl (fun ls hl => ?_)
      refine lv_goto (tgt := 4) hx hb dX2_ringingSet_30 (by decide) ?_
      refine lv_iload_n hx hb dX2_ringingSet_4 rfl (lv_at hl 0 rfl) ?_
      refine b_iconst hx hb dX2_ringingSet_5 ?_
      refine b_icmp_ge (tgt := 33) hx hb dX2_ringingSet_6 (by decide) ⟨⟨by omega, by omega⟩, ⟨by omega, by omega⟩⟩ (fun c => absurd c (by omega)) (fun _ => ?_)
      refine lv_aload_n hx hb dX2_ringingSet_9 rfl (lv_at hl 2 rfl) ?_
      refine g_get (C := RX2) (T := TX2) (N := 13) hx hb hts inX2 hown hG (hP.hs hn) rfl 2 (by decide) (by decide +kernel) rfl (v := .ref (bx + 5 + 6 * n + 1)) rfl dX2_ringingSet_10 ?_
      refine lv_iload_n hx hb dX2_ringingSet_13 rfl (lv_at hl 0 rfl) ?_
      refine g_aald (n := 3) hx hb hG 2 rfl (hP.ba hn) 2 ⟨by omega, by omega, by decide⟩ dX2_ringingSet_14 (v := .ref (bx + 5 + 6 * n + 3 + 2)) rfl ?_
      have b_15 : 0 ≤ X 32 (3 * n + 2) ∧ X 32 (3 * n + 2) ≤ 1 := hV.1 32 _ rfl
      refine g_getN (C := RX0) (T := TX0) (N := 4) hx hb hts inX0 hown hG (hP.be hn (by decide)) rfl 2 (by decide) (List.mem_of_getElem? (i := 22) rfl) rfl (v := .int (z2 (X 32 (3 * n + 2)))) rfl dX2_ringingSet_15 ?_
      refine b_if_eq (tgt := 27) hx hb dX2_ringingSet_18 (by decide) ⟨by omega, by omega⟩ (fun c_18 => ?_) (fun c_18 => ?_)
      · skip
        refine b_iinc (lv' := [(2, .int (z2 (3))), (1, .int (z2 (1))), (0, .ref (bx + 5 + 6 * n))]) hx hb dX2_ringingSet_27 hl (k := 0) rfl (by decide) rfl (fun ls hl => ?_)
        refine lv_goto (tgt := 4) hx hb dX2_ringingSet_30 (by decide) ?_
        refine lv_iload_n hx hb dX2_ringingSet_4 rfl (lv_at hl 0 rfl) ?_
        refine b_iconst hx hb dX2_ringingSet_5 ?_
        refine b_icmp_ge (tgt := 33) hx hb dX2_ringingSet_6 (by decide) ⟨⟨by omega, by omega⟩, ⟨by omega, by omega⟩⟩ (fun _ => ?_) (fun c => absurd c (by omega))
        refine lv_iload_n hx hb dX2_ringingSet_33 rfl (lv_at hl 1 rfl) ?_
        exact g_iret hx hb hr hlocks hS ⟨Nat.le_of_ble_eq_true rfl, Nat.le_of_ble_eq_true rfl⟩ (⟨congrArg (fun z => some (Value.int (z2 z))) (by unfold rsS; (repeat' split) <;> omega), rfl⟩) dX2_ringingSet_34
      · skip
        refine lv_iload_n hx hb dX2_ringingSet_21 rfl (lv_at hl 1 rfl) ?_
        refine b_iconst hx hb dX2_ringingSet_22 ?_
        refine lv_iload_n hx hb dX2_ringingSet_23 rfl (lv_at hl 0 rfl) ?_
        refine lv_ishl hx hb dX2_ringingSet_24 ?_
        refine b_top (v := 4) (by decide +kernel) ?_
        refine lv_ior hx hb dX2_ringingSet_25 ?_
        refine b_top (v := 5) (by decide +kernel) ?_
        refine lv_istore_n (lv' := [(1, .int (z2 (5))), (2, .int (z2 (2))), (0, .ref (bx + 5 + 6 * n))]) hx hb dX2_ringingSet_26 rfl hl (by decide) rfl (fun ls hl => ?_)
        refine b_iinc (lv' := [(2, .int (z2 (3))), (1, .int (z2 (5))), (0, .ref (bx + 5 + 6 * n))]) hx hb dX2_ringingSet_27 hl (k := 1) rfl (by decide) rfl (fun ls hl => ?_)
        refine lv_goto (tgt := 4) hx hb dX2_ringingSet_30 (by decide) ?_
        refine lv_iload_n hx hb dX2_ringingSet_4 rfl (lv_at hl 0 rfl) ?_
        refine b_iconst hx hb dX2_ringingSet_5 ?_
        refine b_icmp_ge (tgt := 33) hx hb dX2_ringingSet_6 (by decide) ⟨⟨by omega, by omega⟩, ⟨by omega, by omega⟩⟩ (fun _ => ?_) (fun c => absurd c (by omega))
        refine lv_iload_n hx hb dX2_ringingSet_33 rfl (lv_at hl 1 rfl) ?_
        exact g_iret hx hb hr hlocks hS ⟨Nat.le_of_ble_eq_true rfl, Nat.le_of_ble_eq_true rfl⟩ (⟨congrArg (fun z => some (Value.int (z2 z))) (by unfold rsS; (repeat' split) <;> omega), rfl⟩) dX2_ringingSet_34
    · skip
      refine lv_iload_n hx hb dX2_ringingSet_21 rfl (lv_at hl 1 rfl) ?_
      refine b_iconst hx hb dX2_ringingSet_22 ?_
      refine lv_iload_n hx hb dX2_ringingSet_23 rfl (lv_at hl 0 rfl) ?_
      refine lv_ishl hx hb dX2_ringingSet_24 ?_
      refine b_top (v := 2) (by decide +kernel) ?_
      refine lv_ior hx hb dX2_ringingSet_25 ?_
      refine b_top (v := 3) (by decide +kernel) ?_
      refine lv_istore_n (lv' := [(1, .int (z2 (3))), (2, .int (z2 (1))), (0, .ref (bx + 5 + 6 * n))]) hx hb dX2_ringingSet_26 rfl hl (by decide) rfl (fun ls hl => ?_)
      refine b_iinc (lv' := [(2, .int (z2 (2))), (1, .int (z2 (3))), (0, .ref (bx + 5 + 6 * n))]) hx hb dX2_ringingSet_27 hl (k := 1) rfl (by decide) rfl (fun ls hl => ?_)
      refine lv_goto (tgt := 4) hx hb dX2_ringingSet_30 (by decide) ?_
      refine lv_iload_n hx hb dX2_ringingSet_4 rfl (lv_at hl 0 rfl) ?_
      refine b_iconst hx hb dX2_ringingSet_5 ?_
      refine b_icmp_ge (tgt := 33) hx hb dX2_ringingSet_6 (by decide) ⟨⟨by omega, by omega⟩, ⟨by omega, by omega⟩⟩ (fun c => absurd c (by omega)) (fun _ => ?_)
      refine lv_aload_n hx hb dX2_ringingSet_9 rfl (lv_at hl 2 rfl) ?_
      refine g_get (C := RX2) (T := TX2) (N := 13) hx hb hts inX2 hown hG (hP.hs hn) rfl 2 (by decide) (by decide +kernel) rfl (v := .ref (bx + 5 + 6 * n + 1)) rfl dX2_ringingSet_10 ?_
      refine lv_iload_n hx hb dX2_ringingSet_13 rfl (lv_at hl 0 rfl) ?_
      refine g_aald (n := 3) hx hb hG 2 rfl (hP.ba hn) 2 ⟨by omega, by omega, by decide⟩ dX2_ringingSet_14 (v := .ref (bx + 5 + 6 * n + 3 + 2)) rfl ?_
      have b_15 : 0 ≤ X 32 (3 * n + 2) ∧ X 32 (3 * n + 2) ≤ 1 := hV.1 32 _ rfl
      refine g_getN (C := RX0) (T := TX0) (N := 4) hx hb hts inX0 hown hG (hP.be hn (by decide)) rfl 2 (by decide) (List.mem_of_getElem? (i := 22) rfl) rfl (v := .int (z2 (X 32 (3 * n + 2)))) rfl dX2_ringingSet_15 ?_
      refine b_if_eq (tgt := 27) hx hb dX2_ringingSet_18 (by decide) ⟨by omega, by omega⟩ (fun c_18 => ?_) (fun c_18 => ?_)
      · skip
        refine b_iinc (lv' := [(2, .int (z2 (3))), (1, .int (z2 (3))), (0, .ref (bx + 5 + 6 * n))]) hx hb dX2_ringingSet_27 hl (k := 0) rfl (by decide) rfl (fun ls hl => ?_)
        refine lv_goto (tgt := 4) hx hb dX2_ringingSet_30 (by decide) ?_
        refine lv_iload_n hx hb dX2_ringingSet_4 rfl (lv_at hl 0 rfl) ?_
        refine b_iconst hx hb dX2_ringingSet_5 ?_
        refine b_icmp_ge (tgt := 33) hx hb dX2_ringingSet_6 (by decide) ⟨⟨by omega, by omega⟩, ⟨by omega, by omega⟩⟩ (fun _ => ?_) (fun c => absurd c (by omega))
        refine lv_iload_n hx hb dX2_ringingSet_33 rfl (lv_at hl 1 rfl) ?_
        exact g_iret hx hb hr hlocks hS ⟨Nat.le_of_ble_eq_true rfl, Nat.le_of_ble_eq_true rfl⟩ (⟨congrArg (fun z => some (Value.int (z2 z))) (by unfold rsS; (repeat' split) <;> omega), rfl⟩) dX2_ringingSet_34
      · skip
        refine lv_iload_n hx hb dX2_ringingSet_21 rfl (lv_at hl 1 rfl) ?_
        refine b_iconst hx hb dX2_ringingSet_22 ?_
        refine lv_iload_n hx hb dX2_ringingSet_23 rfl (lv_at hl 0 rfl) ?_
        refine lv_ishl hx hb dX2_ringingSet_24 ?_
        refine b_top (v := 4) (by decide +kernel) ?_
        refine lv_ior hx hb dX2_ringingSet_25 ?_
        refine b_top (v := 7) (by decide +kernel) ?_
        refine lv_istore_n (lv' := [(1, .int (z2 (7))), (2, .int (z2 (2))), (0, .ref (bx + 5 + 6 * n))]) hx hb dX2_ringingSet_26 rfl hl (by decide) rfl (fun ls hl => ?_)
        refine b_iinc (lv' := [(2, .int (z2 (3))), (1, .int (z2 (7))), (0, .ref (bx + 5 + 6 * n))]) hx hb dX2_ringingSet_27 hl (k := 1) rfl (by decide) rfl (fun ls hl => ?_)
        refine lv_goto (tgt := 4) hx hb dX2_ringingSet_30 (by decide) ?_
        refine lv_iload_n hx hb dX2_ringingSet_4 rfl (lv_at hl 0 rfl) ?_
        refine b_iconst hx hb dX2_ringingSet_5 ?_
        refine b_icmp_ge (tgt := 33) hx hb dX2_ringingSet_6 (by decide) ⟨⟨by omega, by omega⟩, ⟨by omega, by omega⟩⟩ (fun _ => ?_) (fun c => absurd c (by omega))
        refine lv_iload_n hx hb dX2_ringingSet_33 rfl (lv_at hl 1 rfl) ?_
        exact g_iret hx hb hr hlocks hS ⟨Nat.le_of_ble_eq_true rfl, Nat.le_of_ble_eq_true rfl⟩ (⟨congrArg (fun z => some (Value.int (z2 z))) (by unfold rsS; (repeat' split) <;> omega), rfl⟩) dX2_ringingSet_34
set_option maxHeartbeats 4000000 in
set_option maxRecDepth 100000 in
theorem k_ringingLoad (l : Launch) (D : va_G) (ks : Nat → ClassId) (bx : Nat) (ml : Nat → Nat) (X : Nat → Nat → Int) (H : Heap) (hP : PX D ks bx ml X H) (hV : VX X) {n : Nat} (hn : n < 8) : KM l yX2_ringingLoad wsX2_ringingLoad ({ frames := 0, cells := 0, slots := 0, locals := 0 } : Room) D ks bx [.ref (bx + 5 + 6 * n)] H (RX bx) (fun v H1 => v = some (.int (z2 (rlS X n))) ∧ H1 = H) (fun _ _ => False) := by
  refine KM.of (cc := cX2_ringingLoad) (maxL := 6) (ret := (some .int)) (by decide) rfl (Nat.le_of_ble_eq_true rfl) ?_
  intro p e s m below meth c hx hb hml hr hlocks hown hname hts hext hH0 hG ls hl
  subst hH0
  have hown : s.vm.findClass RX2 = some m.cls := hown
  have hS : va_S (AR (RX bx) s.heap.size) s.heap s.heap [] := va_S.rf
  have hl : lv_has ls 6 [(0, .ref (bx + 5 + 6 * n))] := hl
  have inX0 : ∀ w ∈ wsX00, w ∈ wsX2_ringingLoad := by decide +kernel
  have inX2 : ∀ w ∈ wsX20, w ∈ wsX2_ringingLoad := by decide +kernel
  refine b_iconst hx hb dX2_ringingLoad_0 ?_
  refine lv_istore_n (lv' := [(1, .int (z2 (0))), (0, .ref (bx + 5 + 6 * n))]) hx hb dX2_ringingLoad_1 rfl hl (by decide) rfl (fun ls hl => ?_)
  refine lv_aload_n hx hb dX2_ringingLoad_2 rfl (lv_at hl 1 rfl) ?_
  refine g_get (C := RX2) (T := TX2) (N := 13) hx hb hts inX2 hown hG (hP.hs hn) rfl 2 (by decide) (by decide +kernel) rfl (v := .ref (bx + 5 + 6 * n + 1)) rfl dX2_ringingLoad_3 ?_
  refine lv_astore_n (lv' := [(2, .ref (bx + 5 + 6 * n + 1)), (1, .int (z2 (0))), (0, .ref (bx + 5 + 6 * n))]) hx hb dX2_ringingLoad_6 rfl hl (by decide) rfl (fun ls hl => ?_)
  refine lv_aload_n hx hb dX2_ringingLoad_7 rfl (lv_at hl 0 rfl) ?_
  refine g_alen (n := 3) hx hb hG 2 rfl (hP.ba hn) rfl dX2_ringingLoad_8 ?_
  refine lv_istore_n (lv' := [(3, .int (z2 (3))), (2, .ref (bx + 5 + 6 * n + 1)), (1, .int (z2 (0))), (0, .ref (bx + 5 + 6 * n))]) hx hb dX2_ringingLoad_9 rfl hl (by decide) rfl (fun ls hl => ?_)
  refine b_iconst hx hb dX2_ringingLoad_10 ?_
  refine lv_istore (lv' := [(4, .int (z2 (0))), (3, .int (z2 (3))), (2, .ref (bx + 5 + 6 * n + 1)), (1, .int (z2 (0))), (0, .ref (bx + 5 + 6 * n))]) hx hb dX2_ringingLoad_11 hl (by decide) rfl (fun ls hl => ?_)
  refine lv_iload hx hb dX2_ringingLoad_13 (lv_at hl 0 rfl) ?_
  refine lv_iload_n hx hb dX2_ringingLoad_15 rfl (lv_at hl 1 rfl) ?_
  refine b_icmp_ge (tgt := 47) hx hb dX2_ringingLoad_16 (by decide) ⟨⟨by omega, by omega⟩, ⟨by omega, by omega⟩⟩ (fun c => absurd c (by omega)) (fun _ => ?_)
  refine lv_aload_n hx hb dX2_ringingLoad_19 rfl (lv_at hl 2 rfl) ?_
  refine lv_iload hx hb dX2_ringingLoad_20 (lv_at hl 0 rfl) ?_
  refine g_aald (n := 3) hx hb hG 2 rfl (hP.ba hn) 0 ⟨by omega, by omega, by decide⟩ dX2_ringingLoad_22 (v := .ref (bx + 5 + 6 * n + 3 + 0)) rfl ?_
  refine lv_astore (lv' := [(5, .ref (bx + 5 + 6 * n + 3 + 0)), (4, .int (z2 (0))), (3, .int (z2 (3))), (2, .ref (bx + 5 + 6 * n + 1)), (1, .int (z2 (0))), (0, .ref (bx + 5 + 6 * n))]) hx hb dX2_ringingLoad_23 hl (by decide) rfl (fun ls hl => ?_)
  refine lv_aload hx hb dX2_ringingLoad_25 (lv_at hl 0 rfl) ?_
  have b_27 : 0 ≤ X 32 (3 * n + 0) ∧ X 32 (3 * n + 0) ≤ 1 := hV.1 32 _ rfl
  refine g_getN (C := RX0) (T := TX0) (N := 4) hx hb hts inX0 hown hG (hP.be hn (by decide)) rfl 2 (by decide) (List.mem_of_getElem? (i := 22) rfl) rfl (v := .int (z2 (X 32 (3 * n + 0)))) rfl dX2_ringingLoad_27 ?_
  refine b_if_eq (tgt := 41) hx hb dX2_ringingLoad_30 (by decide) ⟨by omega, by omega⟩ (fun c_30 => ?_) (fun c_30 => ?_)
  · skip
    refine b_iinc (lv' := [(4, .int (z2 (1))), (5, .ref (bx + 5 + 6 * n + 3 + 0)), (3, .int (z2 (3))), (2, .ref (bx + 5 + 6 * n + 1)), (1, .int (z2 (0))), (0, .ref (bx + 5 + 6 * n))]) hx hb dX2_ringingLoad_41 hl (k := 1) rfl (by decide) rfl (fun ls hl => ?_)
    refine lv_goto (tgt := 13) hx hb dX2_ringingLoad_44 (by decide) ?_
    refine lv_iload hx hb dX2_ringingLoad_13 (lv_at hl 0 rfl) ?_
    refine lv_iload_n hx hb dX2_ringingLoad_15 rfl (lv_at hl 2 rfl) ?_
    refine b_icmp_ge (tgt := 47) hx hb dX2_ringingLoad_16 (by decide) ⟨⟨by omega, by omega⟩, ⟨by omega, by omega⟩⟩ (fun c => absurd c (by omega)) (fun _ => ?_)
    refine lv_aload_n hx hb dX2_ringingLoad_19 rfl (lv_at hl 3 rfl) ?_
    refine lv_iload hx hb dX2_ringingLoad_20 (lv_at hl 0 rfl) ?_
    refine g_aald (n := 3) hx hb hG 2 rfl (hP.ba hn) 1 ⟨by omega, by omega, by decide⟩ dX2_ringingLoad_22 (v := .ref (bx + 5 + 6 * n + 3 + 1)) rfl ?_
    refine lv_astore (lv' := [(5, .ref (bx + 5 + 6 * n + 3 + 1)), (4, .int (z2 (1))), (3, .int (z2 (3))), (2, .ref (bx + 5 + 6 * n + 1)), (1, .int (z2 (0))), (0, .ref (bx + 5 + 6 * n))]) hx hb dX2_ringingLoad_23 hl (by decide) rfl (fun ls hl => ?_)
    refine lv_aload hx hb dX2_ringingLoad_25 (lv_at hl 0 rfl) ?_
    have b_27 : 0 ≤ X 32 (3 * n + 1) ∧ X 32 (3 * n + 1) ≤ 1 := hV.1 32 _ rfl
    refine g_getN (C := RX0) (T := TX0) (N := 4) hx hb hts inX0 hown hG (hP.be hn (by decide)) rfl 2 (by decide) (List.mem_of_getElem? (i := 22) rfl) rfl (v := .int (z2 (X 32 (3 * n + 1)))) rfl dX2_ringingLoad_27 ?_
    refine b_if_eq (tgt := 41) hx hb dX2_ringingLoad_30 (by decide) ⟨by omega, by omega⟩ (fun c_30 => ?_) (fun c_30 => ?_)
    · skip
      refine b_iinc (lv' := [(4, .int (z2 (2))), (5, .ref (bx + 5 + 6 * n + 3 + 1)), (3, .int (z2 (3))), (2, .ref (bx + 5 + 6 * n + 1)), (1, .int (z2 (0))), (0, .ref (bx + 5 + 6 * n))]) hx hb dX2_ringingLoad_41 hl (k := 1) rfl (by decide) rfl (fun ls hl => ?_)
      refine lv_goto (tgt := 13) hx hb dX2_ringingLoad_44 (by decide) ?_
      refine lv_iload hx hb dX2_ringingLoad_13 (lv_at hl 0 rfl) ?_
      refine lv_iload_n hx hb dX2_ringingLoad_15 rfl (lv_at hl 2 rfl) ?_
      refine b_icmp_ge (tgt := 47) hx hb dX2_ringingLoad_16 (by decide) ⟨⟨by omega, by omega⟩, ⟨by omega, by omega⟩⟩ (fun c => absurd c (by omega)) (fun _ => ?_)
      refine lv_aload_n hx hb dX2_ringingLoad_19 rfl (lv_at hl 3 rfl) ?_
      refine lv_iload hx hb dX2_ringingLoad_20 (lv_at hl 0 rfl) ?_
      refine g_aald (n := 3) hx hb hG 2 rfl (hP.ba hn) 2 ⟨by omega, by omega, by decide⟩ dX2_ringingLoad_22 (v := .ref (bx + 5 + 6 * n + 3 + 2)) rfl ?_
      refine lv_astore (lv' := [(5, .ref (bx + 5 + 6 * n + 3 + 2)), (4, .int (z2 (2))), (3, .int (z2 (3))), (2, .ref (bx + 5 + 6 * n + 1)), (1, .int (z2 (0))), (0, .ref (bx + 5 + 6 * n))]) hx hb dX2_ringingLoad_23 hl (by decide) rfl (fun ls hl => ?_)
      refine lv_aload hx hb dX2_ringingLoad_25 (lv_at hl 0 rfl) ?_
      have b_27 : 0 ≤ X 32 (3 * n + 2) ∧ X 32 (3 * n + 2) ≤ 1 := hV.1 32 _ rfl
      refine g_getN (C := RX0) (T := TX0) (N := 4) hx hb hts inX0 hown hG (hP.be hn (by decide)) rfl 2 (by decide) (List.mem_of_getElem? (i := 22) rfl) rfl (v := .int (z2 (X 32 (3 * n + 2)))) rfl dX2_ringingLoad_27 ?_
      refine b_if_eq (tgt := 41) hx hb dX2_ringingLoad_30 (by decide) ⟨by omega, by omega⟩ (fun c_30 => ?_) (fun c_30 => ?_)
      · skip
        refine b_iinc (lv' := [(4, .int (z2 (3))), (5, .ref (bx + 5 + 6 * n + 3 + 2)), (3, .int (z2 (3))), (2, .ref (bx + 5 + 6 * n + 1)), (1, .int (z2 (0))), (0, .ref (bx + 5 + 6 * n))]) hx hb dX2_ringingLoad_41 hl (k := 1) rfl (by decide) rfl (fun ls hl => ?_)
        refine lv_goto (tgt := 13) hx hb dX2_ringingLoad_44 (by decide) ?_
        refine lv_iload hx hb dX2_ringingLoad_13 (lv_at hl 0 rfl) ?_
        refine lv_iload_n hx hb dX2_ringingLoad_15 rfl (lv_at hl 2 rfl) ?_
        refine b_icmp_ge (tgt := 47) hx hb dX2_ringingLoad_16 (by decide) ⟨⟨by omega, by omega⟩, ⟨by omega, by omega⟩⟩ (fun _ => ?_) (fun c => absurd c (by omega))
        refine lv_iload_n hx hb dX2_ringingLoad_47 rfl (lv_at hl 4 rfl) ?_
        exact g_iret hx hb hr hlocks hS ⟨Nat.le_of_ble_eq_true rfl, Nat.le_of_ble_eq_true rfl⟩ (⟨congrArg (fun z => some (Value.int (z2 z))) (by unfold rlS; (repeat' split) <;> omega), rfl⟩) dX2_ringingLoad_48
      · skip
        refine lv_iload_n hx hb dX2_ringingLoad_33 rfl (lv_at hl 4 rfl) ?_
        refine lv_aload hx hb dX2_ringingLoad_34 (lv_at hl 0 rfl) ?_
        have b_36 : 1 ≤ X 31 (3 * n + 2) ∧ X 31 (3 * n + 2) ≤ 9 := hV.1 31 _ rfl
        refine g_getN (C := RX0) (T := TX0) (N := 4) hx hb hts inX0 hown hG (hP.be hn (by decide)) rfl 1 (by decide) (List.mem_of_getElem? (i := 23) rfl) rfl (v := .int (z2 (X 31 (3 * n + 2)))) rfl dX2_ringingLoad_36 ?_
        refine b_iadd hx hb dX2_ringingLoad_39 ?_
        refine lv_istore_n (lv' := [(1, .int (z2 (0 + (X 31 (3 * n + 2))))), (5, .ref (bx + 5 + 6 * n + 3 + 2)), (4, .int (z2 (2))), (3, .int (z2 (3))), (2, .ref (bx + 5 + 6 * n + 1)), (0, .ref (bx + 5 + 6 * n))]) hx hb dX2_ringingLoad_40 rfl hl (by decide) rfl (fun ls hl => ?_)
        refine b_iinc (lv' := [(4, .int (z2 (3))), (1, .int (z2 (0 + (X 31 (3 * n + 2))))), (5, .ref (bx + 5 + 6 * n + 3 + 2)), (3, .int (z2 (3))), (2, .ref (bx + 5 + 6 * n + 1)), (0, .ref (bx + 5 + 6 * n))]) hx hb dX2_ringingLoad_41 hl (k := 2) rfl (by decide) rfl (fun ls hl => ?_)
        refine lv_goto (tgt := 13) hx hb dX2_ringingLoad_44 (by decide) ?_
        refine lv_iload hx hb dX2_ringingLoad_13 (lv_at hl 0 rfl) ?_
        refine lv_iload_n hx hb dX2_ringingLoad_15 rfl (lv_at hl 3 rfl) ?_
        refine b_icmp_ge (tgt := 47) hx hb dX2_ringingLoad_16 (by decide) ⟨⟨by omega, by omega⟩, ⟨by omega, by omega⟩⟩ (fun _ => ?_) (fun c => absurd c (by omega))
        refine lv_iload_n hx hb dX2_ringingLoad_47 rfl (lv_at hl 1 rfl) ?_
        exact g_iret hx hb hr hlocks hS ⟨Nat.le_of_ble_eq_true rfl, Nat.le_of_ble_eq_true rfl⟩ (⟨congrArg (fun z => some (Value.int (z2 z))) (by unfold rlS; (repeat' split) <;> omega), rfl⟩) dX2_ringingLoad_48
    · skip
      refine lv_iload_n hx hb dX2_ringingLoad_33 rfl (lv_at hl 4 rfl) ?_
      refine lv_aload hx hb dX2_ringingLoad_34 (lv_at hl 0 rfl) ?_
      have b_36 : 1 ≤ X 31 (3 * n + 1) ∧ X 31 (3 * n + 1) ≤ 9 := hV.1 31 _ rfl
      refine g_getN (C := RX0) (T := TX0) (N := 4) hx hb hts inX0 hown hG (hP.be hn (by decide)) rfl 1 (by decide) (List.mem_of_getElem? (i := 23) rfl) rfl (v := .int (z2 (X 31 (3 * n + 1)))) rfl dX2_ringingLoad_36 ?_
      refine b_iadd hx hb dX2_ringingLoad_39 ?_
      refine lv_istore_n (lv' := [(1, .int (z2 (0 + (X 31 (3 * n + 1))))), (5, .ref (bx + 5 + 6 * n + 3 + 1)), (4, .int (z2 (1))), (3, .int (z2 (3))), (2, .ref (bx + 5 + 6 * n + 1)), (0, .ref (bx + 5 + 6 * n))]) hx hb dX2_ringingLoad_40 rfl hl (by decide) rfl (fun ls hl => ?_)
      refine b_iinc (lv' := [(4, .int (z2 (2))), (1, .int (z2 (0 + (X 31 (3 * n + 1))))), (5, .ref (bx + 5 + 6 * n + 3 + 1)), (3, .int (z2 (3))), (2, .ref (bx + 5 + 6 * n + 1)), (0, .ref (bx + 5 + 6 * n))]) hx hb dX2_ringingLoad_41 hl (k := 2) rfl (by decide) rfl (fun ls hl => ?_)
      refine lv_goto (tgt := 13) hx hb dX2_ringingLoad_44 (by decide) ?_
      refine lv_iload hx hb dX2_ringingLoad_13 (lv_at hl 0 rfl) ?_
      refine lv_iload_n hx hb dX2_ringingLoad_15 rfl (lv_at hl 3 rfl) ?_
      refine b_icmp_ge (tgt := 47) hx hb dX2_ringingLoad_16 (by decide) ⟨⟨by omega, by omega⟩, ⟨by omega, by omega⟩⟩ (fun c => absurd c (by omega)) (fun _ => ?_)
      refine lv_aload_n hx hb dX2_ringingLoad_19 rfl (lv_at hl 4 rfl) ?_
      refine lv_iload hx hb dX2_ringingLoad_20 (lv_at hl 0 rfl) ?_
      refine g_aald (n := 3) hx hb hG 2 rfl (hP.ba hn) 2 ⟨by omega, by omega, by decide⟩ dX2_ringingLoad_22 (v := .ref (bx + 5 + 6 * n + 3 + 2)) rfl ?_
      refine lv_astore (lv' := [(5, .ref (bx + 5 + 6 * n + 3 + 2)), (4, .int (z2 (2))), (1, .int (z2 (0 + (X 31 (3 * n + 1))))), (3, .int (z2 (3))), (2, .ref (bx + 5 + 6 * n + 1)), (0, .ref (bx + 5 + 6 * n))]) hx hb dX2_ringingLoad_23 hl (by decide) rfl (fun ls hl => ?_)
      refine lv_aload hx hb dX2_ringingLoad_25 (lv_at hl 0 rfl) ?_
      have b_27 : 0 ≤ X 32 (3 * n + 2) ∧ X 32 (3 * n + 2) ≤ 1 := hV.1 32 _ rfl
      refine g_getN (C := RX0) (T := TX0) (N := 4) hx hb hts inX0 hown hG (hP.be hn (by decide)) rfl 2 (by decide) (List.mem_of_getElem? (i := 22) rfl) rfl (v := .int (z2 (X 32 (3 * n + 2)))) rfl dX2_ringingLoad_27 ?_
      refine b_if_eq (tgt := 41) hx hb dX2_ringingLoad_30 (by decide) ⟨by omega, by omega⟩ (fun c_30 => ?_) (fun c_30 => ?_)
      · skip
        refine b_iinc (lv' := [(4, .int (z2 (3))), (5, .ref (bx + 5 + 6 * n + 3 + 2)), (1, .int (z2 (0 + (X 31 (3 * n + 1))))), (3, .int (z2 (3))), (2, .ref (bx + 5 + 6 * n + 1)), (0, .ref (bx + 5 + 6 * n))]) hx hb dX2_ringingLoad_41 hl (k := 1) rfl (by decide) rfl (fun ls hl => ?_)
        refine lv_goto (tgt := 13) hx hb dX2_ringingLoad_44 (by decide) ?_
        refine lv_iload hx hb dX2_ringingLoad_13 (lv_at hl 0 rfl) ?_
        refine lv_iload_n hx hb dX2_ringingLoad_15 rfl (lv_at hl 3 rfl) ?_
        refine b_icmp_ge (tgt := 47) hx hb dX2_ringingLoad_16 (by decide) ⟨⟨by omega, by omega⟩, ⟨by omega, by omega⟩⟩ (fun _ => ?_) (fun c => absurd c (by omega))
        refine lv_iload_n hx hb dX2_ringingLoad_47 rfl (lv_at hl 2 rfl) ?_
        exact g_iret hx hb hr hlocks hS ⟨Nat.le_of_ble_eq_true rfl, Nat.le_of_ble_eq_true rfl⟩ (⟨congrArg (fun z => some (Value.int (z2 z))) (by unfold rlS; (repeat' split) <;> omega), rfl⟩) dX2_ringingLoad_48
      · skip
        refine lv_iload_n hx hb dX2_ringingLoad_33 rfl (lv_at hl 2 rfl) ?_
        refine lv_aload hx hb dX2_ringingLoad_34 (lv_at hl 0 rfl) ?_
        have b_36 : 1 ≤ X 31 (3 * n + 2) ∧ X 31 (3 * n + 2) ≤ 9 := hV.1 31 _ rfl
        refine g_getN (C := RX0) (T := TX0) (N := 4) hx hb hts inX0 hown hG (hP.be hn (by decide)) rfl 1 (by decide) (List.mem_of_getElem? (i := 23) rfl) rfl (v := .int (z2 (X 31 (3 * n + 2)))) rfl dX2_ringingLoad_36 ?_
        refine b_iadd hx hb dX2_ringingLoad_39 ?_
        refine lv_istore_n (lv' := [(1, .int (z2 ((0 + (X 31 (3 * n + 1))) + (X 31 (3 * n + 2))))), (5, .ref (bx + 5 + 6 * n + 3 + 2)), (4, .int (z2 (2))), (3, .int (z2 (3))), (2, .ref (bx + 5 + 6 * n + 1)), (0, .ref (bx + 5 + 6 * n))]) hx hb dX2_ringingLoad_40 rfl hl (by decide) rfl (fun ls hl => ?_)
        refine b_iinc (lv' := [(4, .int (z2 (3))), (1, .int (z2 ((0 + (X 31 (3 * n + 1))) + (X 31 (3 * n + 2))))), (5, .ref (bx + 5 + 6 * n + 3 + 2)), (3, .int (z2 (3))), (2, .ref (bx + 5 + 6 * n + 1)), (0, .ref (bx + 5 + 6 * n))]) hx hb dX2_ringingLoad_41 hl (k := 2) rfl (by decide) rfl (fun ls hl => ?_)
        refine lv_goto (tgt := 13) hx hb dX2_ringingLoad_44 (by decide) ?_
        refine lv_iload hx hb dX2_ringingLoad_13 (lv_at hl 0 rfl) ?_
        refine lv_iload_n hx hb dX2_ringingLoad_15 rfl (lv_at hl 3 rfl) ?_
        refine b_icmp_ge (tgt := 47) hx hb dX2_ringingLoad_16 (by decide) ⟨⟨by omega, by omega⟩, ⟨by omega, by omega⟩⟩ (fun _ => ?_) (fun c => absurd c (by omega))
        refine lv_iload_n hx hb dX2_ringingLoad_47 rfl (lv_at hl 1 rfl) ?_
        exact g_iret hx hb hr hlocks hS ⟨Nat.le_of_ble_eq_true rfl, Nat.le_of_ble_eq_true rfl⟩ (⟨congrArg (fun z => some (Value.int (z2 z))) (by unfold rlS; (repeat' split) <;> omega), rfl⟩) dX2_ringingLoad_48
  · skip
    refine lv_iload_n hx hb dX2_ringingLoad_33 rfl (lv_at hl 4 rfl) ?_
    refine lv_aload hx hb dX2_ringingLoad_34 (lv_at hl 0 rfl) ?_
    have b_36 : 1 ≤ X 31 (3 * n + 0) ∧ X 31 (3 * n + 0) ≤ 9 := hV.1 31 _ rfl
    refine g_getN (C := RX0) (T := TX0) (N := 4) hx hb hts inX0 hown hG (hP.be hn (by decide)) rfl 1 (by decide) (List.mem_of_getElem? (i := 23) rfl) rfl (v := .int (z2 (X 31 (3 * n + 0)))) rfl dX2_ringingLoad_36 ?_
    refine b_iadd hx hb dX2_ringingLoad_39 ?_
    refine lv_istore_n (lv' := [(1, .int (z2 (0 + (X 31 (3 * n + 0))))), (5, .ref (bx + 5 + 6 * n + 3 + 0)), (4, .int (z2 (0))), (3, .int (z2 (3))), (2, .ref (bx + 5 + 6 * n + 1)), (0, .ref (bx + 5 + 6 * n))]) hx hb dX2_ringingLoad_40 rfl hl (by decide) rfl (fun ls hl => ?_)
    refine b_iinc (lv' := [(4, .int (z2 (1))), (1, .int (z2 (0 + (X 31 (3 * n + 0))))), (5, .ref (bx + 5 + 6 * n + 3 + 0)), (3, .int (z2 (3))), (2, .ref (bx + 5 + 6 * n + 1)), (0, .ref (bx + 5 + 6 * n))]) hx hb dX2_ringingLoad_41 hl (k := 2) rfl (by decide) rfl (fun ls hl => ?_)
    refine lv_goto (tgt := 13) hx hb dX2_ringingLoad_44 (by decide) ?_
    refine lv_iload hx hb dX2_ringingLoad_13 (lv_at hl 0 rfl) ?_
    refine lv_iload_n hx hb dX2_ringingLoad_15 rfl (lv_at hl 3 rfl) ?_
    refine b_icmp_ge (tgt := 47) hx hb dX2_ringingLoad_16 (by decide) ⟨⟨by omega, by omega⟩, ⟨by omega, by omega⟩⟩ (fun c => absurd c (by omega)) (fun _ => ?_)
    refine lv_aload_n hx hb dX2_ringingLoad_19 rfl (lv_at hl 4 rfl) ?_
    refine lv_iload hx hb dX2_ringingLoad_20 (lv_at hl 0 rfl) ?_
    refine g_aald (n := 3) hx hb hG 2 rfl (hP.ba hn) 1 ⟨by omega, by omega, by decide⟩ dX2_ringingLoad_22 (v := .ref (bx + 5 + 6 * n + 3 + 1)) rfl ?_
    refine lv_astore (lv' := [(5, .ref (bx + 5 + 6 * n + 3 + 1)), (4, .int (z2 (1))), (1, .int (z2 (0 + (X 31 (3 * n + 0))))), (3, .int (z2 (3))), (2, .ref (bx + 5 + 6 * n + 1)), (0, .ref (bx + 5 + 6 * n))]) hx hb dX2_ringingLoad_23 hl (by decide) rfl (fun ls hl => ?_)
    refine lv_aload hx hb dX2_ringingLoad_25 (lv_at hl 0 rfl) ?_
    have b_27 : 0 ≤ X 32 (3 * n + 1) ∧ X 32 (3 * n + 1) ≤ 1 := hV.1 32 _ rfl
    refine g_getN (C := RX0) (T := TX0) (N := 4) hx hb hts inX0 hown hG (hP.be hn (by decide)) rfl 2 (by decide) (List.mem_of_getElem? (i := 22) rfl) rfl (v := .int (z2 (X 32 (3 * n + 1)))) rfl dX2_ringingLoad_27 ?_
    refine b_if_eq (tgt := 41) hx hb dX2_ringingLoad_30 (by decide) ⟨by omega, by omega⟩ (fun c_30 => ?_) (fun c_30 => ?_)
    · skip
      refine b_iinc (lv' := [(4, .int (z2 (2))), (5, .ref (bx + 5 + 6 * n + 3 + 1)), (1, .int (z2 (0 + (X 31 (3 * n + 0))))), (3, .int (z2 (3))), (2, .ref (bx + 5 + 6 * n + 1)), (0, .ref (bx + 5 + 6 * n))]) hx hb dX2_ringingLoad_41 hl (k := 1) rfl (by decide) rfl (fun ls hl => ?_)
      refine lv_goto (tgt := 13) hx hb dX2_ringingLoad_44 (by decide) ?_
      refine lv_iload hx hb dX2_ringingLoad_13 (lv_at hl 0 rfl) ?_
      refine lv_iload_n hx hb dX2_ringingLoad_15 rfl (lv_at hl 3 rfl) ?_
      refine b_icmp_ge (tgt := 47) hx hb dX2_ringingLoad_16 (by decide) ⟨⟨by omega, by omega⟩, ⟨by omega, by omega⟩⟩ (fun c => absurd c (by omega)) (fun _ => ?_)
      refine lv_aload_n hx hb dX2_ringingLoad_19 rfl (lv_at hl 4 rfl) ?_
      refine lv_iload hx hb dX2_ringingLoad_20 (lv_at hl 0 rfl) ?_
      refine g_aald (n := 3) hx hb hG 2 rfl (hP.ba hn) 2 ⟨by omega, by omega, by decide⟩ dX2_ringingLoad_22 (v := .ref (bx + 5 + 6 * n + 3 + 2)) rfl ?_
      refine lv_astore (lv' := [(5, .ref (bx + 5 + 6 * n + 3 + 2)), (4, .int (z2 (2))), (1, .int (z2 (0 + (X 31 (3 * n + 0))))), (3, .int (z2 (3))), (2, .ref (bx + 5 + 6 * n + 1)), (0, .ref (bx + 5 + 6 * n))]) hx hb dX2_ringingLoad_23 hl (by decide) rfl (fun ls hl => ?_)
      refine lv_aload hx hb dX2_ringingLoad_25 (lv_at hl 0 rfl) ?_
      have b_27 : 0 ≤ X 32 (3 * n + 2) ∧ X 32 (3 * n + 2) ≤ 1 := hV.1 32 _ rfl
      refine g_getN (C := RX0) (T := TX0) (N := 4) hx hb hts inX0 hown hG (hP.be hn (by decide)) rfl 2 (by decide) (List.mem_of_getElem? (i := 22) rfl) rfl (v := .int (z2 (X 32 (3 * n + 2)))) rfl dX2_ringingLoad_27 ?_
      refine b_if_eq (tgt := 41) hx hb dX2_ringingLoad_30 (by decide) ⟨by omega, by omega⟩ (fun c_30 => ?_) (fun c_30 => ?_)
      · skip
        refine b_iinc (lv' := [(4, .int (z2 (3))), (5, .ref (bx + 5 + 6 * n + 3 + 2)), (1, .int (z2 (0 + (X 31 (3 * n + 0))))), (3, .int (z2 (3))), (2, .ref (bx + 5 + 6 * n + 1)), (0, .ref (bx + 5 + 6 * n))]) hx hb dX2_ringingLoad_41 hl (k := 1) rfl (by decide) rfl (fun ls hl => ?_)
        refine lv_goto (tgt := 13) hx hb dX2_ringingLoad_44 (by decide) ?_
        refine lv_iload hx hb dX2_ringingLoad_13 (lv_at hl 0 rfl) ?_
        refine lv_iload_n hx hb dX2_ringingLoad_15 rfl (lv_at hl 3 rfl) ?_
        refine b_icmp_ge (tgt := 47) hx hb dX2_ringingLoad_16 (by decide) ⟨⟨by omega, by omega⟩, ⟨by omega, by omega⟩⟩ (fun _ => ?_) (fun c => absurd c (by omega))
        refine lv_iload_n hx hb dX2_ringingLoad_47 rfl (lv_at hl 2 rfl) ?_
        exact g_iret hx hb hr hlocks hS ⟨Nat.le_of_ble_eq_true rfl, Nat.le_of_ble_eq_true rfl⟩ (⟨congrArg (fun z => some (Value.int (z2 z))) (by unfold rlS; (repeat' split) <;> omega), rfl⟩) dX2_ringingLoad_48
      · skip
        refine lv_iload_n hx hb dX2_ringingLoad_33 rfl (lv_at hl 2 rfl) ?_
        refine lv_aload hx hb dX2_ringingLoad_34 (lv_at hl 0 rfl) ?_
        have b_36 : 1 ≤ X 31 (3 * n + 2) ∧ X 31 (3 * n + 2) ≤ 9 := hV.1 31 _ rfl
        refine g_getN (C := RX0) (T := TX0) (N := 4) hx hb hts inX0 hown hG (hP.be hn (by decide)) rfl 1 (by decide) (List.mem_of_getElem? (i := 23) rfl) rfl (v := .int (z2 (X 31 (3 * n + 2)))) rfl dX2_ringingLoad_36 ?_
        refine b_iadd hx hb dX2_ringingLoad_39 ?_
        refine lv_istore_n (lv' := [(1, .int (z2 ((0 + (X 31 (3 * n + 0))) + (X 31 (3 * n + 2))))), (5, .ref (bx + 5 + 6 * n + 3 + 2)), (4, .int (z2 (2))), (3, .int (z2 (3))), (2, .ref (bx + 5 + 6 * n + 1)), (0, .ref (bx + 5 + 6 * n))]) hx hb dX2_ringingLoad_40 rfl hl (by decide) rfl (fun ls hl => ?_)
        refine b_iinc (lv' := [(4, .int (z2 (3))), (1, .int (z2 ((0 + (X 31 (3 * n + 0))) + (X 31 (3 * n + 2))))), (5, .ref (bx + 5 + 6 * n + 3 + 2)), (3, .int (z2 (3))), (2, .ref (bx + 5 + 6 * n + 1)), (0, .ref (bx + 5 + 6 * n))]) hx hb dX2_ringingLoad_41 hl (k := 2) rfl (by decide) rfl (fun ls hl => ?_)
        refine lv_goto (tgt := 13) hx hb dX2_ringingLoad_44 (by decide) ?_
        refine lv_iload hx hb dX2_ringingLoad_13 (lv_at hl 0 rfl) ?_
        refine lv_iload_n hx hb dX2_ringingLoad_15 rfl (lv_at hl 3 rfl) ?_
        refine b_icmp_ge (tgt := 47) hx hb dX2_ringingLoad_16 (by decide) ⟨⟨by omega, by omega⟩, ⟨by omega, by omega⟩⟩ (fun _ => ?_) (fun c => absurd c (by omega))
        refine lv_iload_n hx hb dX2_ringingLoad_47 rfl (lv_at hl 1 rfl) ?_
        exact g_iret hx hb hr hlocks hS ⟨Nat.le_of_ble_eq_true rfl, Nat.le_of_ble_eq_true rfl⟩ (⟨congrArg (fun z => some (Value.int (z2 z))) (by unfold rlS; (repeat' split) <;> omega), rfl⟩) dX2_ringingLoad_48
    · skip
      refine lv_iload_n hx hb dX2_ringingLoad_33 rfl (lv_at hl 2 rfl) ?_
      refine lv_aload hx hb dX2_ringingLoad_34 (lv_at hl 0 rfl) ?_
      have b_36 : 1 ≤ X 31 (3 * n + 1) ∧ X 31 (3 * n + 1) ≤ 9 := hV.1 31 _ rfl
      refine g_getN (C := RX0) (T := TX0) (N := 4) hx hb hts inX0 hown hG (hP.be hn (by decide)) rfl 1 (by decide) (List.mem_of_getElem? (i := 23) rfl) rfl (v := .int (z2 (X 31 (3 * n + 1)))) rfl dX2_ringingLoad_36 ?_
      refine b_iadd hx hb dX2_ringingLoad_39 ?_
      refine lv_istore_n (lv' := [(1, .int (z2 ((0 + (X 31 (3 * n + 0))) + (X 31 (3 * n + 1))))), (5, .ref (bx + 5 + 6 * n + 3 + 1)), (4, .int (z2 (1))), (3, .int (z2 (3))), (2, .ref (bx + 5 + 6 * n + 1)), (0, .ref (bx + 5 + 6 * n))]) hx hb dX2_ringingLoad_40 rfl hl (by decide) rfl (fun ls hl => ?_)
      refine b_iinc (lv' := [(4, .int (z2 (2))), (1, .int (z2 ((0 + (X 31 (3 * n + 0))) + (X 31 (3 * n + 1))))), (5, .ref (bx + 5 + 6 * n + 3 + 1)), (3, .int (z2 (3))), (2, .ref (bx + 5 + 6 * n + 1)), (0, .ref (bx + 5 + 6 * n))]) hx hb dX2_ringingLoad_41 hl (k := 2) rfl (by decide) rfl (fun ls hl => ?_)
      refine lv_goto (tgt := 13) hx hb dX2_ringingLoad_44 (by decide) ?_
      refine lv_iload hx hb dX2_ringingLoad_13 (lv_at hl 0 rfl) ?_
      refine lv_iload_n hx hb dX2_ringingLoad_15 rfl (lv_at hl 3 rfl) ?_
      refine b_icmp_ge (tgt := 47) hx hb dX2_ringingLoad_16 (by decide) ⟨⟨by omega, by omega⟩, ⟨by omega, by omega⟩⟩ (fun c => absurd c (by omega)) (fun _ => ?_)
      refine lv_aload_n hx hb dX2_ringingLoad_19 rfl (lv_at hl 4 rfl) ?_
      refine lv_iload hx hb dX2_ringingLoad_20 (lv_at hl 0 rfl) ?_
      refine g_aald (n := 3) hx hb hG 2 rfl (hP.ba hn) 2 ⟨by omega, by omega, by decide⟩ dX2_ringingLoad_22 (v := .ref (bx + 5 + 6 * n + 3 + 2)) rfl ?_
      refine lv_astore (lv' := [(5, .ref (bx + 5 + 6 * n + 3 + 2)), (4, .int (z2 (2))), (1, .int (z2 ((0 + (X 31 (3 * n + 0))) + (X 31 (3 * n + 1))))), (3, .int (z2 (3))), (2, .ref (bx + 5 + 6 * n + 1)), (0, .ref (bx + 5 + 6 * n))]) hx hb dX2_ringingLoad_23 hl (by decide) rfl (fun ls hl => ?_)
      refine lv_aload hx hb dX2_ringingLoad_25 (lv_at hl 0 rfl) ?_
      have b_27 : 0 ≤ X 32 (3 * n + 2) ∧ X 32 (3 * n + 2) ≤ 1 := hV.1 32 _ rfl
      refine g_getN (C := RX0) (T := TX0) (N := 4) hx hb hts inX0 hown hG (hP.be hn (by decide)) rfl 2 (by decide) (List.mem_of_getElem? (i := 22) rfl) rfl (v := .int (z2 (X 32 (3 * n + 2)))) rfl dX2_ringingLoad_27 ?_
      refine b_if_eq (tgt := 41) hx hb dX2_ringingLoad_30 (by decide) ⟨by omega, by omega⟩ (fun c_30 => ?_) (fun c_30 => ?_)
      · skip
        refine b_iinc (lv' := [(4, .int (z2 (3))), (5, .ref (bx + 5 + 6 * n + 3 + 2)), (1, .int (z2 ((0 + (X 31 (3 * n + 0))) + (X 31 (3 * n + 1))))), (3, .int (z2 (3))), (2, .ref (bx + 5 + 6 * n + 1)), (0, .ref (bx + 5 + 6 * n))]) hx hb dX2_ringingLoad_41 hl (k := 1) rfl (by decide) rfl (fun ls hl => ?_)
        refine lv_goto (tgt := 13) hx hb dX2_ringingLoad_44 (by decide) ?_
        refine lv_iload hx hb dX2_ringingLoad_13 (lv_at hl 0 rfl) ?_
        refine lv_iload_n hx hb dX2_ringingLoad_15 rfl (lv_at hl 3 rfl) ?_
        refine b_icmp_ge (tgt := 47) hx hb dX2_ringingLoad_16 (by decide) ⟨⟨by omega, by omega⟩, ⟨by omega, by omega⟩⟩ (fun _ => ?_) (fun c => absurd c (by omega))
        refine lv_iload_n hx hb dX2_ringingLoad_47 rfl (lv_at hl 2 rfl) ?_
        exact g_iret hx hb hr hlocks hS ⟨Nat.le_of_ble_eq_true rfl, Nat.le_of_ble_eq_true rfl⟩ (⟨congrArg (fun z => some (Value.int (z2 z))) (by unfold rlS; (repeat' split) <;> omega), rfl⟩) dX2_ringingLoad_48
      · skip
        refine lv_iload_n hx hb dX2_ringingLoad_33 rfl (lv_at hl 2 rfl) ?_
        refine lv_aload hx hb dX2_ringingLoad_34 (lv_at hl 0 rfl) ?_
        have b_36 : 1 ≤ X 31 (3 * n + 2) ∧ X 31 (3 * n + 2) ≤ 9 := hV.1 31 _ rfl
        refine g_getN (C := RX0) (T := TX0) (N := 4) hx hb hts inX0 hown hG (hP.be hn (by decide)) rfl 1 (by decide) (List.mem_of_getElem? (i := 23) rfl) rfl (v := .int (z2 (X 31 (3 * n + 2)))) rfl dX2_ringingLoad_36 ?_
        refine b_iadd hx hb dX2_ringingLoad_39 ?_
        refine lv_istore_n (lv' := [(1, .int (z2 (((0 + (X 31 (3 * n + 0))) + (X 31 (3 * n + 1))) + (X 31 (3 * n + 2))))), (5, .ref (bx + 5 + 6 * n + 3 + 2)), (4, .int (z2 (2))), (3, .int (z2 (3))), (2, .ref (bx + 5 + 6 * n + 1)), (0, .ref (bx + 5 + 6 * n))]) hx hb dX2_ringingLoad_40 rfl hl (by decide) rfl (fun ls hl => ?_)
        refine b_iinc (lv' := [(4, .int (z2 (3))), (1, .int (z2 (((0 + (X 31 (3 * n + 0))) + (X 31 (3 * n + 1))) + (X 31 (3 * n + 2))))), (5, .ref (bx + 5 + 6 * n + 3 + 2)), (3, .int (z2 (3))), (2, .ref (bx + 5 + 6 * n + 1)), (0, .ref (bx + 5 + 6 * n))]) hx hb dX2_ringingLoad_41 hl (k := 2) rfl (by decide) rfl (fun ls hl => ?_)
        refine lv_goto (tgt := 13) hx hb dX2_ringingLoad_44 (by decide) ?_
        refine lv_iload hx hb dX2_ringingLoad_13 (lv_at hl 0 rfl) ?_
        refine lv_iload_n hx hb dX2_ringingLoad_15 rfl (lv_at hl 3 rfl) ?_
        refine b_icmp_ge (tgt := 47) hx hb dX2_ringingLoad_16 (by decide) ⟨⟨by omega, by omega⟩, ⟨by omega, by omega⟩⟩ (fun _ => ?_) (fun c => absurd c (by omega))
        refine lv_iload_n hx hb dX2_ringingLoad_47 rfl (lv_at hl 1 rfl) ?_
        exact g_iret hx hb hr hlocks hS ⟨Nat.le_of_ble_eq_true rfl, Nat.le_of_ble_eq_true rfl⟩ (⟨congrArg (fun z => some (Value.int (z2 z))) (by unfold rlS; (repeat' split) <;> omega), rfl⟩) dX2_ringingLoad_48
set_option maxHeartbeats 4000000 in
set_option maxRecDepth 100000 in
theorem k_ringUntil (l : Launch) (D : va_G) (ks : Nat → ClassId) (bx : Nat) (ml : Nat → Nat) (X : Nat → Nat → Int) (H : Heap) (hP : PX D ks bx ml X H) (hV : VX X) {n b : Nat} (hn : n < 8) (hb2 : b < 3) (u : Int) : KM l yX0_ringUntil wsX0_ringUntil ({ frames := 0, cells := 0, slots := 0, locals := 0 } : Room) D ks bx [.ref (bx + 5 + 6 * n + 3 + b), .int (z2 u)] H (RX bx) (fun v H1 => v = none ∧ PX D ks bx ml (ruS X (3 * n + b) u) H1) (fun _ _ => False) := by
  refine KM.of (cc := cX0_ringUntil) (maxL := 2) (ret := none) (by decide) rfl (Nat.le_of_ble_eq_true rfl) ?_
  intro p e s m below meth c hx hb hml hr hlocks hown hname hts hext hH0 hG ls hl
  subst hH0
  have hown : s.vm.findClass RX0 = some m.cls := hown
  have hS : va_S (AR (RX bx) s.heap.size) s.heap s.heap [] := va_S.rf
  have hl : lv_has ls 2 [(0, .ref (bx + 5 + 6 * n + 3 + b)), (1, .int (z2 (u)))] := hl
  have inX0 : ∀ w ∈ wsX00, w ∈ wsX0_ringUntil := by decide +kernel
  refine lv_aload_n hx hb dX0_ringUntil_0 rfl (lv_at hl 0 rfl) ?_
  refine b_iconst hx hb dX0_ringUntil_1 ?_
  refine g_put (C := RX0) (T := TX0) (N := 4) hx hb hts inX0 tyX0 tyX0_ok nmX0 hown hG hS (hP.be hn hb2) (Or.inl ⟨by omega, by omega⟩) rfl 2 (by decide) (by decide +kernel) rfl rfl (v := .int (z2 (1))) (by decide +kernel) (by decide +kernel) (Nat.le_of_ble_eq_true rfl) dX0_ringUntil_2 (fun H locs he hz oq hS => ?_)
  have hP : PX D ks bx ml (up X 32 (3 * n + b) (1)) H := hP.bell (k := 2) hn hb2 ⟨by decide, by decide⟩ he oq
  refine lv_aload_n hx hb dX0_ringUntil_5 rfl (lv_at hl 0 rfl) ?_
  refine lv_iload_n hx hb dX0_ringUntil_6 rfl (lv_at hl 1 rfl) ?_
  refine g_put (C := RX0) (T := TX0) (N := 4) hx hb hts inX0 tyX0 tyX0_ok nmX0 hown hG hS (hP.be hn hb2) (Or.inl ⟨by omega, by omega⟩) rfl 3 (by decide) (by decide +kernel) rfl rfl (v := .int (z2 (u))) rfl rfl (Nat.le_of_ble_eq_true rfl) dX0_ringUntil_7 (fun H locs he hz oq hS => ?_)
  have hP : PX D ks bx ml (up (up X 32 (3 * n + b) (1)) 33 (3 * n + b) (u)) H := hP.bell (k := 3) hn hb2 ⟨by decide, by decide⟩ he oq
  exact g_vret hx hb hr hlocks hS ⟨Nat.le_of_ble_eq_true rfl, Nat.le_of_ble_eq_true rfl⟩ (⟨rfl, hP⟩) dX0_ringUntil_10
set_option maxHeartbeats 4000000 in
set_option maxRecDepth 100000 in
theorem k_lasts (l : Launch) (D : va_G) (ks : Nat → ClassId) (bx : Nat) (ml : Nat → Nat) (X : Nat → Nat → Int) (H : Heap) (hP : PX D ks bx ml X H) (hV : VX X) {k : Nat} (hk : (k : Int) < X 4 0) : KM l yX3_lasts wsX3_lasts ({ frames := 0, cells := 0, slots := 0, locals := 0 } : Room) D ks bx [.ref (ml k)] H (RX bx) (fun v H1 => v = some (.int (z2 (2 * X 37 k))) ∧ H1 = H) (fun _ _ => False) := by
  refine KM.of (cc := cX3_lasts) (maxL := 1) (ret := (some .int)) (by decide) rfl (Nat.le_of_ble_eq_true rfl) ?_
  intro p e s m below meth c hx hb hml hr hlocks hown hname hts hext hH0 hG ls hl
  subst hH0
  have hown : s.vm.findClass RX3 = some m.cls := hown
  have hS : va_S (AR (RX bx) s.heap.size) s.heap s.heap [] := va_S.rf
  have hl : lv_has ls 1 [(0, .ref (ml k))] := hl
  have inX3 : ∀ w ∈ wsX30, w ∈ wsX3_lasts := by decide +kernel
  refine b_iconst hx hb dX3_lasts_0 ?_
  refine lv_aload_n hx hb dX3_lasts_1 rfl (lv_at hl 0 rfl) ?_
  have b_2 : 1 ≤ X 37 k ∧ X 37 k ≤ 12 := hV.1 37 _ rfl
  refine g_get (C := RX3) (T := TX3) (N := 4) hx hb hts inX3 hown hG (hP.me hk) rfl 2 (by decide) (by decide +kernel) rfl (v := .int (z2 (X 37 k))) rfl dX3_lasts_2 ?_
  refine b_imul hx hb dX3_lasts_5 ?_
  exact g_iret hx hb hr hlocks hS ⟨Nat.le_of_ble_eq_true rfl, Nat.le_of_ble_eq_true rfl⟩ (⟨rfl, rfl⟩) dX3_lasts_6
set_option maxHeartbeats 4000000 in
set_option maxRecDepth 100000 in
theorem k_breakDown (l : Launch) (D : va_G) (ks : Nat → ClassId) (bx : Nat) (ml : Nat → Nat) (X : Nat → Nat → Int) (H : Heap) (hP : PX D ks bx ml X H) (hV : VX X) {n : Nat} (hn : n < 8) : KM l yX2_breakDown wsX2_breakDown ({ frames := 0, cells := 0, slots := 0, locals := 0 } : Room) D ks bx [.ref (bx + 5 + 6 * n)] H (RX bx) (fun v H1 => v = none ∧ PX D ks bx ml (bdS X n) H1) (fun _ _ => False) := by
  refine KM.of (cc := cX2_breakDown) (maxL := 5) (ret := none) (by decide) rfl (Nat.le_of_ble_eq_true rfl) ?_
  intro p e s m below meth c hx hb hml hr hlocks hown hname hts hext hH0 hG ls hl
  subst hH0
  have hown : s.vm.findClass RX2 = some m.cls := hown
  have hS : va_S (AR (RX bx) s.heap.size) s.heap s.heap [] := va_S.rf
  have hl : lv_has ls 5 [(0, .ref (bx + 5 + 6 * n))] := hl
  have inX0 : ∀ w ∈ wsX00, w ∈ wsX2_breakDown := by decide +kernel
  have inX2 : ∀ w ∈ wsX20, w ∈ wsX2_breakDown := by decide +kernel
  refine lv_aload_n hx hb dX2_breakDown_0 rfl (lv_at hl 0 rfl) ?_
  refine b_iconst hx hb dX2_breakDown_1 ?_
  refine g_put (C := RX2) (T := TX2) (N := 13) hx hb hts inX2 tyX2 tyX2_ok nmX2 hown hG hS (hP.hs hn) (Or.inl ⟨by omega, by omega⟩) rfl 4 (by decide) (by decide +kernel) rfl rfl (v := .int (z2 (0))) (by decide +kernel) (by decide +kernel) (Nat.le_of_ble_eq_true rfl) dX2_breakDown_2 (fun H locs he hz oq hS => ?_)
  have hP : PX D ks bx ml (up X 14 n (0)) H := hP.house (k := 4) hn ⟨by decide, by decide⟩ he oq
  refine lv_aload_n hx hb dX2_breakDown_5 rfl (lv_at hl 0 rfl) ?_
  refine g_get (C := RX2) (T := TX2) (N := 13) hx hb hts inX2 hown hG (hP.hs hn) rfl 2 (by decide) (by decide +kernel) rfl (v := .ref (bx + 5 + 6 * n + 1)) rfl dX2_breakDown_6 ?_
  refine lv_astore_n (lv' := [(1, .ref (bx + 5 + 6 * n + 1)), (0, .ref (bx + 5 + 6 * n))]) hx hb dX2_breakDown_9 rfl hl (by decide) rfl (fun ls hl => ?_)
  refine lv_aload_n hx hb dX2_breakDown_10 rfl (lv_at hl 0 rfl) ?_
  refine g_alen (n := 3) hx hb hG 2 rfl (hP.ba hn) rfl dX2_breakDown_11 ?_
  refine lv_istore_n (lv' := [(2, .int (z2 (3))), (1, .ref (bx + 5 + 6 * n + 1)), (0, .ref (bx + 5 + 6 * n))]) hx hb dX2_breakDown_12 rfl hl (by decide) rfl (fun ls hl => ?_)
  refine b_iconst hx hb dX2_breakDown_13 ?_
  refine lv_istore_n (lv' := [(3, .int (z2 (0))), (2, .int (z2 (3))), (1, .ref (bx + 5 + 6 * n + 1)), (0, .ref (bx + 5 + 6 * n))]) hx hb dX2_breakDown_14 rfl hl (by decide) rfl (fun ls hl => ?_)
  refine lv_iload_n hx hb dX2_breakDown_15 rfl (lv_at hl 0 rfl) ?_
  refine lv_iload_n hx hb dX2_breakDown_16 rfl (lv_at hl 1 rfl) ?_
  refine b_icmp_ge (tgt := 37) hx hb dX2_breakDown_17 (by decide) ⟨⟨by omega, by omega⟩, ⟨by omega, by omega⟩⟩ (fun c => absurd c (by omega)) (fun _ => ?_)
  refine lv_aload_n hx hb dX2_breakDown_20 rfl (lv_at hl 2 rfl) ?_
  refine lv_iload_n hx hb dX2_breakDown_21 rfl (lv_at hl 0 rfl) ?_
  refine g_aald (n := 3) hx hb hG 2 rfl (hP.ba hn) 0 ⟨by omega, by omega, by decide⟩ dX2_breakDown_22 (v := .ref (bx + 5 + 6 * n + 3 + 0)) rfl ?_
  refine lv_astore (lv' := [(4, .ref (bx + 5 + 6 * n + 3 + 0)), (3, .int (z2 (0))), (2, .int (z2 (3))), (1, .ref (bx + 5 + 6 * n + 1)), (0, .ref (bx + 5 + 6 * n))]) hx hb dX2_breakDown_23 hl (by decide) rfl (fun ls hl => ?_)
  refine lv_aload hx hb dX2_breakDown_25 (lv_at hl 0 rfl) ?_
  refine b_iconst hx hb dX2_breakDown_27 ?_
  refine g_putN (C := RX0) (T := TX0) (N := 4) hx hb hts inX0 tyX0 tyX0_ok nmX0 hown hG hS (hP.be hn (by decide)) (Or.inl ⟨by omega, by omega⟩) rfl 2 (by decide) (List.mem_of_getElem? (i := 22) rfl) rfl rfl (v := .int (z2 (0))) (by decide +kernel) (by decide +kernel) (Nat.le_of_ble_eq_true rfl) dX2_breakDown_28 (fun H locs he hz oq hS => ?_)
  have hP : PX D ks bx ml (up (up X 14 n (0)) 32 (3 * n + 0) (0)) H := hP.bell (k := 2) hn (by decide) ⟨by decide, by decide⟩ he oq
  refine b_iinc (lv' := [(3, .int (z2 (1))), (4, .ref (bx + 5 + 6 * n + 3 + 0)), (2, .int (z2 (3))), (1, .ref (bx + 5 + 6 * n + 1)), (0, .ref (bx + 5 + 6 * n))]) hx hb dX2_breakDown_31 hl (k := 1) rfl (by decide) rfl (fun ls hl => ?_)
  refine lv_goto (tgt := 15) hx hb dX2_breakDown_34 (by decide) ?_
  refine lv_iload_n hx hb dX2_breakDown_15 rfl (lv_at hl 0 rfl) ?_
  refine lv_iload_n hx hb dX2_breakDown_16 rfl (lv_at hl 2 rfl) ?_
  refine b_icmp_ge (tgt := 37) hx hb dX2_breakDown_17 (by decide) ⟨⟨by omega, by omega⟩, ⟨by omega, by omega⟩⟩ (fun c => absurd c (by omega)) (fun _ => ?_)
  refine lv_aload_n hx hb dX2_breakDown_20 rfl (lv_at hl 3 rfl) ?_
  refine lv_iload_n hx hb dX2_breakDown_21 rfl (lv_at hl 0 rfl) ?_
  refine g_aald (n := 3) hx hb hG 2 rfl (hP.ba hn) 1 ⟨by omega, by omega, by decide⟩ dX2_breakDown_22 (v := .ref (bx + 5 + 6 * n + 3 + 1)) rfl ?_
  refine lv_astore (lv' := [(4, .ref (bx + 5 + 6 * n + 3 + 1)), (3, .int (z2 (1))), (2, .int (z2 (3))), (1, .ref (bx + 5 + 6 * n + 1)), (0, .ref (bx + 5 + 6 * n))]) hx hb dX2_breakDown_23 hl (by decide) rfl (fun ls hl => ?_)
  refine lv_aload hx hb dX2_breakDown_25 (lv_at hl 0 rfl) ?_
  refine b_iconst hx hb dX2_breakDown_27 ?_
  refine g_putN (C := RX0) (T := TX0) (N := 4) hx hb hts inX0 tyX0 tyX0_ok nmX0 hown hG hS (hP.be hn (by decide)) (Or.inl ⟨by omega, by omega⟩) rfl 2 (by decide) (List.mem_of_getElem? (i := 22) rfl) rfl rfl (v := .int (z2 (0))) (by decide +kernel) (by decide +kernel) (Nat.le_of_ble_eq_true rfl) dX2_breakDown_28 (fun H locs he hz oq hS => ?_)
  have hP : PX D ks bx ml (up (up (up X 14 n (0)) 32 (3 * n + 0) (0)) 32 (3 * n + 1) (0)) H := hP.bell (k := 2) hn (by decide) ⟨by decide, by decide⟩ he oq
  refine b_iinc (lv' := [(3, .int (z2 (2))), (4, .ref (bx + 5 + 6 * n + 3 + 1)), (2, .int (z2 (3))), (1, .ref (bx + 5 + 6 * n + 1)), (0, .ref (bx + 5 + 6 * n))]) hx hb dX2_breakDown_31 hl (k := 1) rfl (by decide) rfl (fun ls hl => ?_)
  refine lv_goto (tgt := 15) hx hb dX2_breakDown_34 (by decide) ?_
  refine lv_iload_n hx hb dX2_breakDown_15 rfl (lv_at hl 0 rfl) ?_
  refine lv_iload_n hx hb dX2_breakDown_16 rfl (lv_at hl 2 rfl) ?_
  refine b_icmp_ge (tgt := 37) hx hb dX2_breakDown_17 (by decide) ⟨⟨by omega, by omega⟩, ⟨by omega, by omega⟩⟩ (fun c => absurd c (by omega)) (fun _ => ?_)
  refine lv_aload_n hx hb dX2_breakDown_20 rfl (lv_at hl 3 rfl) ?_
  refine lv_iload_n hx hb dX2_breakDown_21 rfl (lv_at hl 0 rfl) ?_
  refine g_aald (n := 3) hx hb hG 2 rfl (hP.ba hn) 2 ⟨by omega, by omega, by decide⟩ dX2_breakDown_22 (v := .ref (bx + 5 + 6 * n + 3 + 2)) rfl ?_
  refine lv_astore (lv' := [(4, .ref (bx + 5 + 6 * n + 3 + 2)), (3, .int (z2 (2))), (2, .int (z2 (3))), (1, .ref (bx + 5 + 6 * n + 1)), (0, .ref (bx + 5 + 6 * n))]) hx hb dX2_breakDown_23 hl (by decide) rfl (fun ls hl => ?_)
  refine lv_aload hx hb dX2_breakDown_25 (lv_at hl 0 rfl) ?_
  refine b_iconst hx hb dX2_breakDown_27 ?_
  refine g_putN (C := RX0) (T := TX0) (N := 4) hx hb hts inX0 tyX0 tyX0_ok nmX0 hown hG hS (hP.be hn (by decide)) (Or.inl ⟨by omega, by omega⟩) rfl 2 (by decide) (List.mem_of_getElem? (i := 22) rfl) rfl rfl (v := .int (z2 (0))) (by decide +kernel) (by decide +kernel) (Nat.le_of_ble_eq_true rfl) dX2_breakDown_28 (fun H locs he hz oq hS => ?_)
  have hP : PX D ks bx ml (up (up (up (up X 14 n (0)) 32 (3 * n + 0) (0)) 32 (3 * n + 1) (0)) 32 (3 * n + 2) (0)) H := hP.bell (k := 2) hn (by decide) ⟨by decide, by decide⟩ he oq
  refine b_iinc (lv' := [(3, .int (z2 (3))), (4, .ref (bx + 5 + 6 * n + 3 + 2)), (2, .int (z2 (3))), (1, .ref (bx + 5 + 6 * n + 1)), (0, .ref (bx + 5 + 6 * n))]) hx hb dX2_breakDown_31 hl (k := 1) rfl (by decide) rfl (fun ls hl => ?_)
  refine lv_goto (tgt := 15) hx hb dX2_breakDown_34 (by decide) ?_
  refine lv_iload_n hx hb dX2_breakDown_15 rfl (lv_at hl 0 rfl) ?_
  refine lv_iload_n hx hb dX2_breakDown_16 rfl (lv_at hl 2 rfl) ?_
  refine b_icmp_ge (tgt := 37) hx hb dX2_breakDown_17 (by decide) ⟨⟨by omega, by omega⟩, ⟨by omega, by omega⟩⟩ (fun _ => ?_) (fun c => absurd c (by omega))
  exact g_vret hx hb hr hlocks hS ⟨Nat.le_of_ble_eq_true rfl, Nat.le_of_ble_eq_true rfl⟩ (⟨rfl, hP⟩) dX2_breakDown_37
end
section
/-! THE CLASS, module House: loops, spend, closeDay, finish. -/
set_option maxHeartbeats 4000000 in
set_option maxRecDepth 100000 in
theorem k_startBells (l : Launch) (D : va_G) (ks : Nat → ClassId) (bx : Nat) (ml : Nat → Nat) (X : Nat → Nat → Int) (H : Heap) (hP : PX D ks bx ml X H) (hV0 : VX X) {n : Nat} (hn : n < 8) (u : Int) (hu : 0 ≤ u ∧ u ≤ 1000000) : KM l yX2_startBells wsX2_startBells ({ frames := 1, cells := 0, slots := 0, locals := 21 } : Room) D ks bx [.ref (bx + 5 + 6 * n), .int (z2 u)] H (RX bx) (fun v H1 => v = some (.int (z2 (sbN X n 3))) ∧ PX D ks bx ml (sbX X n u 3) H1) (fun _ _ => False) := by
  refine KM.of (cc := cX2_startBells) (maxL := 7) (ret := (some .int)) (by decide) rfl (Nat.le_of_ble_eq_true rfl) ?_
  intro p e s m below meth c hx hb hml hr hlocks hown hname hts hext hH0 hG ls hl
  subst hH0
  have hown : s.vm.findClass RX2 = some m.cls := hown
  have hS : va_S (AR (RX bx) s.heap.size) s.heap s.heap [] := va_S.rf
  have hl : lv_has ls 7 [(0, .ref (bx + 5 + 6 * n)), (1, .int (z2 (u)))] := hl
  have inX0 : ∀ w ∈ wsX00, w ∈ wsX2_startBells := by decide +kernel
  have inX2 : ∀ w ∈ wsX20, w ∈ wsX2_startBells := by decide +kernel
  refine b_iconst hx hb dX2_startBells_0 ?_
  refine lv_istore_n (lv' := [(2, .int (z2 (0))), (0, .ref (bx + 5 + 6 * n)), (1, .int (z2 (u)))]) hx hb dX2_startBells_1 rfl hl (by decide) rfl (fun ls hl => ?_)
  refine lv_aload_n hx hb dX2_startBells_2 rfl (lv_at hl 1 rfl) ?_
  refine g_get (C := RX2) (T := TX2) (N := 13) hx hb hts inX2 hown hG (hP.hs hn) rfl 2 (by decide) (by decide +kernel) rfl (v := .ref (bx + 5 + 6 * n + 1)) rfl dX2_startBells_3 ?_
  refine lv_astore_n (lv' := [(3, .ref (bx + 5 + 6 * n + 1)), (2, .int (z2 (0))), (0, .ref (bx + 5 + 6 * n)), (1, .int (z2 (u)))]) hx hb dX2_startBells_6 rfl hl (by decide) rfl (fun ls hl => ?_)
  refine lv_aload_n hx hb dX2_startBells_7 rfl (lv_at hl 0 rfl) ?_
  refine g_alen (n := 3) hx hb hG 2 rfl (hP.ba hn) rfl dX2_startBells_8 ?_
  refine lv_istore (lv' := [(4, .int (z2 (3))), (3, .ref (bx + 5 + 6 * n + 1)), (2, .int (z2 (0))), (0, .ref (bx + 5 + 6 * n)), (1, .int (z2 (u)))]) hx hb dX2_startBells_9 hl (by decide) rfl (fun ls hl => ?_)
  refine b_iconst hx hb dX2_startBells_11 ?_
  refine lv_istore (lv' := [(5, .int (z2 (0))), (4, .int (z2 (3))), (3, .ref (bx + 5 + 6 * n + 1)), (2, .int (z2 (0))), (0, .ref (bx + 5 + 6 * n)), (1, .int (z2 (u)))]) hx hb dX2_startBells_12 hl (by decide) rfl (fun ls hl => ?_)
  refine lp_ms (σ := Nat) (fun k H locs ls => k ≤ 3 ∧ PX D ks bx ml (sbX X n u k) H ∧ va_S (AR (RX bx) s.heap.size) s.heap H locs ∧ lv_has ls 7 [(0, .ref (bx + 5 + 6 * n)), (1, .int (z2 (u))), (2, .int (z2 (sbN X n k))), (3, .ref (bx + 5 + 6 * n + 1)), (4, .int (z2 (3))), (5, .int (z2 (((k : Nat) : Int))))]) (fun k => 3 - k) (fun k H locs ls hI ih => ?_) 0 ⟨by omega, hP, hS, lv_sub hl [4, 5, 3, 2, 1, 0] rfl⟩
  obtain ⟨hkN, hP, hS, hl⟩ := hI
  have hV := vx_sb hV0 hu (h := n) k
  have f30 : sbX X n u k 30 (3 * n + k) = X 30 (3 * n + k) := sbX_f X n u (by decide) _ k
  have f32 : sbX X n u k 32 (3 * n + k) = X 32 (3 * n + k) := sbX_i X n u 32 _ k (by omega)
  refine lv_iload hx hb dX2_startBells_14 (lv_at hl 5 rfl) ?_
  refine lv_iload hx hb dX2_startBells_16 (lv_at hl 4 rfl) ?_
  refine b_icmp_ge (tgt := 67) hx hb dX2_startBells_18 (by decide) ⟨⟨by omega, by omega⟩, ⟨by omega, by omega⟩⟩ (fun c_18 => ?_) (fun c_18 => ?_)
  · skip
    refine lv_iload_n hx hb dX2_startBells_67 rfl (lv_at hl 2 rfl) ?_
    obtain rfl : k = 3 := by omega
    exact g_iret hx hb hr hlocks hS ⟨Nat.le_of_ble_eq_true rfl, Nat.le_of_ble_eq_true rfl⟩ (⟨rfl, hP⟩) dX2_startBells_68
  · skip
    refine lv_aload_n hx hb dX2_startBells_21 rfl (lv_at hl 3 rfl) ?_
    refine lv_iload hx hb dX2_startBells_22 (lv_at hl 5 rfl) ?_
    refine g_aald (n := 3) hx hb hG 2 rfl (hP.ba hn) k ⟨by omega, by omega, by decide⟩ dX2_startBells_24 (v := .ref (bx + 5 + 6 * n + 3 + k)) rfl ?_
    refine lv_astore (lv' := [(6, .ref (bx + 5 + 6 * n + 3 + k)), (0, .ref (bx + 5 + 6 * n)), (1, .int (z2 (u))), (2, .int (z2 (sbN X n k))), (3, .ref (bx + 5 + 6 * n + 1)), (4, .int (z2 (3))), (5, .int (z2 (((k : Nat) : Int))))]) hx hb dX2_startBells_25 hl (by decide) rfl (fun ls hl => ?_)
    refine lv_aload hx hb dX2_startBells_27 (lv_at hl 0 rfl) ?_
    have b_29 : -1 ≤ (sbX X n u k) 30 (3 * n + k) ∧ (sbX X n u k) 30 (3 * n + k) ≤ 11 := hV.1 30 _ rfl
    have b4_29 := hV.2.1 (3 * n + k)
    refine g_getN (C := RX0) (T := TX0) (N := 4) hx hb hts inX0 hown hG (hP.be hn (by omega)) rfl 0 (by decide) (List.mem_of_getElem? (i := 24) rfl) rfl (v := va_rf (mo ml ((sbX X n u k) 30 (3 * n + k)))) rfl dX2_startBells_29 ?_
    refine g_mo b_29.1 (fun c_29 => ?_) (fun k29 c_29 => ?_)
    · skip
      refine lv_ifnullN (tgt := 61) hx hb dX2_startBells_32 (by decide) ?_
      refine b_iinc (lv' := [(5, .int (z2 (((k : Nat) : Int) + 1))), (6, .ref (bx + 5 + 6 * n + 3 + k)), (0, .ref (bx + 5 + 6 * n)), (1, .int (z2 (u))), (2, .int (z2 (sbN X n k))), (3, .ref (bx + 5 + 6 * n + 1)), (4, .int (z2 (3)))]) hx hb dX2_startBells_61 hl (k := 6) rfl (by decide) rfl (fun ls hl => ?_)
      refine lv_goto (tgt := 14) hx hb dX2_startBells_64 (by decide) ?_
      have e2 : sbX X n u (k + 1) = sbX X n u k := if_neg (fun q => by omega)
      have e1 : sbN X n (k + 1) = sbN X n k := if_neg (fun q => by omega)
      exact ih (k + 1) _ _ _ (by omega) ⟨by omega, (by rw [e2]; exact hP), hS, by rw [e1]; exact lv_sub hl [2, 3, 4, 5, 6, 0] rfl⟩
    · skip
      have hk29 : (k29 : Int) < (sbX X n u k) 4 0 := by omega
      refine lv_ifnull hx hb dX2_startBells_32 ?_
      refine lv_aload hx hb dX2_startBells_35 (lv_at hl 0 rfl) ?_
      have b_37 : 0 ≤ ((sbX X n u k)) 32 (3 * n + k) ∧ ((sbX X n u k)) 32 (3 * n + k) ≤ 1 := hV.1 32 _ rfl
      refine g_getN (C := RX0) (T := TX0) (N := 4) hx hb hts inX0 hown hG (hP.be hn (by omega)) rfl 2 (by decide) (List.mem_of_getElem? (i := 22) rfl) rfl (v := .int (z2 (((sbX X n u k)) 32 (3 * n + k)))) rfl dX2_startBells_37 ?_
      refine b_if_ne (tgt := 61) hx hb dX2_startBells_40 (by decide) ⟨by omega, by omega⟩ (fun c_40 => ?_) (fun c_40 => ?_)
      · skip
        refine b_iinc (lv' := [(5, .int (z2 (((k : Nat) : Int) + 1))), (6, .ref (bx + 5 + 6 * n + 3 + k)), (0, .ref (bx + 5 + 6 * n)), (1, .int (z2 (u))), (2, .int (z2 (sbN X n k))), (3, .ref (bx + 5 + 6 * n + 1)), (4, .int (z2 (3)))]) hx hb dX2_startBells_61 hl (k := 6) rfl (by decide) rfl (fun ls hl => ?_)
        refine lv_goto (tgt := 14) hx hb dX2_startBells_64 (by decide) ?_
        have e2 : sbX X n u (k + 1) = sbX X n u k := if_neg (fun q => by omega)
        have e1 : sbN X n (k + 1) = sbN X n k := if_neg (fun q => by omega)
        exact ih (k + 1) _ _ _ (by omega) ⟨by omega, (by rw [e2]; exact hP), hS, by rw [e1]; exact lv_sub hl [2, 3, 4, 5, 6, 0] rfl⟩
      · skip
        refine lv_aload hx hb dX2_startBells_43 (lv_at hl 0 rfl) ?_
        refine lv_iload_n hx hb dX2_startBells_45 rfl (lv_at hl 2 rfl) ?_
        refine lv_aload hx hb dX2_startBells_46 (lv_at hl 0 rfl) ?_
        refine g_getN (C := RX0) (T := TX0) (N := 4) hx hb hts inX0 hown hG (hP.be hn (by omega)) rfl 0 (by decide) (List.mem_of_getElem? (i := 24) rfl) rfl (v := va_rf (mo ml ((sbX X n u k) 30 (3 * n + k)))) rfl dX2_startBells_48 ?_
        refine g_mo (by omega) (fun q => absurd q (by omega)) (fun km q => ?_)
        obtain rfl : k29 = km := by omega
        refine g_run (vx_runV (As := []) (rest := [.int (z2 (u)), .ref (bx + 5 + 6 * n + 3 + k)]) ⟨hx, hb, hml, hown, hts⟩ (k_lasts l D ks bx ml (sbX X n u k) _ hP hV hk29) (cwV 0 hts gX2_startBells_X3_lasts rfl rfl rfl (by decide +kernel) ⟨Nat.le_of_ble_eq_true rfl, Nat.le_of_ble_eq_true rfl⟩) (g_preV (r := (RX3, TX3, 4)) hG hS rx_ge (hP.me hk29) rfl) rfl rfl hl.1 rfl (lv_room (Nat.le_of_ble_eq_true rfl)) dX2_startBells_51 ⟨Nat.le_of_ble_eq_true rfl, Nat.le_of_ble_eq_true rfl⟩) hS (fun _ h => h) (fun _ _ _ _ _ h => h.elim) (fun v H1 locs hp hz9 hk9 hS => ?_)
        obtain ⟨rfl, rfl⟩ := hp
        have ls_51 : 1 ≤ (sbX X n u k) 37 k29 ∧ (sbX X n u k) 37 k29 ≤ 12 := hV.1 37 _ rfl
        refine W.eq (g2 := F0 m 54 ls [.int (z2 (2 * (sbX X n u k) 37 k29)), .int (z2 (u)), .ref (bx + 5 + 6 * n + 3 + k)]) rfl ?_
        refine b_iadd hx hb dX2_startBells_54 ?_
        refine g_run (vx_runV (As := [.int (z2 (u + (2 * (sbX X n u k) 37 k29)))]) (rest := []) ⟨hx, hb, hml, hown, hts⟩ (k_ringUntil l D ks bx ml (sbX X n u k) _ hP hV hn (by omega) (u + (2 * (sbX X n u k) 37 k29))) (cwV 1 hts gX2_startBells_X0_ringUntil rfl rfl rfl (by decide +kernel) ⟨Nat.le_of_ble_eq_true rfl, Nat.le_of_ble_eq_true rfl⟩) (g_preV (r := (RX0, TX0, 4)) hG hS rx_ge (hP.be hn (by omega)) rfl) rfl rfl hl.1 rfl (lv_room (Nat.le_of_ble_eq_true rfl)) dX2_startBells_55 ⟨Nat.le_of_ble_eq_true rfl, Nat.le_of_ble_eq_true rfl⟩) hS (fun _ h => h) (fun _ _ _ _ _ h => h.elim) (fun v H1 locs hp hz9 hk9 hS => ?_)
        obtain ⟨rfl, hP⟩ := hp
        refine W.eq (g2 := F0 m 58 ls []) rfl ?_
        refine b_iinc (lv' := [(2, .int (z2 ((sbN X n k) + 1))), (6, .ref (bx + 5 + 6 * n + 3 + k)), (0, .ref (bx + 5 + 6 * n)), (1, .int (z2 (u))), (3, .ref (bx + 5 + 6 * n + 1)), (4, .int (z2 (3))), (5, .int (z2 (((k : Nat) : Int))))]) hx hb dX2_startBells_58 hl (k := 3) rfl (by decide) rfl (fun ls hl => ?_)
        refine b_iinc (lv' := [(5, .int (z2 (((k : Nat) : Int) + 1))), (2, .int (z2 ((sbN X n k) + 1))), (6, .ref (bx + 5 + 6 * n + 3 + k)), (0, .ref (bx + 5 + 6 * n)), (1, .int (z2 (u))), (3, .ref (bx + 5 + 6 * n + 1)), (4, .int (z2 (3)))]) hx hb dX2_startBells_61 hl (k := 6) rfl (by decide) rfl (fun ls hl => ?_)
        refine lv_goto (tgt := 14) hx hb dX2_startBells_64 (by decide) ?_
        have f37 : sbX X n u k 37 k29 = X 37 k29 := sbX_f X n u (by decide) _ k
        have f38 : (X 30 (3 * n + k)).toNat = k29 := by omega
        have e2 : sbX X n u (k + 1) = ruS (sbX X n u k) (3 * n + k) (u + (2 * (sbX X n u k) 37 k29)) := (if_pos ⟨by omega, by omega⟩).trans (by rw [f38, f37])
        have e1 : sbN X n (k + 1) = sbN X n k + 1 := if_pos ⟨by omega, by omega⟩
        exact ih (k + 1) _ _ _ (by omega) ⟨by omega, (by rw [e2]; exact hP), hS, by rw [e1]; exact lv_sub hl [3, 4, 1, 5, 6, 0] rfl⟩
set_option maxHeartbeats 4000000 in
set_option maxRecDepth 100000 in
theorem k_firstStop (l : Launch) (D : va_G) (ks : Nat → ClassId) (bx : Nat) (ml : Nat → Nat) (X : Nat → Nat → Int) (H : Heap) (hP : PX D ks bx ml X H) (hV : VX X) {n : Nat} (hn : n < 8) (u : Int) (hu : 0 ≤ u ∧ u ≤ 2000000) : KM l yX2_firstStop wsX2_firstStop ({ frames := 0, cells := 0, slots := 0, locals := 0 } : Room) D ks bx [.ref (bx + 5 + 6 * n), .int (z2 u)] H (RX bx) (fun v H1 => v = some (.int (z2 (fsS X n u 3))) ∧ H1 = H) (fun _ _ => False) := by
  refine KM.of (cc := cX2_firstStop) (maxL := 7) (ret := (some .int)) (by decide) rfl (Nat.le_of_ble_eq_true rfl) ?_
  intro p e s m below meth c hx hb hml hr hlocks hown hname hts hext hH0 hG ls hl
  subst hH0
  have hown : s.vm.findClass RX2 = some m.cls := hown
  have hS : va_S (AR (RX bx) s.heap.size) s.heap s.heap [] := va_S.rf
  have hl : lv_has ls 7 [(0, .ref (bx + 5 + 6 * n)), (1, .int (z2 (u)))] := hl
  have inX0 : ∀ w ∈ wsX00, w ∈ wsX2_firstStop := by decide +kernel
  have inX2 : ∀ w ∈ wsX20, w ∈ wsX2_firstStop := by decide +kernel
  refine lv_iload_n hx hb dX2_firstStop_0 rfl (lv_at hl 1 rfl) ?_
  refine lv_istore_n (lv' := [(2, .int (z2 (u))), (0, .ref (bx + 5 + 6 * n)), (1, .int (z2 (u)))]) hx hb dX2_firstStop_1 rfl hl (by decide) rfl (fun ls hl => ?_)
  refine lv_aload_n hx hb dX2_firstStop_2 rfl (lv_at hl 1 rfl) ?_
  refine g_get (C := RX2) (T := TX2) (N := 13) hx hb hts inX2 hown hG (hP.hs hn) rfl 2 (by decide) (by decide +kernel) rfl (v := .ref (bx + 5 + 6 * n + 1)) rfl dX2_firstStop_3 ?_
  refine lv_astore_n (lv' := [(3, .ref (bx + 5 + 6 * n + 1)), (2, .int (z2 (u))), (0, .ref (bx + 5 + 6 * n)), (1, .int (z2 (u)))]) hx hb dX2_firstStop_6 rfl hl (by decide) rfl (fun ls hl => ?_)
  refine lv_aload_n hx hb dX2_firstStop_7 rfl (lv_at hl 0 rfl) ?_
  refine g_alen (n := 3) hx hb hG 2 rfl (hP.ba hn) rfl dX2_firstStop_8 ?_
  refine lv_istore (lv' := [(4, .int (z2 (3))), (3, .ref (bx + 5 + 6 * n + 1)), (2, .int (z2 (u))), (0, .ref (bx + 5 + 6 * n)), (1, .int (z2 (u)))]) hx hb dX2_firstStop_9 hl (by decide) rfl (fun ls hl => ?_)
  refine b_iconst hx hb dX2_firstStop_11 ?_
  refine lv_istore (lv' := [(5, .int (z2 (0))), (4, .int (z2 (3))), (3, .ref (bx + 5 + 6 * n + 1)), (2, .int (z2 (u))), (0, .ref (bx + 5 + 6 * n)), (1, .int (z2 (u)))]) hx hb dX2_firstStop_12 hl (by decide) rfl (fun ls hl => ?_)
  refine lp_ms (σ := Nat) (fun k H locs ls => k ≤ 3 ∧ PX D ks bx ml X H ∧ H = s.heap ∧ va_S (AR (RX bx) s.heap.size) s.heap H locs ∧ lv_has ls 7 [(0, .ref (bx + 5 + 6 * n)), (1, .int (z2 (u))), (2, .int (z2 (fsS X n u k))), (3, .ref (bx + 5 + 6 * n + 1)), (4, .int (z2 (3))), (5, .int (z2 (((k : Nat) : Int))))]) (fun k => 3 - k) (fun k H locs ls hI ih => ?_) 0 ⟨by omega, hP, rfl, hS, lv_sub hl [4, 5, 3, 2, 1, 0] rfl⟩
  obtain ⟨hkN, hP, hHs, hS, hl⟩ := hI
  have fl := fs_le X n u k
  have fg := fs_ge hV n hu.1 k
  refine lv_iload hx hb dX2_firstStop_14 (lv_at hl 5 rfl) ?_
  refine lv_iload hx hb dX2_firstStop_16 (lv_at hl 4 rfl) ?_
  refine b_icmp_ge (tgt := 56) hx hb dX2_firstStop_18 (by decide) ⟨⟨by omega, by omega⟩, ⟨by omega, by omega⟩⟩ (fun c_18 => ?_) (fun c_18 => ?_)
  · skip
    refine lv_iload_n hx hb dX2_firstStop_56 rfl (lv_at hl 2 rfl) ?_
    obtain rfl : k = 3 := by omega
    exact g_iret hx hb hr hlocks hS ⟨Nat.le_of_ble_eq_true rfl, Nat.le_of_ble_eq_true rfl⟩ (⟨rfl, hHs⟩) dX2_firstStop_57
  · skip
    refine lv_aload_n hx hb dX2_firstStop_21 rfl (lv_at hl 3 rfl) ?_
    refine lv_iload hx hb dX2_firstStop_22 (lv_at hl 5 rfl) ?_
    refine g_aald (n := 3) hx hb hG 2 rfl (hP.ba hn) k ⟨by omega, by omega, by decide⟩ dX2_firstStop_24 (v := .ref (bx + 5 + 6 * n + 3 + k)) rfl ?_
    refine lv_astore (lv' := [(6, .ref (bx + 5 + 6 * n + 3 + k)), (0, .ref (bx + 5 + 6 * n)), (1, .int (z2 (u))), (2, .int (z2 (fsS X n u k))), (3, .ref (bx + 5 + 6 * n + 1)), (4, .int (z2 (3))), (5, .int (z2 (((k : Nat) : Int))))]) hx hb dX2_firstStop_25 hl (by decide) rfl (fun ls hl => ?_)
    refine lv_aload hx hb dX2_firstStop_27 (lv_at hl 0 rfl) ?_
    have b_29 : 0 ≤ X 32 (3 * n + k) ∧ X 32 (3 * n + k) ≤ 1 := hV.1 32 _ rfl
    refine g_getN (C := RX0) (T := TX0) (N := 4) hx hb hts inX0 hown hG (hP.be hn (by omega)) rfl 2 (by decide) (List.mem_of_getElem? (i := 22) rfl) rfl (v := .int (z2 (X 32 (3 * n + k)))) rfl dX2_firstStop_29 ?_
    refine b_if_eq (tgt := 50) hx hb dX2_firstStop_32 (by decide) ⟨by omega, by omega⟩ (fun c_32 => ?_) (fun c_32 => ?_)
    · skip
      refine b_iinc (lv' := [(5, .int (z2 (((k : Nat) : Int) + 1))), (6, .ref (bx + 5 + 6 * n + 3 + k)), (0, .ref (bx + 5 + 6 * n)), (1, .int (z2 (u))), (2, .int (z2 (fsS X n u k))), (3, .ref (bx + 5 + 6 * n + 1)), (4, .int (z2 (3)))]) hx hb dX2_firstStop_50 hl (k := 6) rfl (by decide) rfl (fun ls hl => ?_)
      refine lv_goto (tgt := 14) hx hb dX2_firstStop_53 (by decide) ?_
      have e1 : fsS X n u (k + 1) = fsS X n u k := if_neg (fun q => by omega)
      exact ih (k + 1) _ _ _ (by omega) ⟨by omega, hP, hHs, hS, by rw [e1]; exact lv_sub hl [2, 3, 4, 5, 6, 0] rfl⟩
    · skip
      refine lv_aload hx hb dX2_firstStop_35 (lv_at hl 0 rfl) ?_
      have b_37 : 0 ≤ X 33 (3 * n + k) ∧ X 33 (3 * n + k) ≤ 1000024 := hV.1 33 _ rfl
      refine g_getN (C := RX0) (T := TX0) (N := 4) hx hb hts inX0 hown hG (hP.be hn (by omega)) rfl 3 (by decide) (List.mem_of_getElem? (i := 25) rfl) rfl (v := .int (z2 (X 33 (3 * n + k)))) rfl dX2_firstStop_37 ?_
      refine lv_iload_n hx hb dX2_firstStop_40 rfl (lv_at hl 3 rfl) ?_
      refine b_icmp_ge (tgt := 50) hx hb dX2_firstStop_41 (by decide) ⟨⟨by omega, by omega⟩, ⟨by omega, by omega⟩⟩ (fun c_41 => ?_) (fun c_41 => ?_)
      · skip
        refine b_iinc (lv' := [(5, .int (z2 (((k : Nat) : Int) + 1))), (6, .ref (bx + 5 + 6 * n + 3 + k)), (0, .ref (bx + 5 + 6 * n)), (1, .int (z2 (u))), (2, .int (z2 (fsS X n u k))), (3, .ref (bx + 5 + 6 * n + 1)), (4, .int (z2 (3)))]) hx hb dX2_firstStop_50 hl (k := 6) rfl (by decide) rfl (fun ls hl => ?_)
        refine lv_goto (tgt := 14) hx hb dX2_firstStop_53 (by decide) ?_
        have e1 : fsS X n u (k + 1) = fsS X n u k := if_neg (fun q => by omega)
        exact ih (k + 1) _ _ _ (by omega) ⟨by omega, hP, hHs, hS, by rw [e1]; exact lv_sub hl [2, 3, 4, 5, 6, 0] rfl⟩
      · skip
        refine lv_aload hx hb dX2_firstStop_44 (lv_at hl 0 rfl) ?_
        have b_46 : 0 ≤ X 33 (3 * n + k) ∧ X 33 (3 * n + k) ≤ 1000024 := hV.1 33 _ rfl
        refine g_getN (C := RX0) (T := TX0) (N := 4) hx hb hts inX0 hown hG (hP.be hn (by omega)) rfl 3 (by decide) (List.mem_of_getElem? (i := 25) rfl) rfl (v := .int (z2 (X 33 (3 * n + k)))) rfl dX2_firstStop_46 ?_
        refine lv_istore_n (lv' := [(2, .int (z2 (X 33 (3 * n + k)))), (6, .ref (bx + 5 + 6 * n + 3 + k)), (0, .ref (bx + 5 + 6 * n)), (1, .int (z2 (u))), (3, .ref (bx + 5 + 6 * n + 1)), (4, .int (z2 (3))), (5, .int (z2 (((k : Nat) : Int))))]) hx hb dX2_firstStop_49 rfl hl (by decide) rfl (fun ls hl => ?_)
        refine b_iinc (lv' := [(5, .int (z2 (((k : Nat) : Int) + 1))), (2, .int (z2 (X 33 (3 * n + k)))), (6, .ref (bx + 5 + 6 * n + 3 + k)), (0, .ref (bx + 5 + 6 * n)), (1, .int (z2 (u))), (3, .ref (bx + 5 + 6 * n + 1)), (4, .int (z2 (3)))]) hx hb dX2_firstStop_50 hl (k := 6) rfl (by decide) rfl (fun ls hl => ?_)
        refine lv_goto (tgt := 14) hx hb dX2_firstStop_53 (by decide) ?_
        have e1 : fsS X n u (k + 1) = X 33 (3 * n + k) := if_pos ⟨by omega, by omega⟩
        exact ih (k + 1) _ _ _ (by omega) ⟨by omega, hP, hHs, hS, by rw [e1]; exact lv_sub hl [3, 4, 1, 5, 6, 0] rfl⟩
set_option maxHeartbeats 4000000 in
set_option maxRecDepth 100000 in
theorem k_stopEnded (l : Launch) (D : va_G) (ks : Nat → ClassId) (bx : Nat) (ml : Nat → Nat) (X : Nat → Nat → Int) (H : Heap) (hP : PX D ks bx ml X H) (hV0 : VX X) {n : Nat} (hn : n < 8) (u : Int) (hu : 0 ≤ u ∧ u ≤ 2000000) : KM l yX2_stopEndedBells wsX2_stopEndedBells ({ frames := 0, cells := 0, slots := 0, locals := 0 } : Room) D ks bx [.ref (bx + 5 + 6 * n), .int (z2 u)] H (RX bx) (fun v H1 => v = none ∧ PX D ks bx ml (seS X n u 3) H1) (fun _ _ => False) := by
  refine KM.of (cc := cX2_stopEndedBells) (maxL := 6) (ret := none) (by decide) rfl (Nat.le_of_ble_eq_true rfl) ?_
  intro p e s m below meth c hx hb hml hr hlocks hown hname hts hext hH0 hG ls hl
  subst hH0
  have hown : s.vm.findClass RX2 = some m.cls := hown
  have hS : va_S (AR (RX bx) s.heap.size) s.heap s.heap [] := va_S.rf
  have hl : lv_has ls 6 [(0, .ref (bx + 5 + 6 * n)), (1, .int (z2 (u)))] := hl
  have inX0 : ∀ w ∈ wsX00, w ∈ wsX2_stopEndedBells := by decide +kernel
  have inX2 : ∀ w ∈ wsX20, w ∈ wsX2_stopEndedBells := by decide +kernel
  refine lv_aload_n hx hb dX2_stopEndedBells_0 rfl (lv_at hl 0 rfl) ?_
  refine g_get (C := RX2) (T := TX2) (N := 13) hx hb hts inX2 hown hG (hP.hs hn) rfl 2 (by decide) (by decide +kernel) rfl (v := .ref (bx + 5 + 6 * n + 1)) rfl dX2_stopEndedBells_1 ?_
  refine lv_astore_n (lv' := [(2, .ref (bx + 5 + 6 * n + 1)), (0, .ref (bx + 5 + 6 * n)), (1, .int (z2 (u)))]) hx hb dX2_stopEndedBells_4 rfl hl (by decide) rfl (fun ls hl => ?_)
  refine lv_aload_n hx hb dX2_stopEndedBells_5 rfl (lv_at hl 0 rfl) ?_
  refine g_alen (n := 3) hx hb hG 2 rfl (hP.ba hn) rfl dX2_stopEndedBells_6 ?_
  refine lv_istore_n (lv' := [(3, .int (z2 (3))), (2, .ref (bx + 5 + 6 * n + 1)), (0, .ref (bx + 5 + 6 * n)), (1, .int (z2 (u)))]) hx hb dX2_stopEndedBells_7 rfl hl (by decide) rfl (fun ls hl => ?_)
  refine b_iconst hx hb dX2_stopEndedBells_8 ?_
  refine lv_istore (lv' := [(4, .int (z2 (0))), (3, .int (z2 (3))), (2, .ref (bx + 5 + 6 * n + 1)), (0, .ref (bx + 5 + 6 * n)), (1, .int (z2 (u)))]) hx hb dX2_stopEndedBells_9 hl (by decide) rfl (fun ls hl => ?_)
  refine lp_ms (σ := Nat) (fun k H locs ls => k ≤ 3 ∧ PX D ks bx ml (seS X n u k) H ∧ va_S (AR (RX bx) s.heap.size) s.heap H locs ∧ lv_has ls 6 [(0, .ref (bx + 5 + 6 * n)), (1, .int (z2 (u))), (2, .ref (bx + 5 + 6 * n + 1)), (3, .int (z2 (3))), (4, .int (z2 (((k : Nat) : Int))))]) (fun k => 3 - k) (fun k H locs ls hI ih => ?_) 0 ⟨by omega, hP, hS, lv_sub hl [3, 4, 2, 1, 0] rfl⟩
  obtain ⟨hkN, hP, hS, hl⟩ := hI
  have hV := vx_se hV0 n u k
  have f33 : seS X n u k 33 (3 * n + k) = X 33 (3 * n + k) := seS_f X n u (by decide) _ k
  refine lv_iload hx hb dX2_stopEndedBells_11 (lv_at hl 4 rfl) ?_
  refine lv_iload_n hx hb dX2_stopEndedBells_13 rfl (lv_at hl 3 rfl) ?_
  refine b_icmp_ge (tgt := 44) hx hb dX2_stopEndedBells_14 (by decide) ⟨⟨by omega, by omega⟩, ⟨by omega, by omega⟩⟩ (fun c_14 => ?_) (fun c_14 => ?_)
  · skip
    obtain rfl : k = 3 := by omega
    exact g_vret hx hb hr hlocks hS ⟨Nat.le_of_ble_eq_true rfl, Nat.le_of_ble_eq_true rfl⟩ (⟨rfl, hP⟩) dX2_stopEndedBells_44
  · skip
    refine lv_aload_n hx hb dX2_stopEndedBells_17 rfl (lv_at hl 2 rfl) ?_
    refine lv_iload hx hb dX2_stopEndedBells_18 (lv_at hl 4 rfl) ?_
    refine g_aald (n := 3) hx hb hG 2 rfl (hP.ba hn) k ⟨by omega, by omega, by decide⟩ dX2_stopEndedBells_20 (v := .ref (bx + 5 + 6 * n + 3 + k)) rfl ?_
    refine lv_astore (lv' := [(5, .ref (bx + 5 + 6 * n + 3 + k)), (0, .ref (bx + 5 + 6 * n)), (1, .int (z2 (u))), (2, .ref (bx + 5 + 6 * n + 1)), (3, .int (z2 (3))), (4, .int (z2 (((k : Nat) : Int))))]) hx hb dX2_stopEndedBells_21 hl (by decide) rfl (fun ls hl => ?_)
    refine lv_aload hx hb dX2_stopEndedBells_23 (lv_at hl 0 rfl) ?_
    have b_25 : 0 ≤ ((seS X n u k)) 33 (3 * n + k) ∧ ((seS X n u k)) 33 (3 * n + k) ≤ 1000024 := hV.1 33 _ rfl
    refine g_getN (C := RX0) (T := TX0) (N := 4) hx hb hts inX0 hown hG (hP.be hn (by omega)) rfl 3 (by decide) (List.mem_of_getElem? (i := 25) rfl) rfl (v := .int (z2 (((seS X n u k)) 33 (3 * n + k)))) rfl dX2_stopEndedBells_25 ?_
    refine lv_iload_n hx hb dX2_stopEndedBells_28 rfl (lv_at hl 2 rfl) ?_
    refine b_icmp_gt (tgt := 38) hx hb dX2_stopEndedBells_29 (by decide) ⟨⟨by omega, by omega⟩, ⟨by omega, by omega⟩⟩ (fun c_29 => ?_) (fun c_29 => ?_)
    · skip
      refine b_iinc (lv' := [(4, .int (z2 (((k : Nat) : Int) + 1))), (5, .ref (bx + 5 + 6 * n + 3 + k)), (0, .ref (bx + 5 + 6 * n)), (1, .int (z2 (u))), (2, .ref (bx + 5 + 6 * n + 1)), (3, .int (z2 (3)))]) hx hb dX2_stopEndedBells_38 hl (k := 5) rfl (by decide) rfl (fun ls hl => ?_)
      refine lv_goto (tgt := 11) hx hb dX2_stopEndedBells_41 (by decide) ?_
      have e2 : seS X n u (k + 1) = _ := if_neg (fun q => by omega)
      exact ih (k + 1) _ _ _ (by omega) ⟨by omega, (by rw [e2]; exact hP), hS, lv_sub hl [2, 3, 4, 5, 0] rfl⟩
    · skip
      refine lv_aload hx hb dX2_stopEndedBells_32 (lv_at hl 0 rfl) ?_
      refine b_iconst hx hb dX2_stopEndedBells_34 ?_
      refine g_putN (C := RX0) (T := TX0) (N := 4) hx hb hts inX0 tyX0 tyX0_ok nmX0 hown hG hS (hP.be hn (by omega)) (Or.inl ⟨by omega, by omega⟩) rfl 2 (by decide) (List.mem_of_getElem? (i := 22) rfl) rfl rfl (v := .int (z2 (0))) (by decide +kernel) (by decide +kernel) (Nat.le_of_ble_eq_true rfl) dX2_stopEndedBells_35 (fun H locs he hz oq hS => ?_)
      have hP : PX D ks bx ml (up ((seS X n u k)) 32 (3 * n + k) (0)) H := hP.bell (k := 2) hn (by omega) ⟨by decide, by decide⟩ he oq
      refine b_iinc (lv' := [(4, .int (z2 (((k : Nat) : Int) + 1))), (5, .ref (bx + 5 + 6 * n + 3 + k)), (0, .ref (bx + 5 + 6 * n)), (1, .int (z2 (u))), (2, .ref (bx + 5 + 6 * n + 1)), (3, .int (z2 (3)))]) hx hb dX2_stopEndedBells_38 hl (k := 5) rfl (by decide) rfl (fun ls hl => ?_)
      refine lv_goto (tgt := 11) hx hb dX2_stopEndedBells_41 (by decide) ?_
      have e2 : seS X n u (k + 1) = _ := if_pos (by omega)
      exact ih (k + 1) _ _ _ (by omega) ⟨by omega, (by rw [e2]; exact hP), hS, lv_sub hl [2, 3, 4, 5, 0] rfl⟩
set_option maxHeartbeats 4000000 in
set_option maxRecDepth 100000 in
theorem k_spend (l : Launch) (D : va_G) (ks : Nat → ClassId) (bx : Nat) (ml : Nat → Nat) (X : Nat → Nat → Int) (H : Heap) (hP : PX D ks bx ml X H) (hV : VX X) {n : Nat} (hn : n < 8) (u v2 : Int) (hr : (0 ≤ u ∧ u ≤ 1000000) ∧ 0 ≤ v2 ∧ v2 ≤ 1000001) : KM l yX2_spend wsX2_spend ({ frames := 3, cells := 0, slots := 0, locals := 71 } : Room) D ks bx [.ref (bx + 5 + 6 * n), .int (z2 u), .int (z2 v2)] H (RX bx) (fun v H1 => v = none ∧ PX D ks bx ml (spS X n u v2) H1) (fun _ _ => False) := by
  refine KM.of (cc := cX2_spend) (maxL := 4) (ret := none) (by decide) rfl (Nat.le_of_ble_eq_true rfl) ?_
  intro p e s m below meth c hx hb hml hr hlocks hown hname hts hext hH0 hG ls hl
  subst hH0
  have hown : s.vm.findClass RX2 = some m.cls := hown
  have hS : va_S (AR (RX bx) s.heap.size) s.heap s.heap [] := va_S.rf
  have hl : lv_has ls 4 [(0, .ref (bx + 5 + 6 * n)), (1, .int (z2 (u))), (2, .int (z2 (v2)))] := hl
  have inX2 : ∀ w ∈ wsX20, w ∈ wsX2_spend := by decide +kernel
  refine lv_aload_n hx hb dX2_spend_0 rfl (lv_at hl 0 rfl) ?_
  refine g_run (vx_runV (As := []) (rest := []) ⟨hx, hb, hml, hown, hts⟩ (k_ringingSet l D ks bx ml X _ hP hV hn) (cwV 0 hts gX2_spend_X2_ringingSet rfl rfl rfl (by decide +kernel) ⟨Nat.le_of_ble_eq_true rfl, Nat.le_of_ble_eq_true rfl⟩) (g_preV (r := (RX2, TX2, 13)) hG hS rx_ge (hP.hs hn) rfl) rfl rfl hl.1 rfl (lv_room (Nat.le_of_ble_eq_true rfl)) dX2_spend_1 ⟨Nat.le_of_ble_eq_true rfl, Nat.le_of_ble_eq_true rfl⟩) hS (fun _ h => h) (fun _ _ _ _ _ h => h.elim) (fun v H1 locs hp hz9 hk9 hS => ?_)
  obtain ⟨rfl, rfl⟩ := hp
  have rb_1 := rsS_b X n
  refine W.eq (g2 := F0 m 4 ls [.int (z2 (rsS X n))]) rfl ?_
  refine b_if_ne (tgt := 8) hx hb dX2_spend_4 (by decide) ⟨by omega, by omega⟩ (fun c_4 => ?_) (fun c_4 => ?_)
  · skip
    refine lv_aload_n hx hb dX2_spend_8 rfl (lv_at hl 0 rfl) ?_
    refine lv_iload_n hx hb dX2_spend_9 rfl (lv_at hl 1 rfl) ?_
    refine lv_iload_n hx hb dX2_spend_10 rfl (lv_at hl 2 rfl) ?_
    refine g_run (vx_runV (As := [.int (z2 (u)), .int (z2 (v2))]) (rest := []) ⟨hx, hb, hml, hown, hts⟩ (k_quietSeconds l D ks bx ml X _ hP hV hn (u) (v2) ⟨⟨by omega, by omega⟩, by omega, by omega⟩) (cwV 2 hts gX2_spend_X2_quietSeconds rfl rfl rfl (by decide +kernel) ⟨Nat.le_of_ble_eq_true rfl, Nat.le_of_ble_eq_true rfl⟩) (g_preV (r := (RX2, TX2, 13)) hG hS rx_ge (hP.hs hn) rfl) rfl rfl hl.1 rfl (lv_room (Nat.le_of_ble_eq_true rfl)) dX2_spend_11 ⟨Nat.le_of_ble_eq_true rfl, Nat.le_of_ble_eq_true rfl⟩) hS (fun _ h => h) (fun _ _ _ _ _ h => h.elim) (fun v H1 locs hp hz9 hk9 hS => ?_)
    obtain ⟨rfl, rfl⟩ := hp
    have qb_11 := qS_b (X := X) hV n (u) (v2)
    refine W.eq (g2 := F0 m 14 ls [.int (z2 (qS X n (u) (v2)))]) rfl ?_
    refine lv_istore_n (lv' := [(3, .int (z2 (qS X n (u) (v2)))), (0, .ref (bx + 5 + 6 * n)), (1, .int (z2 (u))), (2, .int (z2 (v2)))]) hx hb dX2_spend_14 rfl hl (by decide) rfl (fun ls hl => ?_)
    refine lv_aload_n hx hb dX2_spend_15 rfl (lv_at hl 1 rfl) ?_
    refine lv_dup hx hb dX2_spend_16 rfl ?_
    refine g_get (C := RX2) (T := TX2) (N := 13) hx hb hts inX2 hown hG (hP.hs hn) rfl 8 (by decide) (by decide +kernel) rfl (v := .int (z2 (X 18 n))) rfl dX2_spend_17 ?_
    refine lv_iload_n hx hb dX2_spend_20 rfl (lv_at hl 3 rfl) ?_
    refine lv_iload_n hx hb dX2_spend_21 rfl (lv_at hl 2 rfl) ?_
    refine b_isub hx hb dX2_spend_22 ?_
    refine b_iadd hx hb dX2_spend_23 ?_
    refine g_put (C := RX2) (T := TX2) (N := 13) hx hb hts inX2 tyX2 tyX2_ok nmX2 hown hG hS (hP.hs hn) (Or.inl ⟨by omega, by omega⟩) rfl 8 (by decide) (by decide +kernel) rfl rfl (v := .int (z2 ((X 18 n) + (v2 - u)))) rfl rfl (Nat.le_of_ble_eq_true rfl) dX2_spend_24 (fun H locs he hz oq hS => ?_)
    have hP : PX D ks bx ml (up X 18 n ((X 18 n) + (v2 - u))) H := hP.house (k := 8) hn ⟨by decide, by decide⟩ he oq
    refine lv_aload_n hx hb dX2_spend_27 rfl (lv_at hl 1 rfl) ?_
    refine lv_dup hx hb dX2_spend_28 rfl ?_
    refine g_get (C := RX2) (T := TX2) (N := 13) hx hb hts inX2 hown hG (hP.hs hn) rfl 9 (by decide) (by decide +kernel) rfl (v := .int (z2 (X 19 n))) rfl dX2_spend_29 ?_
    refine lv_iload_n hx hb dX2_spend_32 rfl (lv_at hl 0 rfl) ?_
    refine b_iadd hx hb dX2_spend_33 ?_
    refine g_put (C := RX2) (T := TX2) (N := 13) hx hb hts inX2 tyX2 tyX2_ok nmX2 hown hG hS (hP.hs hn) (Or.inl ⟨by omega, by omega⟩) rfl 9 (by decide) (by decide +kernel) rfl rfl (v := .int (z2 ((X 19 n) + (qS X n (u) (v2))))) rfl rfl (Nat.le_of_ble_eq_true rfl) dX2_spend_34 (fun H locs he hz oq hS => ?_)
    have hP : PX D ks bx ml (up (up X 18 n ((X 18 n) + (v2 - u))) 19 n ((X 19 n) + (qS X n (u) (v2)))) H := hP.house (k := 9) hn ⟨by decide, by decide⟩ he oq
    refine lv_iload_n hx hb dX2_spend_37 rfl (lv_at hl 0 rfl) ?_
    refine b_if_le (tgt := 46) hx hb dX2_spend_38 (by decide) ⟨by omega, by omega⟩ (fun c_38 => ?_) (fun c_38 => ?_)
    · skip
      exact g_vret hx hb hr hlocks hS ⟨Nat.le_of_ble_eq_true rfl, Nat.le_of_ble_eq_true rfl⟩ (⟨rfl, by unfold spS; rw [if_neg (by omega), if_neg (by omega)]; exact hP⟩) dX2_spend_46
    · skip
      refine lv_aload_n hx hb dX2_spend_41 rfl (lv_at hl 1 rfl) ?_
      refine b_iconst hx hb dX2_spend_42 ?_
      refine g_put (C := RX2) (T := TX2) (N := 13) hx hb hts inX2 tyX2 tyX2_ok nmX2 hown hG hS (hP.hs hn) (Or.inl ⟨by omega, by omega⟩) rfl 12 (by decide) (by decide +kernel) rfl rfl (v := .int (z2 (0))) (by decide +kernel) (by decide +kernel) (Nat.le_of_ble_eq_true rfl) dX2_spend_43 (fun H locs he hz oq hS => ?_)
      have hP : PX D ks bx ml (up (up (up X 18 n ((X 18 n) + (v2 - u))) 19 n ((X 19 n) + (qS X n (u) (v2)))) 22 n (0)) H := hP.house (k := 12) hn ⟨by decide, by decide⟩ he oq
      exact g_vret hx hb hr hlocks hS ⟨Nat.le_of_ble_eq_true rfl, Nat.le_of_ble_eq_true rfl⟩ (⟨rfl, by unfold spS; rw [if_neg (by omega), if_pos (by omega)]; exact hP⟩) dX2_spend_46
  · skip
    exact g_vret hx hb hr hlocks hS ⟨Nat.le_of_ble_eq_true rfl, Nat.le_of_ble_eq_true rfl⟩ (⟨rfl, by unfold spS; rw [if_pos (by omega)]; exact hP⟩) dX2_spend_7
set_option maxHeartbeats 4000000 in
set_option maxRecDepth 100000 in
theorem k_closeDay (l : Launch) (D : va_G) (ks : Nat → ClassId) (bx : Nat) (ml : Nat → Nat) (X : Nat → Nat → Int) (H : Heap) (hP : PX D ks bx ml X H) (hV : VX X) {n : Nat} (hn : n < 8) : KM l yX2_closeDay wsX2_closeDay ({ frames := 0, cells := 0, slots := 0, locals := 0 } : Room) D ks bx [.ref (bx + 5 + 6 * n)] H (RX bx) (fun v H1 => v = none ∧ PX D ks bx ml (cdS X n) H1) (fun _ _ => False) := by
  refine KM.of (cc := cX2_closeDay) (maxL := 1) (ret := none) (by decide) rfl (Nat.le_of_ble_eq_true rfl) ?_
  intro p e s m below meth c hx hb hml hr hlocks hown hname hts hext hH0 hG ls hl
  subst hH0
  have hown : s.vm.findClass RX2 = some m.cls := hown
  have hS : va_S (AR (RX bx) s.heap.size) s.heap s.heap [] := va_S.rf
  have hl : lv_has ls 1 [(0, .ref (bx + 5 + 6 * n))] := hl
  have inX2 : ∀ w ∈ wsX20, w ∈ wsX2_closeDay := by decide +kernel
  refine lv_aload_n hx hb dX2_closeDay_0 rfl (lv_at hl 0 rfl) ?_
  have b_1 : 0 ≤ X 22 n ∧ X 22 n ≤ 1 := hV.1 22 _ rfl
  refine g_get (C := RX2) (T := TX2) (N := 13) hx hb hts inX2 hown hG (hP.hs hn) rfl 12 (by decide) (by decide +kernel) rfl (v := .int (z2 (X 22 n))) rfl dX2_closeDay_1 ?_
  refine b_if_eq (tgt := 17) hx hb dX2_closeDay_4 (by decide) ⟨by omega, by omega⟩ (fun c_4 => ?_) (fun c_4 => ?_)
  · skip
    refine lv_aload_n hx hb dX2_closeDay_17 rfl (lv_at hl 0 rfl) ?_
    refine lv_dup hx hb dX2_closeDay_18 rfl ?_
    refine g_get (C := RX2) (T := TX2) (N := 13) hx hb hts inX2 hown hG (hP.hs hn) rfl 7 (by decide) (by decide +kernel) rfl (v := .int (z2 (X 17 n))) rfl dX2_closeDay_19 ?_
    refine b_iconst hx hb dX2_closeDay_22 ?_
    refine lv_aload_n hx hb dX2_closeDay_23 rfl (lv_at hl 0 rfl) ?_
    refine g_get (C := RX2) (T := TX2) (N := 13) hx hb hts inX2 hown hG (hP.hs hn) rfl 11 (by decide) (by decide +kernel) rfl (v := .int (z2 (X 21 n))) rfl dX2_closeDay_24 ?_
    refine b_imul hx hb dX2_closeDay_27 ?_
    refine b_isub hx hb dX2_closeDay_28 ?_
    refine g_put (C := RX2) (T := TX2) (N := 13) hx hb hts inX2 tyX2 tyX2_ok nmX2 hown hG hS (hP.hs hn) (Or.inl ⟨by omega, by omega⟩) rfl 7 (by decide) (by decide +kernel) rfl rfl (v := .int (z2 ((X 17 n) - (3 * (X 21 n))))) rfl rfl (Nat.le_of_ble_eq_true rfl) dX2_closeDay_29 (fun H locs he hz oq hS => ?_)
    have hP : PX D ks bx ml (up X 17 n ((X 17 n) - (3 * (X 21 n)))) H := hP.house (k := 7) hn ⟨by decide, by decide⟩ he oq
    refine lv_aload_n hx hb dX2_closeDay_32 rfl (lv_at hl 0 rfl) ?_
    refine b_iconst hx hb dX2_closeDay_33 ?_
    refine g_put (C := RX2) (T := TX2) (N := 13) hx hb hts inX2 tyX2 tyX2_ok nmX2 hown hG hS (hP.hs hn) (Or.inl ⟨by omega, by omega⟩) rfl 12 (by decide) (by decide +kernel) rfl rfl (v := .int (z2 (1))) (by decide +kernel) (by decide +kernel) (Nat.le_of_ble_eq_true rfl) dX2_closeDay_34 (fun H locs he hz oq hS => ?_)
    have hP : PX D ks bx ml (up (up X 17 n ((X 17 n) - (3 * (X 21 n)))) 22 n (1)) H := hP.house (k := 12) hn ⟨by decide, by decide⟩ he oq
    refine lv_aload_n hx hb dX2_closeDay_37 rfl (lv_at hl 0 rfl) ?_
    refine b_iconst hx hb dX2_closeDay_38 ?_
    refine g_put (C := RX2) (T := TX2) (N := 13) hx hb hts inX2 tyX2 tyX2_ok nmX2 hown hG hS (hP.hs hn) (Or.inl ⟨by omega, by omega⟩) rfl 11 (by decide) (by decide +kernel) rfl rfl (v := .int (z2 (0))) rfl rfl (Nat.le_of_ble_eq_true rfl) dX2_closeDay_39 (fun H locs he hz oq hS => ?_)
    have hP : PX D ks bx ml (up (up (up X 17 n ((X 17 n) - (3 * (X 21 n)))) 22 n (1)) 21 n (0)) H := hP.house (k := 11) hn ⟨by decide, by decide⟩ he oq
    exact g_vret hx hb hr hlocks hS ⟨Nat.le_of_ble_eq_true rfl, Nat.le_of_ble_eq_true rfl⟩ (⟨rfl, by unfold cdS; rw [if_pos (by omega)]; exact hP⟩) dX2_closeDay_42
  · skip
    refine lv_aload_n hx hb dX2_closeDay_7 rfl (lv_at hl 0 rfl) ?_
    refine lv_dup hx hb dX2_closeDay_8 rfl ?_
    refine g_get (C := RX2) (T := TX2) (N := 13) hx hb hts inX2 hown hG (hP.hs hn) rfl 7 (by decide) (by decide +kernel) rfl (v := .int (z2 (X 17 n))) rfl dX2_closeDay_9 ?_
    refine b_iconst hx hb dX2_closeDay_12 ?_
    refine b_iadd hx hb dX2_closeDay_13 ?_
    refine g_put (C := RX2) (T := TX2) (N := 13) hx hb hts inX2 tyX2 tyX2_ok nmX2 hown hG hS (hP.hs hn) (Or.inl ⟨by omega, by omega⟩) rfl 7 (by decide) (by decide +kernel) rfl rfl (v := .int (z2 ((X 17 n) + 1))) rfl rfl (Nat.le_of_ble_eq_true rfl) dX2_closeDay_14 (fun H locs he hz oq hS => ?_)
    have hP : PX D ks bx ml (up X 17 n ((X 17 n) + 1)) H := hP.house (k := 7) hn ⟨by decide, by decide⟩ he oq
    refine lv_aload_n hx hb dX2_closeDay_17 rfl (lv_at hl 0 rfl) ?_
    refine lv_dup hx hb dX2_closeDay_18 rfl ?_
    refine g_get (C := RX2) (T := TX2) (N := 13) hx hb hts inX2 hown hG (hP.hs hn) rfl 7 (by decide) (by decide +kernel) rfl (v := .int (z2 ((X 17 n) + 1))) (congrArg (fun z => some (Value.int (z2 z))) (by simp [up] : (up X 17 n ((X 17 n) + 1)) 17 n = (X 17 n) + 1)) dX2_closeDay_19 ?_
    refine b_iconst hx hb dX2_closeDay_22 ?_
    refine lv_aload_n hx hb dX2_closeDay_23 rfl (lv_at hl 0 rfl) ?_
    refine g_get (C := RX2) (T := TX2) (N := 13) hx hb hts inX2 hown hG (hP.hs hn) rfl 11 (by decide) (by decide +kernel) rfl (v := .int (z2 (X 21 n))) rfl dX2_closeDay_24 ?_
    refine b_imul hx hb dX2_closeDay_27 ?_
    refine b_isub hx hb dX2_closeDay_28 ?_
    refine g_put (C := RX2) (T := TX2) (N := 13) hx hb hts inX2 tyX2 tyX2_ok nmX2 hown hG hS (hP.hs hn) (Or.inl ⟨by omega, by omega⟩) rfl 7 (by decide) (by decide +kernel) rfl rfl (v := .int (z2 (((X 17 n) + 1) - (3 * (X 21 n))))) rfl rfl (Nat.le_of_ble_eq_true rfl) dX2_closeDay_29 (fun H locs he hz oq hS => ?_)
    have hP : PX D ks bx ml (up (up X 17 n ((X 17 n) + 1)) 17 n (((X 17 n) + 1) - (3 * (X 21 n)))) H := hP.house (k := 7) hn ⟨by decide, by decide⟩ he oq
    refine lv_aload_n hx hb dX2_closeDay_32 rfl (lv_at hl 0 rfl) ?_
    refine b_iconst hx hb dX2_closeDay_33 ?_
    refine g_put (C := RX2) (T := TX2) (N := 13) hx hb hts inX2 tyX2 tyX2_ok nmX2 hown hG hS (hP.hs hn) (Or.inl ⟨by omega, by omega⟩) rfl 12 (by decide) (by decide +kernel) rfl rfl (v := .int (z2 (1))) (by decide +kernel) (by decide +kernel) (Nat.le_of_ble_eq_true rfl) dX2_closeDay_34 (fun H locs he hz oq hS => ?_)
    have hP : PX D ks bx ml (up (up (up X 17 n ((X 17 n) + 1)) 17 n (((X 17 n) + 1) - (3 * (X 21 n)))) 22 n (1)) H := hP.house (k := 12) hn ⟨by decide, by decide⟩ he oq
    refine lv_aload_n hx hb dX2_closeDay_37 rfl (lv_at hl 0 rfl) ?_
    refine b_iconst hx hb dX2_closeDay_38 ?_
    refine g_put (C := RX2) (T := TX2) (N := 13) hx hb hts inX2 tyX2 tyX2_ok nmX2 hown hG hS (hP.hs hn) (Or.inl ⟨by omega, by omega⟩) rfl 11 (by decide) (by decide +kernel) rfl rfl (v := .int (z2 (0))) rfl rfl (Nat.le_of_ble_eq_true rfl) dX2_closeDay_39 (fun H locs he hz oq hS => ?_)
    have hP : PX D ks bx ml (up (up (up (up X 17 n ((X 17 n) + 1)) 17 n (((X 17 n) + 1) - (3 * (X 21 n)))) 22 n (1)) 21 n (0)) H := hP.house (k := 11) hn ⟨by decide, by decide⟩ he oq
    exact g_vret hx hb hr hlocks hS ⟨Nat.le_of_ble_eq_true rfl, Nat.le_of_ble_eq_true rfl⟩ (⟨rfl, by unfold cdS; rw [if_neg (by omega)]; exact hP⟩) dX2_closeDay_42
set_option maxHeartbeats 4000000 in
set_option maxRecDepth 100000 in
theorem k_finish (l : Launch) (D : va_G) (ks : Nat → ClassId) (bx : Nat) (ml : Nat → Nat) (X : Nat → Nat → Int) (H : Heap) (hP : PX D ks bx ml X H) (hV : VX X) {n : Nat} (hn : n < 2) (u : Int) (hu : 0 ≤ u ∧ u ≤ 2000000) : KM l yX1_finish wsX1_finish ({ frames := 0, cells := 0, slots := 0, locals := 0 } : Room) D ks bx [.ref (bx + 53 + n), .int (z2 u)] H (RX bx) (fun v H1 => v = none ∧ PX D ks bx ml (fiS X n u) H1) (fun _ _ => False) := by
  refine KM.of (cc := cX1_finish) (maxL := 2) (ret := none) (by decide) rfl (Nat.le_of_ble_eq_true rfl) ?_
  intro p e s m below meth c hx hb hml hr hlocks hown hname hts hext hH0 hG ls hl
  subst hH0
  have hown : s.vm.findClass RX1 = some m.cls := hown
  have hS : va_S (AR (RX bx) s.heap.size) s.heap s.heap [] := va_S.rf
  have hl : lv_has ls 2 [(0, .ref (bx + 53 + n)), (1, .int (z2 (u)))] := hl
  have inX1 : ∀ w ∈ wsX10, w ∈ wsX1_finish := by decide +kernel
  have inX2 : ∀ w ∈ wsX20, w ∈ wsX1_finish := by decide +kernel
  refine lv_aload_n hx hb dX1_finish_0 rfl (lv_at hl 0 rfl) ?_
  have b_1 : -1 ≤ X 34 n ∧ X 34 n ≤ 7 := hV.1 34 _ rfl
  refine g_get (C := RX1) (T := TX1) (N := 2) hx hb hts inX1 hown hG (hP.cr hn) rfl 0 (by decide) (by decide +kernel) rfl (v := va_rf (go bx (X 34 n))) rfl dX1_finish_1 ?_
  refine g_go b_1.1 (fun c_1 => ?_) (fun k1 c_1 => ?_)
  · skip
    refine lv_ifnullN (tgt := 28) hx hb dX1_finish_4 (by decide) ?_
    exact g_vret hx hb hr hlocks hS ⟨Nat.le_of_ble_eq_true rfl, Nat.le_of_ble_eq_true rfl⟩ (⟨rfl, by unfold fiS; rw [if_neg (fun q => by omega)]; exact hP⟩) dX1_finish_28
  · skip
    have hk1 : k1 < 8 := by omega
    refine lv_ifnull hx hb dX1_finish_4 ?_
    refine lv_aload_n hx hb dX1_finish_7 rfl (lv_at hl 0 rfl) ?_
    have b_8 : 0 ≤ X 35 n ∧ X 35 n ≤ 1000050 := hV.1 35 _ rfl
    refine g_get (C := RX1) (T := TX1) (N := 2) hx hb hts inX1 hown hG (hP.cr hn) rfl 1 (by decide) (by decide +kernel) rfl (v := .int (z2 (X 35 n))) rfl dX1_finish_8 ?_
    refine lv_iload_n hx hb dX1_finish_11 rfl (lv_at hl 1 rfl) ?_
    refine b_icmp_gt (tgt := 28) hx hb dX1_finish_12 (by decide) ⟨⟨by omega, by omega⟩, ⟨by omega, by omega⟩⟩ (fun c_12 => ?_) (fun c_12 => ?_)
    · skip
      exact g_vret hx hb hr hlocks hS ⟨Nat.le_of_ble_eq_true rfl, Nat.le_of_ble_eq_true rfl⟩ (⟨rfl, by unfold fiS; rw [if_neg (fun q => by omega)]; exact hP⟩) dX1_finish_28
    · skip
      refine lv_aload_n hx hb dX1_finish_15 rfl (lv_at hl 0 rfl) ?_
      refine g_get (C := RX1) (T := TX1) (N := 2) hx hb hts inX1 hown hG (hP.cr hn) rfl 0 (by decide) (by decide +kernel) rfl (v := va_rf (go bx (X 34 n))) rfl dX1_finish_16 ?_
      refine g_go (by omega) (fun q => absurd q (by omega)) (fun km q => ?_)
      obtain rfl : k1 = km := by omega
      refine b_iconst hx hb dX1_finish_19 ?_
      refine g_putN (C := RX2) (T := TX2) (N := 13) hx hb hts inX2 tyX2 tyX2_ok nmX2 hown hG hS (hP.hs hk1) (Or.inl ⟨by omega, by omega⟩) rfl 4 (by decide) (List.mem_of_getElem? (i := 19) rfl) rfl rfl (v := .int (z2 (1))) (by decide +kernel) (by decide +kernel) (Nat.le_of_ble_eq_true rfl) dX1_finish_20 (fun H locs he hz oq hS => ?_)
      have hP : PX D ks bx ml (up X 14 k1 (1)) H := hP.house (k := 4) hk1 ⟨by decide, by decide⟩ he oq
      refine lv_aload_n hx hb dX1_finish_23 rfl (lv_at hl 0 rfl) ?_
      refine lv_null hx hb dX1_finish_24 ?_
      refine W.eq (g2 := F0 m 25 ls (va_rf (go bx (-1)) :: .ref (bx + 53 + n) :: [])) rfl ?_
      refine g_put (C := RX1) (T := TX1) (N := 2) hx hb hts inX1 tyX1 tyX1_ok nmX1 hown hG hS (hP.cr hn) (Or.inl ⟨by omega, by omega⟩) rfl 0 (by decide) (by decide +kernel) rfl rfl (v := va_rf (go bx (-1))) (by cases go bx _ <;> rfl) (by cases go bx _ <;> rfl) (Nat.le_of_ble_eq_true rfl) dX1_finish_25 (fun H locs he hz oq hS => ?_)
      have hP : PX D ks bx ml (up (up X 14 k1 (1)) 34 n ((-1))) H := hP.goal hn he oq
      have f9 : (X 34 n).toNat = k1 := by omega
      exact g_vret hx hb hr hlocks hS ⟨Nat.le_of_ble_eq_true rfl, Nat.le_of_ble_eq_true rfl⟩ (⟨rfl, by unfold fiS; rw [if_pos ⟨by omega, by omega⟩, f9]; exact hP⟩) dX1_finish_28
end
section
/-! LONGS by their integers: shifts, masks, tones. -/
abbrev B63 (z : Int) : Prop := -9223372036854775808 ≤ z ∧ z < 9223372036854775808
theorem l2_toInt {z : Int} (h : B63 z) : (l2 z).toInt = z := Int64.toInt_ofInt_of_le (by have := h.1; omega) (by have := h.2; omega)
theorem l2_of (x : Int64) : l2 x.toInt = x := Int64.ofInt_toInt x
theorem l2_rng (x : Int64) : B63 x.toInt := ⟨by have := Int64.le_toInt x; omega, by have := Int64.toInt_lt x; omega⟩
theorem l2_eq {a b : Int} (ha : B63 a) (hb : B63 b) : l2 a = l2 b ↔ a = b := by rw [← Int64.toInt_inj, l2_toInt ha, l2_toInt hb]
theorem l2_lt {a b : Int} (ha : B63 a) (hb : B63 b) : l2 a < l2 b ↔ a < b := by rw [Int64.lt_iff_toInt_lt, l2_toInt ha, l2_toInt hb]
theorem l2_cmp {a b : Int} (ha : B63 a) (hb : B63 b) : lg_cmp (l2 a) (l2 b) = z2 (if b < a then 1 else if a = b then 0 else -1) := by
  unfold lg_cmp
  by_cases h1 : b < a
  · rw [if_pos ((l2_lt hb ha).mpr h1), if_pos h1]
    decide +kernel
  · rw [if_neg (fun q => h1 ((l2_lt hb ha).mp q)), if_neg h1]
    by_cases h2 : a = b
    · rw [if_pos ((l2_eq ha hb).mpr h2), if_pos h2]
      decide +kernel
    · rw [if_neg (fun q => h2 ((l2_eq ha hb).mp q)), if_neg h2]
      decide +kernel
theorem l2_z2 (z : Int) : (l2 z).toInt32 = z2 z := Int64.toInt32_ofInt
theorem z2_l2 {z : Int} (h : B31 z) : (z2 z).toInt64 = l2 z := Int32.toInt64_ofInt (by show (-2147483648 : Int) ≤ z; omega) (by show z ≤ (2147483647 : Int); omega)
theorem l2_k : ∀ k : Nat, k < 64 → (((z2 (k : Nat)).toInt64 &&& 63).toBitVec.smod 64).toNat = k := by decide +kernel
theorem l2_shr {x : Int} {k : Nat} (h0 : 0 ≤ x) (h1 : x < 9223372036854775808) (hk : k < 64) : l2 x >>> ((z2 (k : Nat)).toInt64 &&& 63) = l2 (x / 2 ^ k) := by
  have hd : x / 2 ^ k ≤ x := Int.ediv_le_self _ h0
  have hp : (0 : Int) < 2 ^ k := Int.pow_pos (by decide)
  have hd0 : 0 ≤ x / 2 ^ k := Int.ediv_nonneg h0 (Int.le_of_lt hp)
  apply Int64.toInt_inj.mp
  have e : (l2 x >>> ((z2 (k : Nat)).toInt64 &&& 63)).toInt = (l2 x).toInt >>> k := by
    conv => rhs; rw [← l2_k k hk]
    exact BitVec.toInt_sshiftRight ..
  rw [e, Int.shiftRight_eq_div_pow, l2_toInt ⟨by omega, h1⟩, l2_toInt ⟨by omega, by omega⟩]
  simp
theorem l2_nat (n : Nat) : l2 (n : Nat) = Int64.ofNat n := Int64.ofInt_eq_ofNat
theorem u64_tn {n : Nat} (h : n < 18446744073709551616) : (UInt64.ofNat n).toNat = n := by
  show (BitVec.ofNat 64 n).toNat = n
  rw [BitVec.toNat_ofNat, Nat.mod_eq_of_lt (by omega)]
theorem l2_shl4 (n : Nat) : l2 (n : Nat) <<< ((z2 4).toInt64 &&& 63) = l2 ((16 * n : Nat) : Int) := by
  rw [l2_nat, l2_nat]
  apply Int64.toBitVec_inj.mp
  have h4 : ((z2 4).toInt64 &&& 63).toBitVec.smod 64 = BitVec.ofNat 64 4 := by decide +kernel
  rw [Int64.toBitVec_shiftLeft, h4]
  apply BitVec.eq_of_toNat_eq
  show ((BitVec.ofNat 64 n) <<< (BitVec.ofNat 64 4)).toNat = (BitVec.ofNat 64 (16 * n)).toNat
  rw [BitVec.shiftLeft_eq', BitVec.toNat_shiftLeft, BitVec.toNat_ofNat, BitVec.toNat_ofNat, BitVec.toNat_ofNat, Nat.shiftLeft_eq]
  show n % 18446744073709551616 * 16 % 18446744073709551616 = 16 * n % 18446744073709551616
  omega
theorem l2_or (n a : Nat) (ha : a < 16) (h : 16 * n + a < 18446744073709551616) : l2 ((16 * n : Nat) : Int) ||| l2 (a : Nat) = l2 ((16 * n + a : Nat) : Int) := by
  rw [l2_nat, l2_nat, l2_nat]
  have h1 : 16 * n ||| a = 16 * n + a := by
    rw [Nat.mul_comm, show (16 : Nat) = 2 ^ 4 from rfl, ← Nat.shiftLeft_eq, Nat.shiftLeft_add_eq_or_of_lt (by omega)]
  have h3 : UInt64.ofNat (16 * n) ||| UInt64.ofNat a = UInt64.ofNat (16 * n + a) := UInt64.toNat_inj.mp (by rw [UInt64.toNat_or, u64_tn (by omega), u64_tn (by omega), u64_tn h, h1])
  exact congrArg UInt64.toInt64 h3
theorem z2_and15 (x : Int) : z2 x &&& z2 15 = z2 (x % 16) := by
  apply Int32.toBitVec_inj.mp
  have e1 : (z2 x).toBitVec = BitVec.ofInt 32 x := rfl
  have e2 : (z2 (x % 16)).toBitVec = BitVec.ofInt 32 (x % 16) := rfl
  have e3 : (z2 15).toBitVec = 15#32 := by decide +kernel
  rw [Int32.toBitVec_and, e1, e2, e3]
  apply BitVec.eq_of_toNat_eq
  rw [BitVec.toNat_and, BitVec.toNat_ofInt, BitVec.toNat_ofInt]
  show (x % 4294967296).toNat &&& 2 ^ 4 - 1 = (x % 16 % 4294967296).toNat
  rw [Nat.and_two_pow_sub_one_eq_mod]
  omega
theorem l2_and15 (x : Int) : l2 x &&& l2 15 = l2 (x % 16) := by
  apply Int64.toBitVec_inj.mp
  have e1 : (l2 x).toBitVec = BitVec.ofInt 64 x := rfl
  have e2 : (l2 (x % 16)).toBitVec = BitVec.ofInt 64 (x % 16) := rfl
  have e3 : (l2 15).toBitVec = 15#64 := by decide +kernel
  rw [Int64.toBitVec_and, e1, e2, e3]
  apply BitVec.eq_of_toNat_eq
  rw [BitVec.toNat_and, BitVec.toNat_ofInt, BitVec.toNat_ofInt]
  show (x % 18446744073709551616).toNat &&& 2 ^ 4 - 1 = (x % 16 % 18446744073709551616).toNat
  rw [Nat.and_two_pow_sub_one_eq_mod]
  omega
/-! tones: the p-th of t; those of t shifted by b, and turned, the last k, the first k -/
def toS (t : Int) (q : Nat) : Int := t / 16 ^ q % 16
def shR (t b : Int) (n : Nat) : Nat → Int
  | 0 => 0
  | k + 1 => 16 * shR t b n k + (toS t (n - 1 - k) + b) % 16
def tuR (t : Int) : Nat → Int
  | 0 => 0
  | k + 1 => 16 * tuR t k + toS t k
theorem toS_b (t : Int) (q : Nat) : 0 ≤ toS t q ∧ toS t q < 16 := ⟨Int.emod_nonneg _ (by decide), Int.emod_lt_of_pos _ (by decide)⟩
theorem shR_b (t b : Int) (n : Nat) : ∀ k : Nat, 0 ≤ shR t b n k ∧ shR t b n k < 16 ^ k := by
  intro k
  induction k with
  | zero => exact ⟨Int.le_refl _, Int.zero_lt_one⟩
  | succ k ih =>
    have h1 : 0 ≤ (toS t (n - 1 - k) + b) % 16 := Int.emod_nonneg _ (by decide)
    have h2 : (toS t (n - 1 - k) + b) % 16 < 16 := Int.emod_lt_of_pos _ (by decide)
    unfold shR
    rw [Int.pow_succ]
    omega
theorem tuR_b (t : Int) : ∀ k : Nat, 0 ≤ tuR t k ∧ tuR t k < 16 ^ k := by
  intro k
  induction k with
  | zero => exact ⟨Int.le_refl _, Int.zero_lt_one⟩
  | succ k ih =>
    have h1 := toS_b t k
    unfold tuR
    rw [Int.pow_succ]
    omega
theorem p16 {k : Nat} (h : k ≤ 12) : (16 : Int) ^ k ≤ 281474976710656 := by
  have h2 : (16 : Nat) ^ k ≤ 16 ^ 12 := Nat.pow_le_pow_right (by decide) h
  have h3 : ((16 ^ k : Nat) : Int) = (16 : Int) ^ k := Int.natCast_pow 16 k
  rw [← h3]
  have h4 : (16 : Nat) ^ 12 = 281474976710656 := by decide
  omega
theorem p16_2 (q : Nat) : (2 : Int) ^ (4 * q) = 16 ^ q := by rw [Int.pow_mul]; rfl
/-- a digit more at the end, in longs -/
theorem l2_dig {r d : Int} (hr : 0 ≤ r ∧ r < 281474976710656) (hd : 0 ≤ d ∧ d < 16) : (l2 r <<< ((z2 4).toInt64 &&& 63)) ||| l2 d = l2 (16 * r + d) := by
  obtain ⟨n, rfl⟩ : ∃ n : Nat, r = n := ⟨r.toNat, by omega⟩
  obtain ⟨a, rfl⟩ : ∃ a : Nat, d = a := ⟨d.toNat, by omega⟩
  rw [l2_shl4, l2_or n a (by omega) (by omega)]
  congr 1
/-- the tone q of t, by '>>' and '& 15' -/
theorem l2_tone {t : Int} {q : Nat} (ht : 0 ≤ t ∧ t < 9223372036854775808) (hq : q < 16) : l2 t >>> ((z2 ((4 * q : Nat) : Int)).toInt64 &&& 63) = l2 (t / 16 ^ q) := by
  rw [l2_shr ht.1 ht.2 (by omega), p16_2]
theorem b_topl {p : Program} {l : Launch} {e : Env} {R : Room} {s : State} {m : MethodId} {args : Array Value} {below : List Frame} {meth : Method} {c : Code} {H : Heap} {locs : List Loc} {cells slots : Nat} {Q : State → Prop} {pc : Nat} {ls : Array Slot} {rest : List Value} {x : Int64} {v : Int} (h : x = l2 v) (k : W p l e R s m args below meth c H locs cells slots Q (F0 m pc ls (.long (l2 v) :: rest))) : W p l e R s m args below meth c H locs cells slots Q (F0 m pc ls (.long x :: rest)) := by
  rw [h]
  exact k
end
section
/-! THE CLASS, module Melody. -/
set_option maxHeartbeats 4000000 in
set_option maxRecDepth 100000 in
theorem k_tone (l : Launch) (D : va_G) (ks : Nat → ClassId) (bx : Nat) (ml : Nat → Nat) (X : Nat → Nat → Int) (H : Heap) (hP : PX D ks bx ml X H) (hV : VX X) {k : Nat} (hk : (k : Int) < X 4 0) {q : Nat} (v2 : Int) (hq : v2 = q ∧ q < 16) : KM l yX3_tone wsX3_tone ({ frames := 0, cells := 0, slots := 0, locals := 0 } : Room) D ks bx [.ref (ml k), .int (z2 v2)] H (RX bx) (fun v H1 => v = some (.int (z2 (toS (X 38 k) q))) ∧ H1 = H) (fun _ _ => False) := by
  refine KM.of (cc := cX3_tone) (maxL := 2) (ret := (some .int)) (by decide) rfl (Nat.le_of_ble_eq_true rfl) ?_
  intro p e s m below meth c hx hb hml hr hlocks hown hname hts hext hH0 hG ls hl
  subst hH0
  have hown : s.vm.findClass RX3 = some m.cls := hown
  have hS : va_S (AR (RX bx) s.heap.size) s.heap s.heap [] := va_S.rf
  have hl : lv_has ls 2 [(0, .ref (ml k)), (1, .int (z2 (v2)))] := hl
  have inX3 : ∀ w ∈ wsX30, w ∈ wsX3_tone := by decide +kernel
  have t48 : X 38 k < 281474976710656 := Int.lt_of_lt_of_le (hV.2.2 k).2 (p16 (by have b : 1 ≤ X 37 k ∧ X 37 k ≤ 12 := hV.1 37 _ rfl; omega))
  have t0 : 0 ≤ X 38 k := (hV.2.2 k).1
  obtain ⟨rfl, hq⟩ := hq
  refine lv_aload_n hx hb dX3_tone_0 rfl (lv_at hl 0 rfl) ?_
  refine g_get (C := RX3) (T := TX3) (N := 4) hx hb hts inX3 hown hG (hP.me hk) rfl 3 (by decide) (by decide +kernel) rfl (v := .long (l2 (X 38 k))) rfl dX3_tone_1 ?_
  refine b_iconst hx hb dX3_tone_4 ?_
  refine lv_iload_n hx hb dX3_tone_5 rfl (lv_at hl 1 rfl) ?_
  refine b_imul hx hb dX3_tone_6 ?_
  refine lv_lshr hx hb dX3_tone_7 rfl ?_
  refine b_topl (v := X 38 k / 16 ^ q) (l2_tone ⟨t0, by omega⟩ (by omega)) ?_
  refine lv_l2i (v := z2 (X 38 k / 16 ^ q)) hx hb dX3_tone_8 (l2_z2 _) ?_
  refine b_bipush hx hb dX3_tone_9 (by decide +kernel) ?_
  refine lv_iand hx hb dX3_tone_11 ?_
  refine b_top (v := (X 38 k / 16 ^ q) % 16) (z2_and15 _) ?_
  exact g_iret hx hb hr hlocks hS ⟨Nat.le_of_ble_eq_true rfl, Nat.le_of_ble_eq_true rfl⟩ (⟨rfl, rfl⟩) dX3_tone_12
set_option maxHeartbeats 4000000 in
set_option maxRecDepth 100000 in
theorem k_tonesShifted (l : Launch) (D : va_G) (ks : Nat → ClassId) (bx : Nat) (ml : Nat → Nat) (X : Nat → Nat → Int) (H : Heap) (hP : PX D ks bx ml X H) (hV : VX X) {k : Nat} (hk : (k : Int) < X 4 0) (v2 : Int) (hr : 0 ≤ v2 ∧ v2 ≤ 15) {cn : Nat} (hc : X 37 k = cn) : KM l yX3_tonesShifted wsX3_tonesShifted ({ frames := 1, cells := 0, slots := 0, locals := 21 } : Room) D ks bx [.ref (ml k), .int (z2 v2)] H (RX bx) (fun v H1 => v = some (.long (l2 (shR (X 38 k) v2 cn cn))) ∧ H1 = H) (fun _ _ => False) := by
  refine KM.of (cc := cX3_tonesShifted) (maxL := 5) (ret := (some .long)) (by decide) rfl (Nat.le_of_ble_eq_true rfl) ?_
  intro p e s m below meth c hx hb hml hr hlocks hown hname hts hext hH0 hG ls hl
  subst hH0
  have hown : s.vm.findClass RX3 = some m.cls := hown
  have hS : va_S (AR (RX bx) s.heap.size) s.heap s.heap [] := va_S.rf
  have hl : lv_has ls 5 [(0, .ref (ml k)), (1, .int (z2 (v2)))] := hl
  have inX3 : ∀ w ∈ wsX30, w ∈ wsX3_tonesShifted := by decide +kernel
  have bc : 1 ≤ X 37 k ∧ X 37 k ≤ 12 := hV.1 37 _ rfl
  refine lv_lconst (v := l2 0) hx hb dX3_tonesShifted_0 (by decide +kernel) ?_
  refine lv_lstore_n (lv' := [(2, .long (l2 0)), (0, .ref (ml k)), (1, .int (z2 (v2)))]) hx hb dX3_tonesShifted_1 rfl hl (by decide) rfl (fun ls hl => ?_)
  refine lv_aload_n hx hb dX3_tonesShifted_2 rfl (lv_at hl 1 rfl) ?_
  have b_3 : 1 ≤ X 37 k ∧ X 37 k ≤ 12 := hV.1 37 _ rfl
  refine g_get (C := RX3) (T := TX3) (N := 4) hx hb hts inX3 hown hG (hP.me hk) rfl 2 (by decide) (by decide +kernel) rfl (v := .int (z2 (X 37 k))) rfl dX3_tonesShifted_3 ?_
  refine b_iconst hx hb dX3_tonesShifted_6 ?_
  refine b_isub hx hb dX3_tonesShifted_7 ?_
  refine lv_istore (lv' := [(4, .int (z2 ((X 37 k) - 1))), (2, .long (l2 0)), (0, .ref (ml k)), (1, .int (z2 (v2)))]) hx hb dX3_tonesShifted_8 hl (by decide) rfl (fun ls hl => ?_)
  refine lp_ms (σ := Nat) (fun j H locs ls => j ≤ cn ∧ PX D ks bx ml X H ∧ H = s.heap ∧ va_S (AR (RX bx) s.heap.size) s.heap H locs ∧ lv_has ls 5 [(0, .ref (ml k)), (1, .int (z2 (v2))), (2, .long (l2 (shR (X 38 k) v2 cn j))), (4, .int (z2 ((cn : Int) - 1 - ((j : Nat) : Int))))]) (fun j => cn - j) (fun j H locs ls hI ih => ?_) 0 ⟨by omega, hP, rfl, hS, lv_sub hl [2, 3, 1, 0] rfl⟩
  obtain ⟨hkN, hP, hHs, hS, hl⟩ := hI
  have sb := shR_b (X 38 k) v2 cn j
  have sp := p16 (k := j) (by omega)
  refine lv_iload hx hb dX3_tonesShifted_10 (lv_at hl 3 rfl) ?_
  refine b_if_lt (tgt := 38) hx hb dX3_tonesShifted_12 (by decide) ⟨by omega, by omega⟩ (fun c_12 => ?_) (fun c_12 => ?_)
  · skip
    refine lv_lload_n hx hb dX3_tonesShifted_38 rfl (lv_at hl 2 rfl) ?_
    obtain rfl : j = cn := by omega
    exact g_lret hx hb hr hlocks hS ⟨Nat.le_of_ble_eq_true rfl, Nat.le_of_ble_eq_true rfl⟩ (⟨rfl, hHs⟩) dX3_tonesShifted_39
  · skip
    refine lv_lload_n hx hb dX3_tonesShifted_15 rfl (lv_at hl 2 rfl) ?_
    refine b_iconst hx hb dX3_tonesShifted_16 ?_
    refine lv_lshl hx hb dX3_tonesShifted_17 rfl ?_
    refine lv_aload_n hx hb dX3_tonesShifted_18 rfl (lv_at hl 0 rfl) ?_
    refine lv_iload hx hb dX3_tonesShifted_19 (lv_at hl 3 rfl) ?_
    refine g_run (vx_runV (As := [.int (z2 ((cn : Int) - 1 - ((j : Nat) : Int)))]) (rest := [.long ((l2 (shR (X 38 k) v2 cn j)) <<< ((z2 (4)).toInt64 &&& 63))]) ⟨hx, hb, hml, hown, hts⟩ (k_tone l D ks bx ml X _ hP hV hk (q := cn - 1 - j) ((cn : Int) - 1 - ((j : Nat) : Int)) (by omega)) (cwV 1 hts gX3_tonesShifted_X3_tone rfl rfl rfl (by decide +kernel) ⟨Nat.le_of_ble_eq_true rfl, Nat.le_of_ble_eq_true rfl⟩) (g_preV (r := (RX3, TX3, 4)) hG hS rx_ge (hP.me hk) rfl) rfl rfl hl.1 rfl (lv_room (Nat.le_of_ble_eq_true rfl)) dX3_tonesShifted_21 ⟨Nat.le_of_ble_eq_true rfl, Nat.le_of_ble_eq_true rfl⟩) hS (fun _ h => h) (fun _ _ _ _ _ h => h.elim) (fun v H1 locs hp hz9 hk9 hS => ?_)
    obtain ⟨rfl, rfl⟩ := hp
    have tb_21 := toS_b (X 38 k) (cn - 1 - j)
    refine W.eq (g2 := F0 m 24 ls [.int (z2 (toS (X 38 k) (cn - 1 - j))), .long ((l2 (shR (X 38 k) v2 cn j)) <<< ((z2 (4)).toInt64 &&& 63))]) rfl ?_
    refine lv_iload_n hx hb dX3_tonesShifted_24 rfl (lv_at hl 1 rfl) ?_
    refine b_iadd hx hb dX3_tonesShifted_25 ?_
    refine b_bipush hx hb dX3_tonesShifted_26 (by decide +kernel) ?_
    refine lv_iand hx hb dX3_tonesShifted_28 ?_
    refine b_top (v := ((toS (X 38 k) (cn - 1 - j)) + v2) % 16) (z2_and15 _) ?_
    refine lv_i2l (v := l2 (((toS (X 38 k) (cn - 1 - j)) + v2) % 16)) hx hb dX3_tonesShifted_29 (z2_l2 ⟨by omega, by omega⟩) ?_
    refine lv_lor hx hb dX3_tonesShifted_30 ?_
    refine b_topl (v := shR (X 38 k) v2 cn (j + 1)) (l2_dig ⟨by omega, by omega⟩ ⟨Int.emod_nonneg _ (by decide), Int.emod_lt_of_pos _ (by decide)⟩) ?_
    refine lv_lstore_n (lv' := [(2, .long (l2 (shR (X 38 k) v2 cn (j + 1)))), (0, .ref (ml k)), (1, .int (z2 (v2))), (4, .int (z2 ((cn : Int) - 1 - ((j : Nat) : Int))))]) hx hb dX3_tonesShifted_31 rfl hl (by decide) rfl (fun ls hl => ?_)
    refine b_iinc (lv' := [(4, .int (z2 (((cn : Int) - 1 - ((j : Nat) : Int)) + (-1)))), (2, .long (l2 (shR (X 38 k) v2 cn (j + 1)))), (0, .ref (ml k)), (1, .int (z2 (v2)))]) hx hb dX3_tonesShifted_32 hl (k := 3) rfl (by decide) rfl (fun ls hl => ?_)
    refine lv_goto (tgt := 10) hx hb dX3_tonesShifted_35 (by decide) ?_
    exact ih (j + 1) _ _ _ (by omega) ⟨by omega, hP, hHs, hS, lv_sub hl [2, 3, 1, 0] rfl⟩
set_option maxHeartbeats 4000000 in
set_option maxRecDepth 100000 in
theorem k_tonesTurned (l : Launch) (D : va_G) (ks : Nat → ClassId) (bx : Nat) (ml : Nat → Nat) (X : Nat → Nat → Int) (H : Heap) (hP : PX D ks bx ml X H) (hV : VX X) {k : Nat} (hk : (k : Int) < X 4 0) {cn : Nat} (hc : X 37 k = cn) : KM l yX3_tonesTurned wsX3_tonesTurned ({ frames := 1, cells := 0, slots := 0, locals := 21 } : Room) D ks bx [.ref (ml k)] H (RX bx) (fun v H1 => v = some (.long (l2 (tuR (X 38 k) cn))) ∧ H1 = H) (fun _ _ => False) := by
  refine KM.of (cc := cX3_tonesTurned) (maxL := 4) (ret := (some .long)) (by decide) rfl (Nat.le_of_ble_eq_true rfl) ?_
  intro p e s m below meth c hx hb hml hr hlocks hown hname hts hext hH0 hG ls hl
  subst hH0
  have hown : s.vm.findClass RX3 = some m.cls := hown
  have hS : va_S (AR (RX bx) s.heap.size) s.heap s.heap [] := va_S.rf
  have hl : lv_has ls 4 [(0, .ref (ml k))] := hl
  have inX3 : ∀ w ∈ wsX30, w ∈ wsX3_tonesTurned := by decide +kernel
  have bc : 1 ≤ X 37 k ∧ X 37 k ≤ 12 := hV.1 37 _ rfl
  refine lv_lconst (v := l2 0) hx hb dX3_tonesTurned_0 (by decide +kernel) ?_
  refine lv_lstore_n (lv' := [(1, .long (l2 0)), (0, .ref (ml k))]) hx hb dX3_tonesTurned_1 rfl hl (by decide) rfl (fun ls hl => ?_)
  refine b_iconst hx hb dX3_tonesTurned_2 ?_
  refine lv_istore_n (lv' := [(3, .int (z2 (0))), (1, .long (l2 0)), (0, .ref (ml k))]) hx hb dX3_tonesTurned_3 rfl hl (by decide) rfl (fun ls hl => ?_)
  refine lp_ms (σ := Nat) (fun j H locs ls => j ≤ cn ∧ PX D ks bx ml X H ∧ H = s.heap ∧ va_S (AR (RX bx) s.heap.size) s.heap H locs ∧ lv_has ls 4 [(0, .ref (ml k)), (1, .long (l2 (tuR (X 38 k) j))), (3, .int (z2 (((j : Nat) : Int))))]) (fun j => cn - j) (fun j H locs ls hI ih => ?_) 0 ⟨by omega, hP, rfl, hS, lv_sub hl [2, 1, 0] rfl⟩
  obtain ⟨hkN, hP, hHs, hS, hl⟩ := hI
  have sb := tuR_b (X 38 k) j
  have sp := p16 (k := j) (by omega)
  refine lv_iload_n hx hb dX3_tonesTurned_4 rfl (lv_at hl 2 rfl) ?_
  refine lv_aload_n hx hb dX3_tonesTurned_5 rfl (lv_at hl 0 rfl) ?_
  have b_6 : 1 ≤ X 37 k ∧ X 37 k ≤ 12 := hV.1 37 _ rfl
  refine g_get (C := RX3) (T := TX3) (N := 4) hx hb hts inX3 hown hG (hP.me hk) rfl 2 (by decide) (by decide +kernel) rfl (v := .int (z2 (X 37 k))) rfl dX3_tonesTurned_6 ?_
  refine b_icmp_ge (tgt := 29) hx hb dX3_tonesTurned_9 (by decide) ⟨⟨by omega, by omega⟩, ⟨by omega, by omega⟩⟩ (fun c_9 => ?_) (fun c_9 => ?_)
  · skip
    refine lv_lload_n hx hb dX3_tonesTurned_29 rfl (lv_at hl 1 rfl) ?_
    obtain rfl : j = cn := by omega
    exact g_lret hx hb hr hlocks hS ⟨Nat.le_of_ble_eq_true rfl, Nat.le_of_ble_eq_true rfl⟩ (⟨rfl, hHs⟩) dX3_tonesTurned_30
  · skip
    refine lv_lload_n hx hb dX3_tonesTurned_12 rfl (lv_at hl 1 rfl) ?_
    refine b_iconst hx hb dX3_tonesTurned_13 ?_
    refine lv_lshl hx hb dX3_tonesTurned_14 rfl ?_
    refine lv_aload_n hx hb dX3_tonesTurned_15 rfl (lv_at hl 0 rfl) ?_
    refine lv_iload_n hx hb dX3_tonesTurned_16 rfl (lv_at hl 2 rfl) ?_
    refine g_run (vx_runV (As := [.int (z2 (((j : Nat) : Int)))]) (rest := [.long ((l2 (tuR (X 38 k) j)) <<< ((z2 (4)).toInt64 &&& 63))]) ⟨hx, hb, hml, hown, hts⟩ (k_tone l D ks bx ml X _ hP hV hk (q := j) (((j : Nat) : Int)) (by omega)) (cwV 1 hts gX3_tonesTurned_X3_tone rfl rfl rfl (by decide +kernel) ⟨Nat.le_of_ble_eq_true rfl, Nat.le_of_ble_eq_true rfl⟩) (g_preV (r := (RX3, TX3, 4)) hG hS rx_ge (hP.me hk) rfl) rfl rfl hl.1 rfl (lv_room (Nat.le_of_ble_eq_true rfl)) dX3_tonesTurned_17 ⟨Nat.le_of_ble_eq_true rfl, Nat.le_of_ble_eq_true rfl⟩) hS (fun _ h => h) (fun _ _ _ _ _ h => h.elim) (fun v H1 locs hp hz9 hk9 hS => ?_)
    obtain ⟨rfl, rfl⟩ := hp
    have tb_17 := toS_b (X 38 k) j
    refine W.eq (g2 := F0 m 20 ls [.int (z2 (toS (X 38 k) j)), .long ((l2 (tuR (X 38 k) j)) <<< ((z2 (4)).toInt64 &&& 63))]) rfl ?_
    refine lv_i2l (v := l2 (toS (X 38 k) j)) hx hb dX3_tonesTurned_20 (z2_l2 ⟨by omega, by omega⟩) ?_
    refine lv_lor hx hb dX3_tonesTurned_21 ?_
    refine b_topl (v := tuR (X 38 k) (j + 1)) (l2_dig ⟨by omega, by omega⟩ (toS_b _ _)) ?_
    refine lv_lstore_n (lv' := [(1, .long (l2 (tuR (X 38 k) (j + 1)))), (0, .ref (ml k)), (3, .int (z2 (((j : Nat) : Int))))]) hx hb dX3_tonesTurned_22 rfl hl (by decide) rfl (fun ls hl => ?_)
    refine b_iinc (lv' := [(3, .int (z2 (((j : Nat) : Int) + 1))), (1, .long (l2 (tuR (X 38 k) (j + 1)))), (0, .ref (ml k))]) hx hb dX3_tonesTurned_23 hl (k := 2) rfl (by decide) rfl (fun ls hl => ?_)
    refine lv_goto (tgt := 4) hx hb dX3_tonesTurned_26 (by decide) ?_
    exact ih (j + 1) _ _ _ (by omega) ⟨by omega, hP, hHs, hS, lv_sub hl [2, 1, 0] rfl⟩
/-- isShiftOf of the melodies k, o -/
def isS (X : Nat → Nat → Int) (k o : Nat) : Int := if X 37 k = X 37 o ∧ X 38 k = shR (X 38 o) ((toS (X 38 k) 0 - toS (X 38 o) 0) % 16) (X 37 o).toNat (X 37 o).toNat then 1 else 0
set_option maxHeartbeats 4000000 in
set_option maxRecDepth 100000 in
theorem k_isShiftOf (l : Launch) (D : va_G) (ks : Nat → ClassId) (bx : Nat) (ml : Nat → Nat) (X : Nat → Nat → Int) (H : Heap) (hP : PX D ks bx ml X H) (hV : VX X) {k o : Nat} (hk : (k : Int) < X 4 0) (ho : (o : Int) < X 4 0) : KM l yX3_isShiftOf wsX3_isShiftOf ({ frames := 2, cells := 0, slots := 0, locals := 45 } : Room) D ks bx [.ref (ml k), .ref (ml o)] H (RX bx) (fun v H1 => v = some (.int (z2 (isS X k o))) ∧ H1 = H) (fun _ _ => False) := by
  refine KM.of (cc := cX3_isShiftOf) (maxL := 3) (ret := (some .boolean)) (by decide) rfl (Nat.le_of_ble_eq_true rfl) ?_
  intro p e s m below meth c hx hb hml hr hlocks hown hname hts hext hH0 hG ls hl
  subst hH0
  have hown : s.vm.findClass RX3 = some m.cls := hown
  have hS : va_S (AR (RX bx) s.heap.size) s.heap s.heap [] := va_S.rf
  have hl : lv_has ls 3 [(0, .ref (ml k)), (1, .ref (ml o))] := hl
  have inX3 : ∀ w ∈ wsX30, w ∈ wsX3_isShiftOf := by decide +kernel
  have t48 : X 38 k < 281474976710656 := Int.lt_of_lt_of_le (hV.2.2 k).2 (p16 (by have b : 1 ≤ X 37 k ∧ X 37 k ≤ 12 := hV.1 37 _ rfl; omega))
  have t0 : 0 ≤ X 38 k := (hV.2.2 k).1
  have bk : 1 ≤ X 37 k ∧ X 37 k ≤ 12 := hV.1 37 _ rfl
  have bo : 1 ≤ X 37 o ∧ X 37 o ≤ 12 := hV.1 37 _ rfl
  obtain ⟨co, hco⟩ : ∃ co : Nat, X 37 o = co := ⟨(X 37 o).toNat, by omega⟩
  have hcoN : co = (X 37 o).toNat := by omega
  have so := shR_b (X 38 o) ((toS (X 38 k) 0 - toS (X 38 o) 0) % 16) co co
  have sp := p16 (k := co) (by omega)
  refine lv_aload_n hx hb dX3_isShiftOf_0 rfl (lv_at hl 0 rfl) ?_
  refine b_iconst hx hb dX3_isShiftOf_1 ?_
  refine g_run (vx_runV (As := [.int (z2 (0))]) (rest := []) ⟨hx, hb, hml, hown, hts⟩ (k_tone l D ks bx ml X _ hP hV hk (q := 0) (0) (by omega)) (cwV 1 hts gX3_isShiftOf_X3_tone rfl rfl rfl (by decide +kernel) ⟨Nat.le_of_ble_eq_true rfl, Nat.le_of_ble_eq_true rfl⟩) (g_preV (r := (RX3, TX3, 4)) hG hS rx_ge (hP.me hk) rfl) rfl rfl hl.1 rfl (lv_room (Nat.le_of_ble_eq_true rfl)) dX3_isShiftOf_2 ⟨Nat.le_of_ble_eq_true rfl, Nat.le_of_ble_eq_true rfl⟩) hS (fun _ h => h) (fun _ _ _ _ _ h => h.elim) (fun v H1 locs hp hz9 hk9 hS => ?_)
  obtain ⟨rfl, rfl⟩ := hp
  have tb_2 := toS_b (X 38 k) 0
  refine W.eq (g2 := F0 m 5 ls [.int (z2 (toS (X 38 k) 0))]) rfl ?_
  refine lv_aload_n hx hb dX3_isShiftOf_5 rfl (lv_at hl 1 rfl) ?_
  refine b_iconst hx hb dX3_isShiftOf_6 ?_
  refine g_run (vx_runV (As := [.int (z2 (0))]) (rest := [.int (z2 (toS (X 38 k) 0))]) ⟨hx, hb, hml, hown, hts⟩ (k_tone l D ks bx ml X _ hP hV ho (q := 0) (0) (by omega)) (cwV 1 hts gX3_isShiftOf_X3_tone rfl rfl rfl (by decide +kernel) ⟨Nat.le_of_ble_eq_true rfl, Nat.le_of_ble_eq_true rfl⟩) (g_preV (r := (RX3, TX3, 4)) hG hS rx_ge (hP.me ho) rfl) rfl rfl hl.1 rfl (lv_room (Nat.le_of_ble_eq_true rfl)) dX3_isShiftOf_7 ⟨Nat.le_of_ble_eq_true rfl, Nat.le_of_ble_eq_true rfl⟩) hS (fun _ h => h) (fun _ _ _ _ _ h => h.elim) (fun v H1 locs hp hz9 hk9 hS => ?_)
  obtain ⟨rfl, rfl⟩ := hp
  have tb_7 := toS_b (X 38 o) 0
  refine W.eq (g2 := F0 m 10 ls [.int (z2 (toS (X 38 o) 0)), .int (z2 (toS (X 38 k) 0))]) rfl ?_
  refine b_isub hx hb dX3_isShiftOf_10 ?_
  refine b_bipush hx hb dX3_isShiftOf_11 (by decide +kernel) ?_
  refine lv_iand hx hb dX3_isShiftOf_13 ?_
  refine b_top (v := ((toS (X 38 k) 0) - (toS (X 38 o) 0)) % 16) (z2_and15 _) ?_
  refine lv_istore_n (lv' := [(2, .int (z2 (((toS (X 38 k) 0) - (toS (X 38 o) 0)) % 16))), (0, .ref (ml k)), (1, .ref (ml o))]) hx hb dX3_isShiftOf_14 rfl hl (by decide) rfl (fun ls hl => ?_)
  refine lv_aload_n hx hb dX3_isShiftOf_15 rfl (lv_at hl 1 rfl) ?_
  have b_16 : 1 ≤ X 37 k ∧ X 37 k ≤ 12 := hV.1 37 _ rfl
  refine g_get (C := RX3) (T := TX3) (N := 4) hx hb hts inX3 hown hG (hP.me hk) rfl 2 (by decide) (by decide +kernel) rfl (v := .int (z2 (X 37 k))) rfl dX3_isShiftOf_16 ?_
  refine lv_aload_n hx hb dX3_isShiftOf_19 rfl (lv_at hl 2 rfl) ?_
  have b_20 : 1 ≤ X 37 o ∧ X 37 o ≤ 12 := hV.1 37 _ rfl
  refine g_get (C := RX3) (T := TX3) (N := 4) hx hb hts inX3 hown hG (hP.me ho) rfl 2 (by decide) (by decide +kernel) rfl (v := .int (z2 (X 37 o))) rfl dX3_isShiftOf_20 ?_
  refine b_icmp_ne (tgt := 43) hx hb dX3_isShiftOf_23 (by decide) ⟨⟨by omega, by omega⟩, ⟨by omega, by omega⟩⟩ (fun c_23 => ?_) (fun c_23 => ?_)
  · skip
    refine b_iconst hx hb dX3_isShiftOf_43 ?_
    exact g_zret hx hb hr hlocks hS (by decide +kernel) ⟨Nat.le_of_ble_eq_true rfl, Nat.le_of_ble_eq_true rfl⟩ (⟨congrArg (fun z => some (Value.int (z2 z))) (by unfold isS; rw [if_neg (fun q => by rw [← hcoN] at q; omega)]), rfl⟩) dX3_isShiftOf_44
  · skip
    refine lv_aload_n hx hb dX3_isShiftOf_26 rfl (lv_at hl 1 rfl) ?_
    refine g_get (C := RX3) (T := TX3) (N := 4) hx hb hts inX3 hown hG (hP.me hk) rfl 3 (by decide) (by decide +kernel) rfl (v := .long (l2 (X 38 k))) rfl dX3_isShiftOf_27 ?_
    refine lv_aload_n hx hb dX3_isShiftOf_30 rfl (lv_at hl 2 rfl) ?_
    refine lv_iload_n hx hb dX3_isShiftOf_31 rfl (lv_at hl 0 rfl) ?_
    refine g_run (vx_runV (As := [.int (z2 (((toS (X 38 k) 0) - (toS (X 38 o) 0)) % 16))]) (rest := [.long (l2 (X 38 k))]) ⟨hx, hb, hml, hown, hts⟩ (k_tonesShifted l D ks bx ml X _ hP hV ho (((toS (X 38 k) 0) - (toS (X 38 o) 0)) % 16) ⟨by omega, by omega⟩ hco) (cwV 1 hts gX3_isShiftOf_X3_tonesShifted rfl rfl rfl (by decide +kernel) ⟨Nat.le_of_ble_eq_true rfl, Nat.le_of_ble_eq_true rfl⟩) (g_preV (r := (RX3, TX3, 4)) hG hS rx_ge (hP.me ho) rfl) rfl rfl hl.1 rfl (lv_room (Nat.le_of_ble_eq_true rfl)) dX3_isShiftOf_32 ⟨Nat.le_of_ble_eq_true rfl, Nat.le_of_ble_eq_true rfl⟩) hS (fun _ h => h) (fun _ _ _ _ _ h => h.elim) (fun v H1 locs hp hz9 hk9 hS => ?_)
    obtain ⟨rfl, rfl⟩ := hp
    refine W.eq (g2 := F0 m 35 ls [.long (l2 (shR (X 38 o) (((toS (X 38 k) 0) - (toS (X 38 o) 0)) % 16) co co)), .long (l2 (X 38 k))]) rfl ?_
    refine W.lcmp hx hb dX3_isShiftOf_35 ?_
    obtain ⟨cv35, ecv35, bcv35⟩ : ∃ z : Int, z = (if (shR (X 38 o) (((toS (X 38 k) 0) - (toS (X 38 o) 0)) % 16) co co) < (X 38 k) then 1 else if (X 38 k) = (shR (X 38 o) (((toS (X 38 k) 0) - (toS (X 38 o) 0)) % 16) co co) then 0 else -1) ∧ -1 ≤ z ∧ z ≤ 1 := ⟨_, rfl, by (repeat' split) <;> omega, by (repeat' split) <;> omega⟩
    refine b_top (v := cv35) ((l2_cmp ⟨by omega, by omega⟩ ⟨by omega, by omega⟩).trans (by rw [ecv35])) ?_
    refine b_if_ne (tgt := 43) hx hb dX3_isShiftOf_36 (by decide) ⟨by omega, by omega⟩ (fun c_36 => ?_) (fun c_36 => ?_)
    · skip
      refine b_iconst hx hb dX3_isShiftOf_43 ?_
      exact g_zret hx hb hr hlocks hS (by decide +kernel) ⟨Nat.le_of_ble_eq_true rfl, Nat.le_of_ble_eq_true rfl⟩ (⟨congrArg (fun z => some (Value.int (z2 z))) (by unfold isS; rw [if_neg (fun q => by rw [← hcoN] at q; omega)]), rfl⟩) dX3_isShiftOf_44
    · skip
      refine b_iconst hx hb dX3_isShiftOf_39 ?_
      refine lv_goto (tgt := 44) hx hb dX3_isShiftOf_40 (by decide) ?_
      exact g_zret hx hb hr hlocks hS (by decide +kernel) ⟨Nat.le_of_ble_eq_true rfl, Nat.le_of_ble_eq_true rfl⟩ (⟨congrArg (fun z => some (Value.int (z2 z))) (by unfold isS; rw [if_pos ⟨by omega, by rw [← hcoN]; omega⟩]), rfl⟩) dX3_isShiftOf_44
end
