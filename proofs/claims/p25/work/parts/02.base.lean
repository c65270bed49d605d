/-! MY BASE. An Int32 by its integer; words carried as facts of the state; one form of contract; rows over it. -/
def z2 (z : Int) : Int32 := Int32.ofInt z
def l2 (z : Int) : Int64 := Int64.ofInt z
abbrev B31 (z : Int) : Prop := -2147483648 ≤ z ∧ z < 2147483648
theorem z2_toInt {z : Int} (h : B31 z) : (z2 z).toInt = z := Int32.toInt_ofInt_of_le (by have := h.1; omega) (by have := h.2; omega)
theorem z2_of (x : Int32) : z2 x.toInt = x := Int32.ofInt_toInt x
theorem z2_rng (x : Int32) : B31 x.toInt := ⟨by have := Int32.le_toInt x; omega, by have := Int32.toInt_lt x; omega⟩
theorem z2_ex (x : Int32) : ∃ a : Int, B31 a ∧ x = z2 a := ⟨x.toInt, z2_rng x, (z2_of x).symm⟩
theorem z2_add (a b : Int) : z2 a + z2 b = z2 (a + b) := (Int32.ofInt_add a b).symm
theorem z2_sub (a b : Int) : z2 a - z2 b = z2 (a - b) := (Int32.ofInt_sub a b).symm
theorem z2_mul (a b : Int) : z2 a * z2 b = z2 (a * b) := (Int32.ofInt_mul a b).symm
theorem z2_le {a b : Int} (ha : B31 a) (hb : B31 b) : z2 a ≤ z2 b ↔ a ≤ b := by rw [Int32.le_iff_toInt_le, z2_toInt ha, z2_toInt hb]
theorem z2_lt {a b : Int} (ha : B31 a) (hb : B31 b) : z2 a < z2 b ↔ a < b := by rw [Int32.lt_iff_toInt_lt, z2_toInt ha, z2_toInt hb]
theorem z2_eq {a b : Int} (ha : B31 a) (hb : B31 b) : z2 a = z2 b ↔ a = b := by rw [← Int32.toInt_inj, z2_toInt ha, z2_toInt hb]
theorem z2_0 : (0 : Int32) = z2 0 := by decide +kernel
theorem B31_0 : B31 0 := ⟨by decide, by decide⟩
theorem z2_div {a b : Int} (ha : 0 ≤ a) (ha2 : a < 2147483648) (hb : 0 < b) (hb2 : b < 2147483648) : z2 a / z2 b = z2 (a / b) := by
  have h := Int32.ofInt_tdiv (a := a) (b := b) (by show (-2147483648 : Int) ≤ a; omega) (by show a ≤ (2147483647 : Int); omega) (by show (-2147483648 : Int) ≤ b; omega) (by show b ≤ (2147483647 : Int); omega)
  rw [Int.tdiv_eq_ediv_of_nonneg ha] at h
  exact h.symm
theorem z2_rem {a b : Int} (ha : 0 ≤ a) (ha2 : a < 2147483648) (hb : 0 < b) (hb2 : b < 2147483648) : z2 a - z2 a / z2 b * z2 b = z2 (a % b) := by
  rw [z2_div ha ha2 hb hb2, z2_mul, z2_sub, Int.emod_def, Int.mul_comm]
theorem z2_cl {a : Int} (h0 : 0 ≤ a) (h1 : a < 2147483648) : (z2 a).toNatClampNeg = a.toNat := Int32.toNatClampNeg_ofInt_of_le (by omega) (by omega)
theorem z2_in {a : Int} {n : Nat} (h0 : 0 ≤ a) (h1 : a < n) (h2 : a < 2147483648) : vp_in (z2 a) n := by
  intro h
  rw [z2_cl h0 h2, z2_0, z2_lt ⟨by omega, by omega⟩ B31_0] at h
  omega
theorem zj_in {i : Int} {j n : Nat} (h : i = (j : Int) ∧ j < n ∧ n < 2147483648) : vp_in (z2 i) n := z2_in (by omega) (by omega) (by omega)
theorem zj_cl {i : Int} {j n : Nat} (h : i = (j : Int) ∧ j < n ∧ n < 2147483648) : (z2 i).toNatClampNeg = j := by rw [z2_cl (by omega) (by omega)]; omega
theorem z2_len (n : Nat) : Int32.ofNat n = z2 n := Int32.ofInt_eq_ofNat.symm
def up (X : Nat → Nat → Int) (f i : Nat) (v : Int) : Nat → Nat → Int := fun g j => if g = f ∧ j = i then v else X g j
theorem up_s (X : Nat → Nat → Int) (f i : Nat) (v : Int) : up X f i v f i = v := if_pos ⟨rfl, rfl⟩
theorem up_f (X : Nat → Nat → Int) {f g : Nat} (i j : Nat) (v : Int) (h : g ≠ f) : up X f i v g j = X g j := if_neg (fun q => h q.1)
theorem up_i (X : Nat → Nat → Int) (f g : Nat) {i j : Nat} (v : Int) (h : j ≠ i) : up X f i v g j = X g j := if_neg (fun q => h q.2)
/-! ===== words carried as facts of the state ===== -/
def gwl : List Cond := [.fieldLinkNest RX4 101 RX3 "owner" "I" RX4, .fieldLinkNest RX4 106 RX2 "rights" "[I" RX4, .fieldLinkNest RX4 113 RX2 "quietFrom" "I" RX4, .fieldLinkNest RX4 116 RX2 "quietTo" "I" RX4, .fieldLinkNest RX4 129 RX0 "melody" "LBellStreet$Melody;" RX4, .fieldLinkNest RX4 135 RX0 "load" "I" RX4, .fieldLinkNest RX4 138 RX0 "isRinging" "Z" RX4, .fieldLinkNest RX4 142 RX3 "number" "I" RX4, .fieldLinkNest RX4 147 RX2 "sound" "Z" RX4, .fieldLinkNest RX4 150 RX2 "hushedPresses" "I" RX4, .fieldLinkNest RX4 177 RX2 "street" "I" RX4, .fieldLinkNest RX4 183 RX2 "faultsOfTheDay" "I" RX4, .fieldLinkNest RX4 188 RX1 "goal" "LBellStreet$House;" RX4, .fieldLinkNest RX4 194 RX1 "doneAt" "I" RX4, .fieldLinkNest RX4 211 RX2 "score" "I" RX4, .fieldLinkNest RX4 214 RX2 "rungSeconds" "I" RX4, .fieldLinkNest RX4 217 RX2 "rungQuietSeconds" "I" RX4, .fieldLinkNest RX4 226 RX2 "bells" "[LBellStreet$Bell;" RX4, .fieldLinkNest RX4 69 RX3 "count" "I" RX4, .fieldLinkNest RX1 17 RX2 "sound" "Z" RX4, .fieldLinkNest RX2 73 RX3 "owner" "I" RX4, .fieldLinkNest RX2 78 RX3 "number" "I" RX4, .fieldLinkNest RX2 79 RX0 "isRinging" "Z" RX4, .fieldLinkNest RX2 82 RX0 "load" "I" RX4, .fieldLinkNest RX2 85 RX0 "melody" "LBellStreet$Melody;" RX4, .fieldLinkNest RX2 97 RX0 "stopsAt" "I" RX4, .methodLinkNest RX2 56 yX0_init RX4, .methodLinkNest RX4 44 yX1_init RX4, .castable "java/lang/IndexOutOfBoundsException" "java/lang/IndexOutOfBoundsException", .castable "java/lang/IllegalArgumentException" "java/lang/IllegalArgumentException", .castable "java/lang/IllegalStateException" "java/lang/IllegalStateException", .declares ⟨"java/lang/RuntimeException", "<init>", "(Ljava/lang/String;)V"⟩, .declares ⟨"java/lang/Exception", "<init>", "(Ljava/lang/String;)V"⟩, .declares ⟨"java/lang/Throwable", "<init>", "(Ljava/lang/String;)V"⟩]
def gao : List String := [RX0, RX1, RX2, RX3]
def gnc : List (String × String) := []
def gst : List (Nat × String) := [(222, "no such house"), (50, "a melody has 1 to 12 tones"), (55, "there are bits that are of no tone"), (59, "there are 12 melodies"), (230, "no such melody"), (74, "no such tone"), (81, "a shift is 0 to 15"), (99, "1 to 1000 rings are given"), (104, "the house is the owner"), (109, "a house has at most 1000 rings left"), (111, "a second of the day is 0 to 999"), (224, "no such bell"), (127, "a load is 1 to 9"), (145, "the bell has no melody"), (173, "the house is broken"), (175, "there were 100 faults"), (186, "the house is sound"), (192, "the crew is under way"), (197, "1 to 2000 seconds pass"), (200, "the time would be above 1000000"), (220, "no such fault")]
def gwk (w : Cond) : Prop := (∃ a i b n d h, w = .fieldLinkNest a i b n d h) ∨ (∃ a i x h, w = .methodLinkNest a i x h) ∨ (∃ a b, w = .castable a b) ∨ ∃ x, w = .declares x
theorem gwl_k : ∀ w ∈ gwl, gwk w := by
  intro w hw
  simp only [gwl, List.mem_cons, List.not_mem_nil, or_false] at hw
  rcases hw with rfl | rfl | rfl | rfl | rfl | rfl | rfl | rfl | rfl | rfl | rfl | rfl | rfl | rfl | rfl | rfl | rfl | rfl | rfl | rfl | rfl | rfl | rfl | rfl | rfl | rfl | rfl | rfl | rfl | rfl | rfl | rfl | rfl | rfl
  all_goals first | exact Or.inl ⟨_, _, _, _, _, _, rfl⟩ | exact Or.inr (Or.inl ⟨_, _, _, _, rfl⟩) | exact Or.inr (Or.inr (Or.inl ⟨_, _, rfl⟩)) | exact Or.inr (Or.inr (Or.inr ⟨_, rfl⟩))
theorem gwk.warm {w : Cond} (h : gwk w) {s U : State} (hW : s.WarmedH U.vm) (hz : va_Nw w s) : va_Nw w U := by
  rcases h with ⟨a, i, b, n, d, h, rfl⟩ | ⟨a, i, x, h, rfl⟩ | ⟨a, b, rfl⟩ | ⟨x, rfl⟩
  · exact va_Nw.warmF hW hz
  · exact va_Nw.warmM hW hz
  · exact va_Nw.warmC hW hz
  · exact va_Nw.warmD hW hz
theorem gwk.same {w : Cond} (h : gwk w) {s U : State} (hv : s.vm = U.vm) (hz : va_Nw w s) : va_Nw w U := by
  rcases h with ⟨a, i, b, n, d, h, rfl⟩ | ⟨a, i, x, h, rfl⟩ | ⟨a, b, rfl⟩ | ⟨x, rfl⟩ <;> exact va_Nw.same rfl hv hz
def tysG (ks : Nat → ClassId) : List (ClassId × FieldType) := [(ks 0, .int), (ks 0, .int), (ks 2, .object RX0), (ks 3, .object RX1), (ks 4, .object RX2), (ks 5, .object RX3)]
/-- what is known of the machine's tables and of the cells that nobody here writes -/
def GE (D : va_G) (ks : Nat → ClassId) (bx : Nat) (U : State) : Prop :=
  va_K D vwCl (tysG ks) U ∧ (∀ w ∈ gwl, va_Nw w U) ∧ (∀ C ∈ gao, va_AO C U) ∧ (∀ q ∈ gnc, va_Nc q.1 q.2 U) ∧ (∀ q ∈ gst, ∃ sa, vk_R RX4 q.1 q.2 sa U) ∧ vx_Zq Bundle.tN "UNASSIGNED_STACK" Bundle.steD (fun q => bx ≤ q) U U.heap ∧ vx_Zq Bundle.tN "SUPPRESSED_SENTINEL" Bundle.listD (fun q => bx ≤ q) U U.heap
theorem GE.calling {D : va_G} {ks : Nat → ClassId} {bx : Nat} {U : State} (h : GE D ks bx U) (g : JFrame) (mk : MethodId) (a : Array Value) : GE D ks bx (U.calling g mk a) := by
  obtain ⟨h1, h2, h3, h4, h5, h6, h7⟩ := h
  have e : U.vm = (U.calling g mk a).vm := rfl
  have hal : U.vm.Alike (U.calling g mk a).vm := Vm.Alike.refl U.vm
  exact ⟨va_K.moved (u := U) hal h1, fun w hw => (gwl_k w hw).same e (h2 w hw), fun C hC => va_AO.moved (u := U) hal (h3 C hC), fun q hq => va_Nc.moved (u := U) hal (h4 q hq), fun q hq => (h5 q hq).imp fun sa hs => vk_R.same (u := U) e.symm hs, vx_Zq.moved (u := U) hal h6, vx_Zq.moved (u := U) hal h7⟩
/-- a method may write: a region of its own, and what is new -/
def AR (Rg : Nat → Prop) (sz : Nat) : Nat → Prop := fun q => Rg q ∨ sz ≤ q
theorem GE.go {D : va_G} {ks : Nat → ClassId} {bx : Nat} {s U : State} {H : Heap} {locs : List Loc} {Rg : Nat → Prop} (h : GE D ks bx s) (hS : va_S (AR Rg s.heap.size) s.heap H locs) (hR : ∀ q, Rg q → bx ≤ q) (hU : U.heap = H) (hW : s.WarmedH U.vm) : GE D ks bx U := by
  obtain ⟨h1, h2, h3, h4, h5, h6, h7⟩ := h
  have hk : ∀ a : Nat, a < s.heap.size → ¬ bx ≤ a → U.heap[a]? = s.heap[a]? := fun a ha hn => by
    rw [hU]
    exact hS.2.1 a ha (fun q => q.elim (fun r => hn (hR a r)) (fun r => by omega))
  exact ⟨va_K.moved hW.alike h1, fun w hw => (gwl_k w hw).warm hW (h2 w hw), fun C hC => va_AO.moved hW.alike (h3 C hC), fun q hq => va_Nc.moved hW.alike (h4 q hq), fun q hq => (h5 q hq).imp fun sa hs => vk_R.warm hW hs, vx_Zq.moved hW.alike (h6.kept hk), vx_Zq.moved hW.alike (h7.kept hk)⟩
/-! ===== one form of contract ===== -/
def Pre (D : va_G) (ks : Nat → ClassId) (bx : Nat) (H0 : Heap) (U : State) : Prop := U.heap = H0 ∧ GE D ks bx U
theorem Pre.blind {D : va_G} {ks : Nat → ClassId} {bx : Nat} {H0 : Heap} {as : List Value} : FrameBlind (va_Pc as (Pre D ks bx H0)) := fun a _ g mk h => ⟨h.1, h.2.1, h.2.2.calling g mk a⟩
def gQ (post : Option Value → Heap → Prop) (A : Nat → Prop) : Array Value → State → Outcome → State → Prop := fun _ st oc t => (∃ v, oc = .returned v ∧ post v t.heap) ∧ va_F A st t
def gX (xp : String → Heap → Prop) (A : Nat → Prop) : String → State → State → Prop := fun E st t => xp E t.heap ∧ va_F A st t
/-- from the heap H0, with the arguments as: it returns v with 'post v H1', or throws an E with 'xp E H1'; only Rg and new cells are written -/
def KM (l : Launch) (y : MethodName) (ws : List Cond) (rm : Room) (D : va_G) (ks : Nat → ClassId) (bx : Nat) (as : List Value) (H0 : Heap) (Rg : Nat → Prop) (post : Option Value → Heap → Prop) (xp : String → Heap → Prop) : Prop :=
  vx_Met l y ws rm (va_Pc as (Pre D ks bx H0)) (gQ post (AR Rg H0.size)) (gX xp (AR Rg H0.size)) rm.cells rm.slots (AR Rg H0.size)
theorem KM.of {l : Launch} {y : MethodName} {ws ws' : List Cond} {rm : Room} {D : va_G} {ks : Nat → ClassId} {bx : Nat} {as : List Value} {H0 : Heap} {Rg : Nat → Prop} {post : Option Value → Heap → Prop} {xp : String → Heap → Prop} {cc : ByteArray} {maxL : Nat} {ret : Option FieldType}
    (hy : plainName y.cls = true) (hw : ws = Cond.code y cc maxL ret :: ws') (hal : (lg_sl as).length ≤ maxL)
    (body : ∀ (p : Program) (e : Env) (s : State) (m : MethodId) (below : List Frame) (meth : Method) (c : Code), p.tables.exec = Jvm.exec → c.code = cc → c.maxLocals = maxL → meth.sig.returnType = ret → meth.locks = false → s.vm.findClass y.cls = some m.cls → meth.name = y.name → (∀ w ∈ ws, w.before as.toArray s = true) → (∀ x ∈ c.exceptionTable.toList, False) → s.heap = H0 → GE D ks bx s → ∀ ls : Array Slot, lv_has ls maxL (lv_args 0 as) →
      W p l e rm s m as.toArray below meth c H0 [] 0 0 (vx_MQ below (gQ post (AR Rg H0.size)) (gX xp (AR Rg H0.size)) as.toArray s rm.cells rm.slots (AR Rg H0.size)) (F0 m 0 ls [])) :
    KM l y ws rm D ks bx as H0 Rg post xp := by
  refine vx_ofW (cc := cc) (maxL := maxL) (ret := ret) hy hw ?_
  intro p e s m args below meth c s₁ B hml ht hP
  obtain ⟨rfl, hH, hG⟩ := hP
  have hl := lv_entry as (n := maxL) hal
  rw [lg_entry_eq, hH]
  exact body p e s m below meth c B.exec B.bytes hml B.returns B.notSynchronized (findClass_of_methodNamed B.named) (name_of_methodNamed B.named B.method).1 (atoms_spec (ws := ws) B.pre) ht hH hG _ hl
/-- .. of a method with an exception table -/
theorem KM.ofH {l : Launch} {y : MethodName} {ws ws' : List Cond} {rm : Room} {D : va_G} {ks : Nat → ClassId} {bx : Nat} {as : List Value} {H0 : Heap} {Rg : Nat → Prop} {post : Option Value → Heap → Prop} {xp : String → Heap → Prop} {cc : ByteArray} {maxL : Nat} {ret : Option FieldType} {hh : List (Nat × Nat × Nat × Nat)}
    (hy : plainName y.cls = true) (hw : ws = Cond.codeWith y cc maxL ret hh :: ws') (hal : (lg_sl as).length ≤ maxL)
    (body : ∀ (p : Program) (e : Env) (s : State) (m : MethodId) (below : List Frame) (meth : Method) (c : Code), p.tables.exec = Jvm.exec → c.code = cc → c.maxLocals = maxL → meth.sig.returnType = ret → meth.locks = false → s.vm.findClass y.cls = some m.cls → (∀ w ∈ ws, w.before as.toArray s = true) → c.exceptionTable.toList = tableOf hh → s.heap = H0 → GE D ks bx s → ∀ ls : Array Slot, lv_has ls maxL (lv_args 0 as) →
      W p l e rm s m as.toArray below meth c H0 [] 0 0 (vx_MQ below (gQ post (AR Rg H0.size)) (gX xp (AR Rg H0.size)) as.toArray s rm.cells rm.slots (AR Rg H0.size)) (F0 m 0 ls [])) :
    KM l y ws rm D ks bx as H0 Rg post xp := by
  refine vx_ofWH (cc := cc) (maxL := maxL) (ret := ret) (hh := hh) hy hw ?_
  intro p e s m args below meth c s₁ B hml hP
  obtain ⟨rfl, hH, hG⟩ := hP
  have hl := lv_entry as (n := maxL) hal
  rw [lg_entry_eq, hH]
  have hpre := atoms_spec (ws := ws) B.pre
  exact body p e s m below meth c B.exec B.bytes hml B.returns B.notSynchronized (findClass_of_methodNamed B.named) hpre (vx_table (x := y) B (hpre _ (by rw [hw]; exact List.mem_cons_self))) hH hG _ hl
section GR
variable {p : Program} {l : Launch} {e : Env} {R : Room} {s : State} {m : MethodId} {args : Array Value} {below : List Frame} {meth : Method} {c : Code} {H : Heap} {locs : List Loc} {cells slots : Nat} {Q : State → Prop}
variable {cc : ByteArray} {pc : Nat} {ls : Array Slot} {rest : List Value} {D : va_G} {ks : Nat → ClassId} {bx : Nat} {Rg : Nat → Prop}
/-! ===== branches, over integers ===== -/
theorem b_icmp_eq (hx : p.tables.exec = Jvm.exec) (hb : c.code = cc) {a b : Int} {off : Int} {tgt : Nat} (hdg : decode cc pc = .ok (.if_icmp .eq off, 3)) (ht : (pc : Int) + off = (tgt : Int)) (hr : B31 a ∧ B31 b)
    (kt : a = b → W p l e R s m args below meth c H locs cells slots Q (F0 m tgt ls rest)) (kf : a ≠ b → W p l e R s m args below meth c H locs cells slots Q (F0 m (pc + 3) ls rest)) : W p l e R s m args below meth c H locs cells slots Q (F0 m pc ls (.int (z2 b) :: .int (z2 a) :: rest)) :=
  lv_icmp_eq hx hb hdg ht (fun h => kt ((z2_eq hr.1 hr.2).mp h)) (fun h => kf (fun q => h ((z2_eq hr.1 hr.2).mpr q)))
theorem b_icmp_ne (hx : p.tables.exec = Jvm.exec) (hb : c.code = cc) {a b : Int} {off : Int} {tgt : Nat} (hdg : decode cc pc = .ok (.if_icmp .ne off, 3)) (ht : (pc : Int) + off = (tgt : Int)) (hr : B31 a ∧ B31 b)
    (kt : a ≠ b → W p l e R s m args below meth c H locs cells slots Q (F0 m tgt ls rest)) (kf : a = b → W p l e R s m args below meth c H locs cells slots Q (F0 m (pc + 3) ls rest)) : W p l e R s m args below meth c H locs cells slots Q (F0 m pc ls (.int (z2 b) :: .int (z2 a) :: rest)) :=
  lv_icmp_ne hx hb hdg ht (fun h => kt (fun q => h ((z2_eq hr.1 hr.2).mpr q))) (fun h => kf ((z2_eq hr.1 hr.2).mp h))
theorem b_icmp_lt (hx : p.tables.exec = Jvm.exec) (hb : c.code = cc) {a b : Int} {off : Int} {tgt : Nat} (hdg : decode cc pc = .ok (.if_icmp .lt off, 3)) (ht : (pc : Int) + off = (tgt : Int)) (hr : B31 a ∧ B31 b)
    (kt : a < b → W p l e R s m args below meth c H locs cells slots Q (F0 m tgt ls rest)) (kf : b ≤ a → W p l e R s m args below meth c H locs cells slots Q (F0 m (pc + 3) ls rest)) : W p l e R s m args below meth c H locs cells slots Q (F0 m pc ls (.int (z2 b) :: .int (z2 a) :: rest)) :=
  lv_icmp_lt hx hb hdg ht (fun h => kt ((z2_lt hr.1 hr.2).mp h)) (fun h => kf (Int.not_lt.mp (fun q => h ((z2_lt hr.1 hr.2).mpr q))))
theorem b_icmp_ge (hx : p.tables.exec = Jvm.exec) (hb : c.code = cc) {a b : Int} {off : Int} {tgt : Nat} (hdg : decode cc pc = .ok (.if_icmp .ge off, 3)) (ht : (pc : Int) + off = (tgt : Int)) (hr : B31 a ∧ B31 b)
    (kt : b ≤ a → W p l e R s m args below meth c H locs cells slots Q (F0 m tgt ls rest)) (kf : a < b → W p l e R s m args below meth c H locs cells slots Q (F0 m (pc + 3) ls rest)) : W p l e R s m args below meth c H locs cells slots Q (F0 m pc ls (.int (z2 b) :: .int (z2 a) :: rest)) :=
  lv_icmp_ge hx hb hdg ht (fun h => kt ((z2_le hr.2 hr.1).mp h)) (fun h => kf (Int.not_le.mp (fun q => h ((z2_le hr.2 hr.1).mpr q))))
theorem b_icmp_gt (hx : p.tables.exec = Jvm.exec) (hb : c.code = cc) {a b : Int} {off : Int} {tgt : Nat} (hdg : decode cc pc = .ok (.if_icmp .gt off, 3)) (ht : (pc : Int) + off = (tgt : Int)) (hr : B31 a ∧ B31 b)
    (kt : b < a → W p l e R s m args below meth c H locs cells slots Q (F0 m tgt ls rest)) (kf : a ≤ b → W p l e R s m args below meth c H locs cells slots Q (F0 m (pc + 3) ls rest)) : W p l e R s m args below meth c H locs cells slots Q (F0 m pc ls (.int (z2 b) :: .int (z2 a) :: rest)) :=
  lv_icmp_gt hx hb hdg ht (fun h => kt ((z2_lt hr.2 hr.1).mp h)) (fun h => kf (Int.not_lt.mp (fun q => h ((z2_lt hr.2 hr.1).mpr q))))
theorem b_icmp_le (hx : p.tables.exec = Jvm.exec) (hb : c.code = cc) {a b : Int} {off : Int} {tgt : Nat} (hdg : decode cc pc = .ok (.if_icmp .le off, 3)) (ht : (pc : Int) + off = (tgt : Int)) (hr : B31 a ∧ B31 b)
    (kt : a ≤ b → W p l e R s m args below meth c H locs cells slots Q (F0 m tgt ls rest)) (kf : b < a → W p l e R s m args below meth c H locs cells slots Q (F0 m (pc + 3) ls rest)) : W p l e R s m args below meth c H locs cells slots Q (F0 m pc ls (.int (z2 b) :: .int (z2 a) :: rest)) :=
  lv_icmp_le hx hb hdg ht (fun h => kt ((z2_le hr.1 hr.2).mp h)) (fun h => kf (Int.not_le.mp (fun q => h ((z2_le hr.1 hr.2).mpr q))))
theorem b_if_eq (hx : p.tables.exec = Jvm.exec) (hb : c.code = cc) {a : Int} {off : Int} {tgt : Nat} (hdg : decode cc pc = .ok (.ifCond .eq off, 3)) (ht : (pc : Int) + off = (tgt : Int)) (hr : B31 a)
    (kt : a = 0 → W p l e R s m args below meth c H locs cells slots Q (F0 m tgt ls rest)) (kf : a ≠ 0 → W p l e R s m args below meth c H locs cells slots Q (F0 m (pc + 3) ls rest)) : W p l e R s m args below meth c H locs cells slots Q (F0 m pc ls (.int (z2 a) :: rest)) :=
  lv_if_eq hx hb hdg ht (fun h => kt ((z2_eq hr B31_0).mp (h.trans z2_0))) (fun h => kf (fun q => h (((z2_eq hr B31_0).mpr q).trans z2_0.symm)))
theorem b_if_ne (hx : p.tables.exec = Jvm.exec) (hb : c.code = cc) {a : Int} {off : Int} {tgt : Nat} (hdg : decode cc pc = .ok (.ifCond .ne off, 3)) (ht : (pc : Int) + off = (tgt : Int)) (hr : B31 a)
    (kt : a ≠ 0 → W p l e R s m args below meth c H locs cells slots Q (F0 m tgt ls rest)) (kf : a = 0 → W p l e R s m args below meth c H locs cells slots Q (F0 m (pc + 3) ls rest)) : W p l e R s m args below meth c H locs cells slots Q (F0 m pc ls (.int (z2 a) :: rest)) :=
  lv_if_ne hx hb hdg ht (fun h => kt (fun q => h (((z2_eq hr B31_0).mpr q).trans z2_0.symm))) (fun h => kf ((z2_eq hr B31_0).mp (h.trans z2_0)))
theorem b_if_lt (hx : p.tables.exec = Jvm.exec) (hb : c.code = cc) {a : Int} {off : Int} {tgt : Nat} (hdg : decode cc pc = .ok (.ifCond .lt off, 3)) (ht : (pc : Int) + off = (tgt : Int)) (hr : B31 a)
    (kt : a < 0 → W p l e R s m args below meth c H locs cells slots Q (F0 m tgt ls rest)) (kf : 0 ≤ a → W p l e R s m args below meth c H locs cells slots Q (F0 m (pc + 3) ls rest)) : W p l e R s m args below meth c H locs cells slots Q (F0 m pc ls (.int (z2 a) :: rest)) :=
  lv_if_lt hx hb hdg ht (fun h => kt ((z2_lt hr B31_0).mp (by rw [← z2_0]; exact h))) (fun h => kf (Int.not_lt.mp (fun q => h (by rw [z2_0]; exact (z2_lt hr B31_0).mpr q))))
theorem b_if_ge (hx : p.tables.exec = Jvm.exec) (hb : c.code = cc) {a : Int} {off : Int} {tgt : Nat} (hdg : decode cc pc = .ok (.ifCond .ge off, 3)) (ht : (pc : Int) + off = (tgt : Int)) (hr : B31 a)
    (kt : 0 ≤ a → W p l e R s m args below meth c H locs cells slots Q (F0 m tgt ls rest)) (kf : a < 0 → W p l e R s m args below meth c H locs cells slots Q (F0 m (pc + 3) ls rest)) : W p l e R s m args below meth c H locs cells slots Q (F0 m pc ls (.int (z2 a) :: rest)) :=
  lv_if_ge hx hb hdg ht (fun h => kt ((z2_le B31_0 hr).mp (by rw [← z2_0]; exact h))) (fun h => kf (Int.not_le.mp (fun q => h (by rw [z2_0]; exact (z2_le B31_0 hr).mpr q))))
theorem b_if_gt (hx : p.tables.exec = Jvm.exec) (hb : c.code = cc) {a : Int} {off : Int} {tgt : Nat} (hdg : decode cc pc = .ok (.ifCond .gt off, 3)) (ht : (pc : Int) + off = (tgt : Int)) (hr : B31 a)
    (kt : 0 < a → W p l e R s m args below meth c H locs cells slots Q (F0 m tgt ls rest)) (kf : a ≤ 0 → W p l e R s m args below meth c H locs cells slots Q (F0 m (pc + 3) ls rest)) : W p l e R s m args below meth c H locs cells slots Q (F0 m pc ls (.int (z2 a) :: rest)) :=
  lv_if_gt hx hb hdg ht (fun h => kt ((z2_lt B31_0 hr).mp (by rw [← z2_0]; exact h))) (fun h => kf (Int.not_lt.mp (fun q => h (by rw [z2_0]; exact (z2_lt B31_0 hr).mpr q))))
theorem b_if_le (hx : p.tables.exec = Jvm.exec) (hb : c.code = cc) {a : Int} {off : Int} {tgt : Nat} (hdg : decode cc pc = .ok (.ifCond .le off, 3)) (ht : (pc : Int) + off = (tgt : Int)) (hr : B31 a)
    (kt : a ≤ 0 → W p l e R s m args below meth c H locs cells slots Q (F0 m tgt ls rest)) (kf : 0 < a → W p l e R s m args below meth c H locs cells slots Q (F0 m (pc + 3) ls rest)) : W p l e R s m args below meth c H locs cells slots Q (F0 m pc ls (.int (z2 a) :: rest)) :=
  lv_if_le hx hb hdg ht (fun h => kt ((z2_le hr B31_0).mp (by rw [← z2_0]; exact h))) (fun h => kf (Int.not_le.mp (fun q => h (by rw [z2_0]; exact (z2_le hr B31_0).mpr q))))
/-! ===== arithmetic ===== -/
theorem b_iconst (hx : p.tables.exec = Jvm.exec) (hb : c.code = cc) {n : Int} (hdg : decode cc pc = .ok (.iconst n, 1)) (k : W p l e R s m args below meth c H locs cells slots Q (F0 m (pc + 1) ls (.int (z2 n) :: rest))) : W p l e R s m args below meth c H locs cells slots Q (F0 m pc ls rest) := lv_iconst (v := z2 n) hx hb hdg rfl k
theorem b_bipush (hx : p.tables.exec = Jvm.exec) (hb : c.code = cc) {n : Int} (hdg : decode cc pc = .ok (.bipush n, 2)) (hv : (Int8.ofInt n).toInt32 = z2 n) (k : W p l e R s m args below meth c H locs cells slots Q (F0 m (pc + 2) ls (.int (z2 n) :: rest))) : W p l e R s m args below meth c H locs cells slots Q (F0 m pc ls rest) := lv_bipush (v := z2 n) hx hb hdg hv k
theorem b_sipush (hx : p.tables.exec = Jvm.exec) (hb : c.code = cc) {n : Int} (hdg : decode cc pc = .ok (.sipush n, 3)) (hv : (Int16.ofInt n).toInt32 = z2 n) (k : W p l e R s m args below meth c H locs cells slots Q (F0 m (pc + 3) ls (.int (z2 n) :: rest))) : W p l e R s m args below meth c H locs cells slots Q (F0 m pc ls rest) := lv_sipush (v := z2 n) hx hb hdg hv k
theorem b_iadd (hx : p.tables.exec = Jvm.exec) (hb : c.code = cc) {a b : Int} (hdg : decode cc pc = .ok (.iadd, 1)) (k : W p l e R s m args below meth c H locs cells slots Q (F0 m (pc + 1) ls (.int (z2 (a + b)) :: rest))) : W p l e R s m args below meth c H locs cells slots Q (F0 m pc ls (.int (z2 b) :: .int (z2 a) :: rest)) := lv_iadd hx hb hdg (by rw [z2_add]; exact k)
theorem b_isub (hx : p.tables.exec = Jvm.exec) (hb : c.code = cc) {a b : Int} (hdg : decode cc pc = .ok (.isub, 1)) (k : W p l e R s m args below meth c H locs cells slots Q (F0 m (pc + 1) ls (.int (z2 (a - b)) :: rest))) : W p l e R s m args below meth c H locs cells slots Q (F0 m pc ls (.int (z2 b) :: .int (z2 a) :: rest)) := lv_isub hx hb hdg (by rw [z2_sub]; exact k)
theorem b_imul (hx : p.tables.exec = Jvm.exec) (hb : c.code = cc) {a b : Int} (hdg : decode cc pc = .ok (.imul, 1)) (k : W p l e R s m args below meth c H locs cells slots Q (F0 m (pc + 1) ls (.int (z2 (a * b)) :: rest))) : W p l e R s m args below meth c H locs cells slots Q (F0 m pc ls (.int (z2 b) :: .int (z2 a) :: rest)) := lv_imul hx hb hdg (by rw [z2_mul]; exact k)
theorem b_idiv (hx : p.tables.exec = Jvm.exec) (hb : c.code = cc) {a b : Int} (hr : (0 ≤ a ∧ a < 2147483648) ∧ 0 < b ∧ b < 2147483648) (hdg : decode cc pc = .ok (.idiv, 1)) (k : W p l e R s m args below meth c H locs cells slots Q (F0 m (pc + 1) ls (.int (z2 (a / b)) :: rest))) : W p l e R s m args below meth c H locs cells slots Q (F0 m pc ls (.int (z2 b) :: .int (z2 a) :: rest)) := lv_idiv hx hb hdg (by rw [z2_0, z2_eq ⟨by omega, by omega⟩ B31_0]; omega) (by rw [z2_div hr.1.1 hr.1.2 hr.2.1 hr.2.2]; exact k)
theorem b_irem (hx : p.tables.exec = Jvm.exec) (hb : c.code = cc) {a b : Int} (hr : (0 ≤ a ∧ a < 2147483648) ∧ 0 < b ∧ b < 2147483648) (hdg : decode cc pc = .ok (.irem, 1)) (k : W p l e R s m args below meth c H locs cells slots Q (F0 m (pc + 1) ls (.int (z2 (a % b)) :: rest))) : W p l e R s m args below meth c H locs cells slots Q (F0 m pc ls (.int (z2 b) :: .int (z2 a) :: rest)) := lv_irem hx hb hdg (by rw [z2_0, z2_eq ⟨by omega, by omega⟩ B31_0]; omega) (by rw [z2_rem hr.1.1 hr.1.2 hr.2.1 hr.2.2]; exact k)
theorem b_iinc (hx : p.tables.exec = Jvm.exec) (hb : c.code = cc) {i nL k : Nat} {n a : Int} {lv lv' : List (Nat × Value)} (hdg : decode cc pc = .ok (.iinc i n, 3)) (h : lv_has ls nL lv) (hk : lv[k]? = some (i, .int (z2 a))) (hn : i < nL) (hl : (i, Value.int (z2 (a + n))) :: lv.filter (fun q => !(q.1 == i) && !(q.1 + 1 == i && q.2.category == 2)) = lv')
    (kk : ∀ ls' : Array Slot, lv_has ls' nL lv' → W p l e R s m args below meth c H locs cells slots Q (F0 m (pc + 3) ls' rest)) : W p l e R s m args below meth c H locs cells slots Q (F0 m pc ls rest) := lv_iinc hx hb hdg h hk (z2_add a n) hn hl kk
theorem b_min (hx : p.tables.exec = Jvm.exec) (hb : c.code = cc) (hml : c.maxLocals = ls.size) {own : String} {index : Nat} (hown : s.vm.findClass own = some m.cls) (hlink : (Cond.methodLink own index Lib.Math.min.name).before args s = true) (hstat : (Cond.static Lib.Math.min.name).before args s = true) (hini : (Cond.initialized "java/lang/Math").before args s = true) (hcode : (Cond.code Lib.Math.min.name Lib.Math.min.code 2 (some .int)).before args s = true)
    (hfr : 1 ≤ R.frames ∧ (rest.map fun v => v.category).sum + 13 ≤ R.locals ∧ cells ≤ R.cells ∧ slots ≤ R.slots) {a b : Int} (hr : B31 a ∧ B31 b) (hdg : decode cc pc = .ok (.invokestatic index, 3))
    (kk : W p l e R s m args below meth c H locs cells slots Q (F0 m (pc + 3) ls (.int (z2 (min a b)) :: rest))) : W p l e R s m args below meth c H locs cells slots Q (F0 m pc ls (.int (z2 b) :: .int (z2 a) :: rest)) := by
  refine va_mmin hx hb hml hown hlink hstat hini hcode hfr.1 hfr.2.1 hfr.2.2.1 hfr.2.2.2 hdg ?_
  have e : (if z2 b < z2 a then z2 b else z2 a) = z2 (min a b) := by
    by_cases h : b < a
    · rw [if_pos ((z2_lt hr.2 hr.1).mpr h), Int.min_eq_right (by omega)]
    · rw [if_neg (fun q => h ((z2_lt hr.2 hr.1).mp q)), Int.min_eq_left (by omega)]
  rw [e]
  exact kk
theorem b_max (hx : p.tables.exec = Jvm.exec) (hb : c.code = cc) (hml : c.maxLocals = ls.size) {own : String} {index : Nat} (hown : s.vm.findClass own = some m.cls) (hlink : (Cond.methodLink own index Lib.Math.max.name).before args s = true) (hstat : (Cond.static Lib.Math.max.name).before args s = true) (hini : (Cond.initialized "java/lang/Math").before args s = true) (hcode : (Cond.code Lib.Math.max.name Lib.Math.max.code 2 (some .int)).before args s = true)
    (hfr : 1 ≤ R.frames ∧ (rest.map fun v => v.category).sum + 13 ≤ R.locals ∧ cells ≤ R.cells ∧ slots ≤ R.slots) {a b : Int} (hr : B31 a ∧ B31 b) (hdg : decode cc pc = .ok (.invokestatic index, 3))
    (kk : W p l e R s m args below meth c H locs cells slots Q (F0 m (pc + 3) ls (.int (z2 (max a b)) :: rest))) : W p l e R s m args below meth c H locs cells slots Q (F0 m pc ls (.int (z2 b) :: .int (z2 a) :: rest)) := by
  refine va_mmax hx hb hml hown hlink hstat hini hcode hfr.1 hfr.2.1 hfr.2.2.1 hfr.2.2.2 hdg ?_
  have e : (if z2 a < z2 b then z2 b else z2 a) = z2 (max a b) := by
    by_cases h : a < b
    · rw [if_pos ((z2_lt hr.1 hr.2).mpr h), Int.max_eq_right (by omega)]
    · rw [if_neg (fun q => h ((z2_lt hr.1 hr.2).mp q)), Int.max_eq_left (by omega)]
  rw [e]
  exact kk
theorem b_top {x : Int32} {v : Int} (h : x = z2 v) (k : W p l e R s m args below meth c H locs cells slots Q (F0 m pc ls (.int (z2 v) :: rest))) : W p l e R s m args below meth c H locs cells slots Q (F0 m pc ls (.int x :: rest)) := by
  rw [h]
  exact k
/-! ===== the heap: one cell at a time ===== -/
abbrev ca (D : va_G) (a : Nat) (x : va_E) (H : Heap) : Prop := va_at D vwCl (a, x) H
theorem ca.P {a : Nat} {x : va_E} (h : ca D a x H) : va_P D vwCl [(a, x)] H := fun k q hk => by
  cases k with
  | zero => cases hk; exact h
  | succ k => cases hk
theorem ca.lt {a : Nat} {x : va_E} (h : ca D a x H) : a < H.size := va_at.lt h
theorem ca.kept {a : Nat} {x : va_E} {H1 : Heap} (h : ca D a x H) (hq : H1[a]? = H[a]?) : ca D a x H1 := va_at.kept h hq
/-- getfield -/
theorem g_get (hx : p.tables.exec = Jvm.exec) (hb : c.code = cc) {own C : String} {T : u_T} {N ci index : Nat} {Ts : List Cond} (hts : ∀ w ∈ Ts, w.before args s = true) (hin : ∀ w ∈ u_ws C T N, w ∈ Ts) (hown : s.vm.findClass own = some m.cls) (hG : GE D ks bx s) {a : Nat} {fs : List Value} (he : ca D a (.inr (ci, fs)) H) (hc : vwCl[ci]? = some (C, T, N)) (k : Nat) (hk : k < N) (hlink : Cond.fieldLink own index C (T k).2.1 (T k).2.2.1 ∈ Ts) (h1 : (T k).1 = C) {v : Value} (hv : fs[k]? = some v) (hdg : decode cc pc = .ok (.getfield index, 3))
    (kk : W p l e R s m args below meth c H locs cells slots Q (F0 m (pc + 3) ls (v :: rest))) : W p l e R s m args below meth c H locs cells slots Q (F0 m pc ls (.ref a :: rest)) :=
  va_get hx hb hts hin hown hG.1 (ca.P he) 0 rfl hc k hk (hts _ hlink) (fun _ h => by rw [h1] at h; exact h) hv hdg kk
theorem g_getN (hx : p.tables.exec = Jvm.exec) (hb : c.code = cc) {own C : String} {T : u_T} {N ci index : Nat} {Ts : List Cond} (hts : ∀ w ∈ Ts, w.before args s = true) (hin : ∀ w ∈ u_ws C T N, w ∈ Ts) (hown : s.vm.findClass own = some m.cls) (hG : GE D ks bx s) {a : Nat} {fs : List Value} (he : ca D a (.inr (ci, fs)) H) (hc : vwCl[ci]? = some (C, T, N)) (k : Nat) (hk : k < N) (hlink : Cond.fieldLinkNest own index C (T k).2.1 (T k).2.2.1 RX4 ∈ gwl) (h1 : (T k).1 = C) {v : Value} (hv : fs[k]? = some v) (hdg : decode cc pc = .ok (.getfield index, 3))
    (kk : W p l e R s m args below meth c H locs cells slots Q (F0 m (pc + 3) ls (v :: rest))) : W p l e R s m args below meth c H locs cells slots Q (F0 m pc ls (.ref a :: rest)) :=
  va_getN hx hb hts hin hown hG.1 (ca.P he) 0 rfl hc k hk (va_Nw.use rfl (hG.2.1 _ hlink)) (fun _ h => by rw [h1] at h; exact h) hv hdg kk
theorem va_S.ar {A : Nat → Prop} {H0 H1 : Heap} {a k : Nat} (h : va_S A H0 H locs) (z : H1.size = H.size) (oq : ∀ q : Nat, q ≠ a → H1[q]? = H[q]?) (ha : A a) : va_S A H0 H1 (locs ++ [⟨a, k⟩]) := h.put z oq ha
/-- putfield, a field that isn't final -/
theorem g_put (hx : p.tables.exec = Jvm.exec) (hb : c.code = cc) {own C : String} {T : u_T} {N ci index : Nat} {Ts : List Cond} (hts : ∀ w ∈ Ts, w.before args s = true) (hin : ∀ w ∈ u_ws C T N, w ∈ Ts) (ty0 : Nat → FieldType) (hty : ∀ k, k < N → parseFieldDescriptor (T k).2.2.1 = some (ty0 k)) (hnm : ∀ a, a < N → ∀ b, b < N → a ≠ b → (T a).2.1 ≠ (T b).2.1) (hown : s.vm.findClass own = some m.cls) (hG : GE D ks bx s) {A : Nat → Prop} (hS : va_S A s.heap H locs) {a : Nat} {fs : List Value} (he : ca D a (.inr (ci, fs)) H) (ha : A a) (hc : vwCl[ci]? = some (C, T, N)) (k : Nat) (hk : k < N) (hlink : Cond.fieldLink own index C (T k).2.1 (T k).2.2.1 ∈ Ts) (h1 : (T k).1 = C) (hfin : (T k).2.2.2 = false) {v : Value} (hn : narrow (ty0 k) v = v) (hfit : fits (ty0 k) v = true) (hl : k < fs.length) (hdg : decode cc pc = .ok (.putfield index, 3))
    (kk : ∀ (H1 : Heap) (locs1 : List Loc), ca D a (.inr (ci, fs.set k v)) H1 → H1.size = H.size → (∀ q : Nat, q ≠ a → H1[q]? = H[q]?) → va_S A s.heap H1 locs1 → W p l e R s m args below meth c H1 locs1 cells slots Q (F0 m (pc + 3) ls rest)) : W p l e R s m args below meth c H locs cells slots Q (F0 m pc ls (v :: .ref a :: rest)) := by
  have hK := hG.1
  have hap := va_apart (own := own) hts hin ty0 hty hnm hK hc
  obtain ⟨r, h1', cell, q1, q2, q3, q4⟩ := he
  have hr : r = (C, T, N) := Option.some.inj (h1'.symm.trans hc)
  subst hr
  obtain ⟨hSl, hfc, kC, hkC, hkind⟩ := hK.1 ci _ hc
  obtain ⟨cf, kf, fi, f, hi, hsl⟩ := hSl k hk
  have hlay := hts _ (hin _ (u_in_lay hk))
  unfold u_lay at hlay
  rw [if_neg (by rw [hfin]; decide)] at hlay
  have hst := (u_facts hfc hkC (u_lays hts hin hk) hi).1
  have h6 := u_store hfc hkC hkind hlay hi (hty k hk) hn hfit
  have hi' : s.fieldFound? C (T k).2.1 (T k).2.2.1 = some (cf, kf, fi, f) := by rw [h1] at hi; exact hi
  refine W.putK hx hb (f := f) ⟨hown, hts _ hlink, ⟨_, _, _, hi'⟩, hst⟩ (by rw [q2]; exact h6) q1 q3 (by rw [hsl]; exact k2_hasslot (q4 k hk)) rfl rfl hdg fun H' e1 e2 e3 => ?_
  rw [hsl] at e1 ⊢
  exact kk H' _ ⟨_, hc, t_OB.to (V := updV (vp_V fs) k v) ⟨_, e1, q2, q3, t_set q4 hap hk v⟩ (fun j _ => vp_updV_set hl v j)⟩ e2 e3 (hS.put e2 e3 ha)
theorem g_putN (hx : p.tables.exec = Jvm.exec) (hb : c.code = cc) {own C : String} {T : u_T} {N ci index : Nat} {Ts : List Cond} (hts : ∀ w ∈ Ts, w.before args s = true) (hin : ∀ w ∈ u_ws C T N, w ∈ Ts) (ty0 : Nat → FieldType) (hty : ∀ k, k < N → parseFieldDescriptor (T k).2.2.1 = some (ty0 k)) (hnm : ∀ a, a < N → ∀ b, b < N → a ≠ b → (T a).2.1 ≠ (T b).2.1) (hown : s.vm.findClass own = some m.cls) (hG : GE D ks bx s) {A : Nat → Prop} (hS : va_S A s.heap H locs) {a : Nat} {fs : List Value} (he : ca D a (.inr (ci, fs)) H) (ha : A a) (hc : vwCl[ci]? = some (C, T, N)) (k : Nat) (hk : k < N) (hlink : Cond.fieldLinkNest own index C (T k).2.1 (T k).2.2.1 RX4 ∈ gwl) (h1 : (T k).1 = C) (hfin : (T k).2.2.2 = false) {v : Value} (hn : narrow (ty0 k) v = v) (hfit : fits (ty0 k) v = true) (hl : k < fs.length) (hdg : decode cc pc = .ok (.putfield index, 3))
    (kk : ∀ (H1 : Heap) (locs1 : List Loc), ca D a (.inr (ci, fs.set k v)) H1 → H1.size = H.size → (∀ q : Nat, q ≠ a → H1[q]? = H[q]?) → va_S A s.heap H1 locs1 → W p l e R s m args below meth c H1 locs1 cells slots Q (F0 m (pc + 3) ls rest)) : W p l e R s m args below meth c H locs cells slots Q (F0 m pc ls (v :: .ref a :: rest)) := by
  have hK := hG.1
  have hap := va_apart (own := own) hts hin ty0 hty hnm hK hc
  obtain ⟨r, h1', cell, q1, q2, q3, q4⟩ := he
  have hr : r = (C, T, N) := Option.some.inj (h1'.symm.trans hc)
  subst hr
  obtain ⟨hSl, hfc, kC, hkC, hkind⟩ := hK.1 ci _ hc
  obtain ⟨cf, kf, fi, f, hi, hsl⟩ := hSl k hk
  have hlay := hts _ (hin _ (u_in_lay hk))
  unfold u_lay at hlay
  rw [if_neg (by rw [hfin]; decide)] at hlay
  have hst := (u_facts hfc hkC (u_lays hts hin hk) hi).1
  have h6 := u_store hfc hkC hkind hlay hi (hty k hk) hn hfit
  have hi' : s.fieldFound? C (T k).2.1 (T k).2.2.1 = some (cf, kf, fi, f) := by rw [h1] at hi; exact hi
  refine va_WputK hx hb (f := f) hown (va_Nw.use rfl (hG.2.1 _ hlink)) hi' hst (by rw [q2]; exact h6) q1 q3 (by rw [hsl]; exact k2_hasslot (q4 k hk)) rfl rfl hdg fun H' e1 e2 e3 => ?_
  rw [hsl] at e1 ⊢
  exact kk H' _ ⟨_, hc, t_OB.to (V := updV (vp_V fs) k v) ⟨_, e1, q2, q3, t_set q4 hap hk v⟩ (fun j _ => vp_updV_set hl v j)⟩ e2 e3 (hS.put e2 e3 ha)
/-- .. a final field in its constructor -/
theorem g_putF (hx : p.tables.exec = Jvm.exec) (hb : c.code = cc) {C : String} {T : u_T} {N ci index : Nat} {Ts : List Cond} (hts : ∀ w ∈ Ts, w.before args s = true) (hin : ∀ w ∈ u_ws C T N, w ∈ Ts) (ty0 : Nat → FieldType) (hty : ∀ k, k < N → parseFieldDescriptor (T k).2.2.1 = some (ty0 k)) (hnm : ∀ a, a < N → ∀ b, b < N → a ≠ b → (T a).2.1 ≠ (T b).2.1) (hown : s.vm.findClass C = some m.cls) (hinit : meth.name = "<init>") (hG : GE D ks bx s) {A : Nat → Prop} (hS : va_S A s.heap H locs) {a : Nat} {fs : List Value} (he : ca D a (.inr (ci, fs)) H) (ha : A a) (hc : vwCl[ci]? = some (C, T, N)) (k : Nat) (hk : k < N) (hlink : Cond.fieldLink C index C (T k).2.1 (T k).2.2.1 ∈ Ts) (h1 : (T k).1 = C) (hfin : (T k).2.2.2 = true) {v : Value} (hn : narrow (ty0 k) v = v) (hfit : fits (ty0 k) v = true) (hl : k < fs.length) (hdg : decode cc pc = .ok (.putfield index, 3))
    (kk : ∀ (H1 : Heap) (locs1 : List Loc), ca D a (.inr (ci, fs.set k v)) H1 → H1.size = H.size → (∀ q : Nat, q ≠ a → H1[q]? = H[q]?) → va_S A s.heap H1 locs1 → W p l e R s m args below meth c H1 locs1 cells slots Q (F0 m (pc + 3) ls rest)) : W p l e R s m args below meth c H locs cells slots Q (F0 m pc ls (v :: .ref a :: rest)) := by
  have hK := hG.1
  have hap := va_apart (own := C) hts hin ty0 hty hnm hK hc
  obtain ⟨r, h1', cell, q1, q2, q3, q4⟩ := he
  have hr : r = (C, T, N) := Option.some.inj (h1'.symm.trans hc)
  subst hr
  obtain ⟨hSl, hfc, kC, hkC, hkind⟩ := hK.1 ci _ hc
  obtain ⟨cf, kf, fi, f, hi, hsl⟩ := hSl k hk
  have hlay := hts _ (hin _ (u_in_lay hk))
  unfold u_lay at hlay
  rw [if_pos hfin] at hlay
  have hst := (u_facts hfc hkC (u_lays hts hin hk) hi).1
  have hcf : m.cls = cf := by
    obtain ⟨_, _, c', _, _, _, -, -, hf', -, -, -, hown2, -⟩ := Cond.laysFinal_spec hlay
    have e1 : c' = cf := by have := hi.symm.trans hf'; simp at this; exact this.1.symm
    rw [h1] at hown2
    rw [← e1]; exact Option.some.inj (hown.symm.trans hown2)
  have h6 := u_fits hfc hkC hkind (Or.inr hlay) hi (hty k hk) hn hfit
  have hi' : s.fieldFound? C (T k).2.1 (T k).2.2.1 = some (cf, kf, fi, f) := by rw [h1] at hi; exact hi
  refine W.putFinK hx hb hown (hts _ hlink) hi' hst hcf hinit (by rw [q2]; exact h6) q1 q3 (by rw [hsl]; exact k2_hasslot (q4 k hk)) rfl rfl hdg fun H' e1 e2 e3 => ?_
  rw [hsl] at e1 ⊢
  exact kk H' _ ⟨_, hc, t_OB.to (V := updV (vp_V fs) k v) ⟨_, e1, q2, q3, t_set q4 hap hk v⟩ (fun j _ => vp_updV_set hl v j)⟩ e2 e3 (hS.put e2 e3 ha)
/-! arrays: their classes are ks 0 (int), 1 (long), 2 .. 5 (Bell, Crew, House, Melody) -/
theorem g_iald (hx : p.tables.exec = Jvm.exec) (hb : c.code = cc) (hG : GE D ks bx s) {a n : Nat} {f : Nat → Int32} (he : ca D a (.inl (ks 0, n, .inl f)) H) {i : Int} (j : Nat) (hi : i = (j : Int) ∧ j < n ∧ n < 2147483648) (hdg : decode cc pc = .ok (.iaload, 1))
    (kk : W p l e R s m args below meth c H locs cells slots Q (F0 m (pc + 1) ls (.int (f j) :: rest))) : W p l e R s m args below meth c H locs cells slots Q (F0 m pc ls (.int (z2 i) :: .ref a :: rest)) :=
  va_iald hx hb hG.1 (ca.P he) 0 0 rfl rfl (zj_in hi) hdg (by rw [zj_cl hi]; exact kk)
theorem g_aald (hx : p.tables.exec = Jvm.exec) (hb : c.code = cc) (hG : GE D ks bx s) {a n : Nat} {f : Nat → Option Nat} (t0 : Nat) {kA : ClassId} {C : String} (ht : (tysG ks)[t0]? = some (kA, .object C)) (he : ca D a (.inl (kA, n, .inr (.inr (.inr (.inr f))))) H) {i : Int} (j : Nat) (hi : i = (j : Int) ∧ j < n ∧ n < 2147483648) (hdg : decode cc pc = .ok (.aaload, 1)) {v : Value} (hv : va_rf (f j) = v)
    (kk : W p l e R s m args below meth c H locs cells slots Q (F0 m (pc + 1) ls (v :: rest))) : W p l e R s m args below meth c H locs cells slots Q (F0 m pc ls (.int (z2 i) :: .ref a :: rest)) :=
  va_aldq hx hb hG.1 (ca.P he) 0 t0 rfl ht (zj_in hi) hdg (by rw [zj_cl hi, hv]; exact kk)
theorem g_alen (hx : p.tables.exec = Jvm.exec) (hb : c.code = cc) (hG : GE D ks bx s) {a : Nat} {x : vp_A} {kA : ClassId} {ty : FieldType} (t0 : Nat) (ht : (tysG ks)[t0]? = some (kA, ty)) (he : ca D a (.inl (kA, x)) H) {n : Int} (hn : z2 (x.1 : Nat) = z2 n) (hdg : decode cc pc = .ok (.arraylength, 1))
    (kk : W p l e R s m args below meth c H locs cells slots Q (F0 m (pc + 1) ls (.int (z2 n) :: rest))) : W p l e R s m args below meth c H locs cells slots Q (F0 m pc ls (.ref a :: rest)) :=
  va_alen hx hb hG.1 (ca.P he) 0 t0 rfl ht ((z2_len x.1).trans hn) hdg kk
theorem g_iast (hx : p.tables.exec = Jvm.exec) (hb : c.code = cc) (hG : GE D ks bx s) {A : Nat → Prop} (hS : va_S A s.heap H locs) {a n : Nat} {f : Nat → Int32} (he : ca D a (.inl (ks 0, n, .inl f)) H) (ha : A a) {i : Int} {v : Int32} (j : Nat) (hi : i = (j : Int) ∧ j < n ∧ n < 2147483648) (hdg : decode cc pc = .ok (.iastore, 1))
    (kk : ∀ (H1 : Heap) (locs1 : List Loc), ca D a (.inl (ks 0, n, .inl (upd f j v))) H1 → H1.size = H.size → (∀ q : Nat, q ≠ a → H1[q]? = H[q]?) → va_S A s.heap H1 locs1 → W p l e R s m args below meth c H1 locs1 cells slots Q (F0 m (pc + 1) ls rest)) : W p l e R s m args below meth c H locs cells slots Q (F0 m pc ls (.int v :: .int (z2 i) :: .ref a :: rest)) := by
  refine W.iast hx hb he ((hG.1.2 0 _ rfl).1 n (fun j => .int (f j))) (fun q => by cases q) (by show ¬ (z2 i < 0 ∨ (arrV _ _ _).slots.size ≤ _); rw [arrV_size]; exact zj_in hi) rfl rfl hdg fun H1 e z oq => ?_
  refine kk H1 _ ?_ z oq (hS.put z oq ha)
  show H1[a]? = some (vp_cell _ _)
  rw [e, vp_cell_i, vp_cell_i, arrV_store, zj_cl hi]
  congr 2
  funext q
  by_cases hq : q = j
  · subst hq
    simp [updV, upd]
  · simp [updV, upd, hq]
theorem g_aast (hx : p.tables.exec = Jvm.exec) (hb : c.code = cc) (hG : GE D ks bx s) {A : Nat → Prop} (hS : va_S A s.heap H locs) {a n v ci : Nat} {f : Nat → Option Nat} {vs : List Value} {r : vw_C} (t0 : Nat) {kA : ClassId} (ht : (tysG ks)[t0]? = some (kA, .object r.1)) (he : ca D a (.inl (kA, n, .inr (.inr (.inr (.inr f))))) H) (ha : A a) (hv : ca D v (.inr (ci, vs)) H) (hc : vwCl[ci]? = some r) {i : Int} (j : Nat) (hi : i = (j : Int) ∧ j < n ∧ n < 2147483648) (hdg : decode cc pc = .ok (.aastore, 1))
    (kk : ∀ (H1 : Heap) (locs1 : List Loc), ca D a (.inl (kA, n, .inr (.inr (.inr (.inr (va_up f j (some v))))))) H1 → H1.size = H.size → (∀ q : Nat, q ≠ a → H1[q]? = H[q]?) → va_S A s.heap H1 locs1 → W p l e R s m args below meth c H1 locs1 cells slots Q (F0 m (pc + 1) ls rest)) : W p l e R s m args below meth c H locs cells slots Q (F0 m pc ls (.ref v :: .int (z2 i) :: .ref a :: rest)) := by
  obtain ⟨r', hr', cellV, g1, g2, g3, -⟩ := hv
  have hcls := (hG.1.1 ci r hc).2
  obtain ⟨kA', comp, k1, k2, k3, -⟩ := (hG.1.2 t0 _ ht).2
  have hcomp : comp = D.1 ci := Option.some.inj (k3.symm.trans hcls.1)
  subst hcomp
  obtain ⟨kC, hkC, -⟩ := hcls.2
  have hin := zj_in hi
  refine W.aast hx hb he (fun q h => by cases h) (fun h => by cases h) k1 k2 rfl hkC ⟨fun q => hin (Or.inl q), by show _ < (arrV _ _ _).slots.size; rw [arrV_size]; exact Nat.not_le.mp fun q => hin (Or.inr q)⟩ g1 (fun q h => by rw [g3] at h; cases h) (by rw [g2]; exact hkC) (by rw [g2]; exact va_assign hcls) rfl rfl hdg fun H1 e z oq => ?_
  refine kk H1 _ ?_ z oq (hS.put z oq ha)
  show H1[a]? = some (vp_cell _ _)
  rw [e, vp_cell_q, vp_cell_q, arrV_store, zj_cl hi]
  congr 2
  funext q
  by_cases hq : q = j
  · subst hq
    simp [updV, va_up, va_rf]
  · simp [updV, va_up, hq]
/-! new cells: the next address -/
theorem g_new (hx : p.tables.exec = Jvm.exec) (hb : c.code = cc) {own C : String} {T : u_T} {N ci index : Nat} {Ts : List Cond} (hts : ∀ w ∈ Ts, w.before args s = true) (hin : ∀ w ∈ u_ws C T N, w ∈ Ts) (ty : Nat → FieldType) (hty : ∀ k, k < N → parseFieldDescriptor (T k).2.2.1 = some (ty k)) (hown : s.vm.findClass own = some m.cls) (hcl : Cond.classLink own index C ∈ Ts) (hinst : Cond.instantiable C N ∈ Ts) (hini : Cond.initialized C ∈ Ts)
    (hG : GE D ks bx s) {A : Nat → Prop} (hS : va_S A s.heap H locs) (hc : vwCl[ci]? = some (C, T, N)) {fs : List Value} (hfs : ∀ j, j < N → defaultValue (ty j) = vp_V fs j) (hcells : cells + 1 ≤ R.cells ∧ slots + N ≤ R.slots) (hdg : decode cc pc = .ok (.new index, 3))
    (kk : ∀ H1 : Heap, ca D H.size (.inr (ci, fs)) H1 → H1.size = H.size + 1 → (∀ q : Nat, q < H.size → H1[q]? = H[q]?) → va_S A s.heap H1 locs →
      W p l e R s m args below meth c H1 locs (cells + 1) (slots + N) Q (F0 m (pc + 3) ls (.ref H.size :: rest))) : W p l e R s m args below meth c H locs cells slots Q (F0 m pc ls rest) := by
  have hKn := hG.1.1 ci _ hc
  refine W.newcK hx hb hown (hts _ hcl) (hts _ hinst) (hts _ hini) rfl hdg hcells.1 hcells.2 hKn.2.1 rfl fun H1 kC hkC e1 z1 o1 => ?_
  exact kk H1 ⟨_, hc, (u_born ty hts hin hKn hkC e1 hty).to hfs⟩ z1 o1 ⟨Nat.le_trans hS.1 (by omega), fun x h1 h2 => (o1 x (Nat.lt_of_lt_of_le h1 hS.1)).trans (hS.2.1 x h1 h2), hS.2.2⟩
theorem g_newa (hx : p.tables.exec = Jvm.exec) (hb : c.code = cc) {atype : ArrayType} {Ts : List Cond} (hts : ∀ w ∈ Ts, w.before args s = true) (harr : Cond.arrayClass (newarray.typeOf atype) ∈ Ts) (hG : GE D ks bx s) {A : Nat → Prop} (hS : va_S A s.heap H locs)
    (t0 : Nat) {kA : ClassId} {ty : FieldType} (hty : newarray.typeOf atype = ty) (ht : (tysG ks)[t0]? = some (kA, ty)) (hnm : va_RA s kA ty → s.vm.findClass ("[" ++ ty.toString) = some kA) {n : Int} {N : Nat} (a0 : vp_A) (ha : ∀ cA : ClassId, vp_cell cA a0 = arrV cA N (fun _ => defaultValue ty)) (hn : n = (N : Int)) (hN : n < 2147483648) (hbytes : N * componentBytes ty ≤ 536870912) (hcells : cells + 1 ≤ R.cells ∧ slots + N ≤ R.slots) (hdg : decode cc pc = .ok (.newarray atype, 2))
    (kk : ∀ H1 : Heap, ca D H.size (.inl (kA, a0)) H1 → H1.size = H.size + 1 → (∀ q : Nat, q < H.size → H1[q]? = H[q]?) → va_S A s.heap H1 locs →
      W p l e R s m args below meth c H1 locs (cells + 1) (slots + N) Q (F0 m (pc + 2) ls (.ref H.size :: rest))) : W p l e R s m args below meth c H locs cells slots Q (F0 m pc ls (.int (z2 n) :: rest)) := by
  subst hty
  have hcl : (z2 n).toNatClampNeg = N := by rw [z2_cl (by omega) hN]; omega
  refine va_newaK hx hb (hts _ harr) rfl hdg rfl (by rw [z2_0, z2_lt ⟨by omega, by omega⟩ B31_0]; omega) hcl hbytes hcells.1 hcells.2 rfl fun H1 cA e1 z1 o1 hAr hNm => ?_
  have hk := hnm (hG.1.2 t0 _ ht).2
  have hcA : cA = kA := Option.some.inj (hNm.symm.trans hk)
  subst hcA
  refine kk H1 ?_ z1 o1 ⟨Nat.le_trans hS.1 (by omega), fun x h1 h2 => (o1 x (Nat.lt_of_lt_of_le h1 hS.1)).trans (hS.2.1 x h1 h2), hS.2.2⟩
  show H1[H.size]? = some (vp_cell _ _)
  rw [ha]
  exact e1
theorem g_anew (hx : p.tables.exec = Jvm.exec) (hb : c.code = cc) {own C : String} {index : Nat} {Ts : List Cond} (hts : ∀ w ∈ Ts, w.before args s = true) (hown : s.vm.findClass own = some m.cls) (hcl : Cond.classLink own index C ∈ Ts) (hao : C ∈ gao) (hG : GE D ks bx s) {A : Nat → Prop} (hS : va_S A s.heap H locs)
    (t0 : Nat) {kA : ClassId} (ht : (tysG ks)[t0]? = some (kA, .object C)) {n : Int} {N : Nat} (hn : n = (N : Int)) (hN : N * 4 ≤ 536870912) (hcells : cells + 1 ≤ R.cells ∧ slots + N ≤ R.slots) (hdg : decode cc pc = .ok (.anewarray index, 3))
    (kk : ∀ H1 : Heap, ca D H.size (.inl (kA, N, .inr (.inr (.inr (.inr (fun _ => none)))))) H1 → H1.size = H.size + 1 → (∀ q : Nat, q < H.size → H1[q]? = H[q]?) → va_S A s.heap H1 locs →
      W p l e R s m args below meth c H1 locs (cells + 1) (slots + N) Q (F0 m (pc + 3) ls (.ref H.size :: rest))) : W p l e R s m args below meth c H locs cells slots Q (F0 m pc ls (.int (z2 n) :: rest)) := by
  have hcl' : (z2 n).toNatClampNeg = N := by rw [z2_cl (by omega) (by omega)]; omega
  have hb4 : (z2 n).toNatClampNeg * 4 ≤ 536870912 := by rw [hcl']; exact hN
  refine W.anew hx hb hown (hts _ hcl) (va_AO.use (hG.2.2.1 _ hao)) rfl hdg rfl (by rw [z2_0, z2_lt ⟨by omega, by omega⟩ B31_0]; omega) hb4 hcells.1 (by rw [hcl']; exact hcells.2) fun cA kA' comp f1 f2 f3 f4 => ?_
  rw [hcl']
  obtain ⟨kA2, comp2, k1, k2, k3, k4⟩ := (hG.1.2 t0 _ ht).2
  have hcA : cA = kA := Option.some.inj (f1.symm.trans k4)
  subst hcA
  generalize hH1 : H.push ({ cls := cA, slots := Array.replicate N .null, vm := .none } : Cell) = H1
  have z1 : H1.size = H.size + 1 := by rw [← hH1, Array.size_push]
  have e1 : H1[H.size]? = some (arrV cA N (fun _ => .null)) := by rw [← hH1, Array.getElem?_push_size, ← arrV_new]
  have o1 : ∀ q : Nat, q < H.size → H1[q]? = H[q]? := fun q hq => by rw [← hH1, Array.getElem?_push, if_neg (Nat.ne_of_lt hq)]
  refine kk H1 ?_ z1 o1 ⟨Nat.le_trans hS.1 (by omega), fun x h1 h2 => (o1 x (Nat.lt_of_lt_of_le h1 hS.1)).trans (hS.2.1 x h1 h2), hS.2.2⟩
  show H1[H.size]? = some (vp_cell _ _)
  rw [vp_cell_q]
  exact e1
/-- any loop: what holds at its head, and a measure -/
theorem lp_ms {σ : Type} {pc : Nat} (I : σ → Heap → List Loc → Array Slot → Prop) (μ : σ → Nat) (step : ∀ (x : σ) (H : Heap) (locs : List Loc) (ls : Array Slot), I x H locs ls → (∀ (x' : σ) (H' : Heap) (locs' : List Loc) (ls' : Array Slot), μ x' < μ x → I x' H' locs' ls' → W p l e R s m args below meth c H' locs' cells slots Q (F0 m pc ls' [])) → W p l e R s m args below meth c H locs cells slots Q (F0 m pc ls [])) (x : σ) (h : I x H locs ls) :
    W p l e R s m args below meth c H locs cells slots Q (F0 m pc ls []) := by
  have key : ∀ (n : Nat) (x : σ) (H : Heap) (locs : List Loc) (ls : Array Slot), μ x < n → I x H locs ls → W p l e R s m args below meth c H locs cells slots Q (F0 m pc ls []) := by
    intro n
    induction n with
    | zero => intro x H locs ls h; omega
    | succ n ih => intro x H locs ls hn hI; exact step x H locs ls hI (fun x' H' locs' ls' hm h' => ih x' H' locs' ls' (by omega) h')
  exact key (μ x + 1) x H locs ls (Nat.lt_succ_self _) h
/-! ===== calls ===== -/
theorem g_preS {Hs : Heap} {as : List Value} (hG : GE D ks bx s) (hS : va_S (AR Rg s.heap.size) s.heap Hs locs) (hR : ∀ q, Rg q → bx ≤ q) : PreS s Hs (va_Pc as (Pre D ks bx Hs)) as := ⟨Pre.blind, fun _ hU hW => ⟨rfl, hU, hG.go hS hR hU hW⟩⟩
theorem g_preV {Hs : Heap} {b ci : Nat} {As fs : List Value} {r : vw_C} (hG : GE D ks bx s) (hS : va_S (AR Rg s.heap.size) s.heap Hs locs) (hR : ∀ q, Rg q → bx ≤ q) (he : ca D b (.inr (ci, fs)) Hs) (hc : vwCl[ci]? = some r) : PreV s Hs r.1 b (va_Pc (.ref b :: As) (Pre D ks bx Hs)) As :=
  ⟨Pre.blind, va_recv hG.1 (ca.P he) (q0 := 0) hc rfl, fun _ hU hW => ⟨rfl, hU, hG.go hS hR hU hW⟩⟩
theorem g_run {st0 : List Value} {Rg1 : Nat → Prop} {mc ms : Nat} {a : Array Value} {post : Option Value → Heap → Prop} {xp : String → Heap → Prop} (hr : vx_Run p l e R s m args below meth c H locs cells slots mc ms (F0 m pc ls st0) rest (gQ post (AR Rg1 H.size) a) (gX xp (AR Rg1 H.size)) (AR Rg1 H.size)) (hS : va_S (AR Rg s.heap.size) s.heap H locs) (hR1 : ∀ q, Rg1 q → Rg q)
    (kx : ∀ (E : String) (ce : Cell) (q9 : Addr) (H1 : Heap) (locs1 : List Loc), xp E H1 → H.size ≤ H1.size → (∀ q : Nat, q < H.size → ¬ Rg1 q → H1[q]? = H[q]?) → va_S (AR Rg s.heap.size) s.heap H1 locs1 → H1[q9]? = some ce → ce.vm = .none → s.vm.findClass E = some ce.cls → vx_W p l e R s m args below meth c H1 locs1 (cells + mc) (slots + ms) Q (F0 m pc ls rest) q9)
    (kk : ∀ (v : Option Value) (H1 : Heap) (locs1 : List Loc), post v H1 → H.size ≤ H1.size → (∀ q : Nat, q < H.size → ¬ Rg1 q → H1[q]? = H[q]?) → va_S (AR Rg s.heap.size) s.heap H1 locs1 → W p l e R s m args below meth c H1 locs1 (cells + mc) (slots + ms) Q (F0 m (pc + 3) ls (v.toList ++ rest))) :
    W p l e R s m args below meth c H locs cells slots Q (F0 m pc ls st0) := by
  have hA : ∀ q, q < H.size → AR Rg1 H.size q → AR Rg s.heap.size q := fun q h1 h2 => h2.elim (fun r => Or.inl (hR1 q r)) (fun r => by omega)
  have hf : ∀ q, AR Rg1 H.size q → AR Rg s.heap.size q := fun q h2 => h2.elim (fun r => Or.inl (hR1 q r)) (fun r => Or.inr (Nat.le_trans hS.1 r))
  have hn : ∀ {H1 : Heap}, (∀ q : Nat, q < H.size → ¬ AR Rg1 H.size q → H1[q]? = H[q]?) → ∀ q : Nat, q < H.size → ¬ Rg1 q → H1[q]? = H[q]? := fun h q h1 h2 => h q h1 (fun r => r.elim h2 (fun r => by omega))
  intro T hT X
  rcases hr T hT X with ⟨v, st₀, t, T', L, h0, X', hL, e1, e2, ⟨⟨v', hv, hp⟩, hF⟩, st⟩ | ⟨q, st₀, t, T', L, E, ce, h0, X', hL, e1, e2, ⟨hp, hF⟩, hce, hcv, hcl, st⟩
  · cases hv
    obtain ⟨k1, k2, k3⟩ := vx_keep h0 e1 hS hA hf hL hF
    obtain ⟨t2, a1, b1⟩ := kk v T'.heap (locs ++ L) (by rw [e1]; exact hp) k1 (hn k2) k3 T' rfl X'
    exact ⟨t2, st t2 a1, b1⟩
  · obtain ⟨k1, k2, k3⟩ := vx_keep h0 e1 hS hA hf hL hF
    obtain ⟨t2, a1, b1⟩ := kx E ce q T'.heap (locs ++ L) (by rw [e1]; exact hp) k1 (hn k2) k3 (by rw [e1]; exact hce) hcv hcl T' rfl X'
    exact ⟨t2, st.trans a1, b1⟩
/-! ===== ends ===== -/
variable {post : Option Value → Heap → Prop} {XC : String → State → State → Prop} {mc ms : Nat}
theorem g_iret (hx : p.tables.exec = Jvm.exec) (hb : c.code = cc) (hr : meth.sig.returnType = some .int) (hlocks : meth.locks = false) (hS : va_S (AR Rg s.heap.size) s.heap H locs) {v : Int32} (hm : cells ≤ mc ∧ slots ≤ ms) (hp : post (some (.int v)) H) (hdg : decode cc pc = .ok (.ireturn, 1)) :
    W p l e R s m args below meth c H locs cells slots (vx_MQ below (gQ post (AR Rg s.heap.size)) XC args s mc ms (AR Rg s.heap.size)) (F0 m pc ls [.int v]) :=
  W.widen hm.1 hm.2 (vx_ret (W.iret hx hb hr (fun t ht _ => ⟨⟨_, rfl, by rw [ht]; exact hp⟩, hS.F ht⟩) hS.2.2 hdg hlocks))
theorem g_zret (hx : p.tables.exec = Jvm.exec) (hb : c.code = cc) (hr : meth.sig.returnType = some .boolean) (hlocks : meth.locks = false) (hS : va_S (AR Rg s.heap.size) s.heap H locs) {v : Int32} (hv : narrow .boolean (.int v) = .int v) (hm : cells ≤ mc ∧ slots ≤ ms) (hp : post (some (.int v)) H) (hdg : decode cc pc = .ok (.ireturn, 1)) :
    W p l e R s m args below meth c H locs cells slots (vx_MQ below (gQ post (AR Rg s.heap.size)) XC args s mc ms (AR Rg s.heap.size)) (F0 m pc ls [.int v]) :=
  W.widen hm.1 hm.2 (vx_ret (W.zret hx hb hr hv (fun t ht _ => ⟨⟨_, rfl, by rw [ht]; exact hp⟩, hS.F ht⟩) hS.2.2 hdg hlocks))
theorem g_lret (hx : p.tables.exec = Jvm.exec) (hb : c.code = cc) (hr : meth.sig.returnType = some .long) (hlocks : meth.locks = false) (hS : va_S (AR Rg s.heap.size) s.heap H locs) {v : Int64} (hm : cells ≤ mc ∧ slots ≤ ms) (hp : post (some (.long v)) H) (hdg : decode cc pc = .ok (.lreturn, 1)) :
    W p l e R s m args below meth c H locs cells slots (vx_MQ below (gQ post (AR Rg s.heap.size)) XC args s mc ms (AR Rg s.heap.size)) (F0 m pc ls [.long v]) :=
  W.widen hm.1 hm.2 (vx_ret (W.lret hx hb hr (fun t ht _ => ⟨⟨_, rfl, by rw [ht]; exact hp⟩, hS.F ht⟩) hS.2.2 hdg hlocks))
theorem g_vret (hx : p.tables.exec = Jvm.exec) (hb : c.code = cc) (hr : meth.sig.returnType = none) (hlocks : meth.locks = false) (hS : va_S (AR Rg s.heap.size) s.heap H locs) (hm : cells ≤ mc ∧ slots ≤ ms) (hp : post none H) (hdg : decode cc pc = .ok (.return_, 1)) :
    W p l e R s m args below meth c H locs cells slots (vx_MQ below (gQ post (AR Rg s.heap.size)) XC args s mc ms (AR Rg s.heap.size)) (F0 m pc ls []) :=
  W.widen hm.1 hm.2 (vx_ret (W.vret hx hb hr (fun t ht _ => ⟨⟨_, rfl, by rw [ht]; exact hp⟩, hS.F ht⟩) hS.2.2 hdg hlocks))
theorem g_aret (hx : p.tables.exec = Jvm.exec) (hb : c.code = cc) {C : String} (hr : meth.sig.returnType = some (.object C)) (hlocks : meth.locks = false) (hS : va_S (AR Rg s.heap.size) s.heap H locs) {a : Nat} (hm : cells ≤ mc ∧ slots ≤ ms) (hp : post (some (.ref a)) H) (hdg : decode cc pc = .ok (.areturn, 1)) :
    W p l e R s m args below meth c H locs cells slots (vx_MQ below (gQ post (AR Rg s.heap.size)) XC args s mc ms (AR Rg s.heap.size)) (F0 m pc ls [.ref a]) :=
  W.widen hm.1 hm.2 (vx_ret (W.aret hx hb hr (Or.inl ⟨C, rfl⟩) (Or.inr ⟨a, rfl⟩) (fun t ht _ => ⟨⟨_, rfl, by rw [ht]; exact hp⟩, hS.F ht⟩) hS.2.2 hdg hlocks))
/-- an exception of a callee's goes on to the caller -/
theorem g_out {Qc : Array Value → State → Outcome → State → Prop} {xp : String → Heap → Prop} {E : String} {ce : Cell} {q9 : Addr} (ht : ∀ x ∈ c.exceptionTable.toList, False) (hlocks : meth.locks = false) (hS : va_S (AR Rg s.heap.size) s.heap H locs) (hce : H[q9]? = some ce) (hv : ce.vm = .none) (hcl : s.vm.findClass E = some ce.cls) (hm : cells ≤ mc ∧ slots ≤ ms) (hp : xp E H) :
    vx_W p l e R s m args below meth c H locs cells slots (vx_MQ below Qc (gX xp (AR Rg s.heap.size)) args s mc ms (AR Rg s.heap.size)) (F0 m pc ls rest) q9 :=
  vx_out (fun x hx => (ht x hx).elim) hlocks hce hv hcl (fun t ht' _ => ⟨by rw [ht']; exact hp, hS.F ht'⟩) hS.2.2 hm.1 hm.2
def gnl (cls : String) : List Cond := [.castable cls cls, .declares ⟨"java/lang/RuntimeException", "<init>", "(Ljava/lang/String;)V"⟩, .declares ⟨"java/lang/Exception", "<init>", "(Ljava/lang/String;)V"⟩, .declares ⟨"java/lang/Throwable", "<init>", "(Ljava/lang/String;)V"⟩]
def nm2 : List String := ["java/lang/RuntimeException", "java/lang/Exception"]
/-- 'throw new E("text")' in BellStreet -/
theorem g_throw {Qc : Array Value → State → Outcome → State → Prop} {xp : String → Heap → Prop} (hx : p.tables.exec = Jvm.exec) (hb : c.code = cc) (hl : l.stackTraces = false) {cls text : String} {ik is ic : Nat} {Ts : List Cond} (hts : ∀ w ∈ Ts, w.before args s = true) (hown : s.vm.findClass RX4 = some m.cls) (hG : GE D ks bx s) (hcls : Bundle.fit cls = true) (hst : (is, text) ∈ gst) (hk : Cond.classLink RX4 ik cls ∈ Ts) (hini : Cond.initialized cls ∈ Ts)
    (hgw : ∀ w ∈ (vx_atS RX4 ic cls nm2).filter goodWord, w ∈ Ts) (hng : ∀ w ∈ (vx_atS RX4 ic cls nm2).filter (fun w => !goodWord w), w ∈ gnl cls) (hca : Cond.castable cls cls ∈ gwl) (hgood : ∀ w ∈ Cond.classLink RX4 ik cls :: Cond.initialized cls :: vx_atS RX4 ic cls nm2, vx_ot w = true)
    (hS : va_S (AR Rg s.heap.size) s.heap H locs) (hRb : ∀ q, Rg q → bx ≤ q) (hbx : bx ≤ s.heap.size) (hsize : ls.size = c.maxLocals)
    (d0 : decode cc pc = .ok (.new ik, 3)) (d3 : decode cc (pc + 3) = .ok (.dup, 1)) (d4 : decode cc (pc + 4) = .ok (.ldc is, 2)) (d6 : decode cc (pc + 6) = .ok (.invokespecial ic, 3)) (d9 : decode cc (pc + 9) = .ok (.athrow, 1)) (ht : ∀ x ∈ c.exceptionTable.toList, False)
    (hR : 5 < R.frames ∧ (rest.map fun v => v.category).sum + 82 ≤ R.locals ∧ cells + 1 ≤ R.cells ∧ slots + 6 ≤ R.slots) (hlocks : meth.locks = false) (hm : cells + 1 ≤ mc ∧ slots + 6 ≤ ms)
    (hxp : ∀ H1 : Heap, H.size ≤ H1.size → (∀ q : Nat, q < H.size → H1[q]? = H[q]?) → xp cls H1) :
    W p l e R s m args below meth c H locs cells slots (vx_MQ below Qc (gX xp (AR Rg s.heap.size)) args s mc ms (AR Rg s.heap.size)) (F0 m pc ls rest) := by
  obtain ⟨g1, g2, g3, g4, g5, g6, g7⟩ := hG
  obtain ⟨sa, hsa⟩ := g5 _ hst
  have hAb : ∀ q, AR Rg s.heap.size q → bx ≤ q := fun q h => h.elim (hRb q) (fun r => Nat.le_trans hbx r)
  refine vx_throwS (A := AR Rg s.heap.size) (names := nm2) (sa := sa) (text := text) hx hb hl hown hcls (by decide +kernel) (hts _ hk) (hts _ hini) hsa (vx_hat (B := gnl cls) (fun w hw => hts w (hgw w hw)) hng (vx_c (va_Nw.use rfl (g2 _ hca)) (vx_c (va_Nw.use rfl (g2 _ (List.mem_of_getElem? (i := 31) rfl))) (vx_c (va_Nw.use rfl (g2 _ (List.mem_of_getElem? (i := 32) rfl))) (vx_c (va_Nw.use rfl (g2 _ (List.mem_of_getElem? (i := 33) rfl))) vx_n))))) hgood (g6.narrow hAb) (g7.narrow hAb) hS hsize d0 d3 d4 d6 d9 (fun x hx' => (ht x hx').elim) hR.1 (by simpa [nm2] using hR.2.1) hR.2.2.1 hR.2.2.2 hlocks (fun t _ hz hk' => ?_) hS.2.2 hm.1 hm.2
  exact ⟨hxp t.heap hz hk', Nat.le_trans hS.1 hz, fun q h1 h2 => (hk' q (Nat.lt_of_lt_of_le h1 hS.1)).trans (hS.2.1 q h1 h2)⟩
end GR
theorem thr_ng0 : ∀ w ∈ (vx_atS RX4 76 "java/lang/IndexOutOfBoundsException" nm2).filter (fun w => !goodWord w), w ∈ gnl "java/lang/IndexOutOfBoundsException" := by decide +kernel
theorem thr_ng1 : ∀ w ∈ (vx_atS RX4 52 "java/lang/IllegalArgumentException" nm2).filter (fun w => !goodWord w), w ∈ gnl "java/lang/IllegalArgumentException" := by decide +kernel
theorem thr_ng2 : ∀ w ∈ (vx_atS RX4 61 "java/lang/IllegalStateException" nm2).filter (fun w => !goodWord w), w ∈ gnl "java/lang/IllegalStateException" := by decide +kernel
theorem thr_go0 : ∀ w ∈ Cond.classLink RX4 72 "java/lang/IndexOutOfBoundsException" :: Cond.initialized "java/lang/IndexOutOfBoundsException" :: vx_atS RX4 76 "java/lang/IndexOutOfBoundsException" nm2, vx_ot w = true := by decide +kernel
theorem thr_go1 : ∀ w ∈ Cond.classLink RX4 48 "java/lang/IllegalArgumentException" :: Cond.initialized "java/lang/IllegalArgumentException" :: vx_atS RX4 52 "java/lang/IllegalArgumentException" nm2, vx_ot w = true := by decide +kernel
theorem thr_go2 : ∀ w ∈ Cond.classLink RX4 57 "java/lang/IllegalStateException" :: Cond.initialized "java/lang/IllegalStateException" :: vx_atS RX4 61 "java/lang/IllegalStateException" nm2, vx_ot w = true := by decide +kernel
