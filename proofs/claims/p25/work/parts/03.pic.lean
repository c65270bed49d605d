/-! MY PICTURES. The class: one object at bx, its rows and parts at bx + 1 .. bx + 54, melodies further up. X f i: what a field holds, as an integer:
 4 melodyCount, 5 faultCount, 6 now; 7 toldFaults; 14 .. 22 a house's sound, quietFrom, quietTo, score, rungSeconds, rungQuietSeconds, hushedPresses, faultsOfTheDay, keptQuietToday; 23 rights (12 h + m);
 30 .. 33 a bell's melody (-1: none), load, isRinging, stopsAt (3 h + b); 34, 35 a crew's goal (-1: none), doneAt; 36, 37, 38 a melody's owner, count, tones. -/
def mo (ml : Nat → Nat) (z : Int) : Option Nat := if z < 0 then none else some (ml z.toNat)
def go (bx : Nat) (z : Int) : Option Nat := if z < 0 then none else some (bx + 5 + 6 * z.toNat)
def xF (bx : Nat) (X : Nat → Nat → Int) : List Value := [.ref (bx + 1), .ref (bx + 2), .ref (bx + 3), .ref (bx + 4), .int (z2 (X 4 0)), .int (z2 (X 5 0)), .int (z2 (X 6 0))]
def hF (bx : Nat) (X : Nat → Nat → Int) (h : Nat) : List Value := [.int (z2 (h : Nat)), .int (z2 (h / 4 : Nat)), .ref (bx + 5 + 6 * h + 1), .ref (bx + 5 + 6 * h + 2), .int (z2 (X 14 h)), .int (z2 (X 15 h)), .int (z2 (X 16 h)), .int (z2 (X 17 h)), .int (z2 (X 18 h)), .int (z2 (X 19 h)), .int (z2 (X 20 h)), .int (z2 (X 21 h)), .int (z2 (X 22 h))]
def bF (ml : Nat → Nat) (X : Nat → Nat → Int) (i : Nat) : List Value := [va_rf (mo ml (X 30 i)), .int (z2 (X 31 i)), .int (z2 (X 32 i)), .int (z2 (X 33 i))]
def cF (bx : Nat) (X : Nat → Nat → Int) (s : Nat) : List Value := [va_rf (go bx (X 34 s)), .int (z2 (X 35 s))]
def mF (X : Nat → Nat → Int) (k : Nat) : List Value := [.int (z2 (k : Nat)), .int (z2 (X 36 k)), .int (z2 (X 37 k)), .long (l2 (X 38 k))]
abbrev qA (k : ClassId) (n : Nat) (f : Nat → Option Nat) : va_E := .inl (k, n, .inr (.inr (.inr (.inr f))))
abbrev iA (k : ClassId) (n : Nat) (f : Nat → Int32) : va_E := .inl (k, n, .inl f)
abbrev jA (k : ClassId) (n : Nat) (f : Nat → Int64) : va_E := .inl (k, n, .inr (.inl f))
def PX (D : va_G) (ks : Nat → ClassId) (bx : Nat) (ml : Nat → Nat) (X : Nat → Nat → Int) (H : Heap) : Prop :=
  ca D bx (.inr (4, xF bx X)) H ∧
  ca D (bx + 1) (qA (ks 4) 8 (fun i => some (bx + 5 + 6 * i))) H ∧
  ca D (bx + 2) (qA (ks 3) 2 (fun i => some (bx + 53 + i))) H ∧
  ca D (bx + 3) (qA (ks 5) 12 (fun i => if (i : Int) < X 4 0 then some (ml i) else none)) H ∧
  ca D (bx + 4) (iA (ks 0) 100 (fun i => z2 (X 7 i))) H ∧
  (∀ h : Nat, h < 8 → ca D (bx + 5 + 6 * h) (.inr (2, hF bx X h)) H ∧ ca D (bx + 5 + 6 * h + 1) (qA (ks 2) 3 (fun b => some (bx + 5 + 6 * h + 3 + b))) H ∧ ca D (bx + 5 + 6 * h + 2) (iA (ks 0) 12 (fun m => z2 (X 23 (12 * h + m)))) H) ∧
  (∀ h b : Nat, h < 8 → b < 3 → ca D (bx + 5 + 6 * h + 3 + b) (.inr (0, bF ml X (3 * h + b))) H) ∧
  (∀ s : Nat, s < 2 → ca D (bx + 53 + s) (.inr (1, cF bx X s)) H) ∧
  (∀ k : Nat, (k : Int) < X 4 0 → ca D (ml k) (.inr (3, mF X k)) H ∧ bx + 55 ≤ ml k)
theorem arrV_cong (k : ClassId) (n : Nat) {f g : Nat → Value} (h : ∀ j, j < n → f j = g j) : arrV k n f = arrV k n g := by
  have e : (Array.ofFn (n := n) fun j => f j.val) = Array.ofFn (n := n) fun j => g j.val := congrArg Array.ofFn (funext fun j => h j.val j.isLt)
  unfold arrV
  rw [e]
theorem ia_cong {D : va_G} {H : Heap} {a : Nat} {k : ClassId} {n : Nat} {f g : Nat → Int32} (h : va_at D vwCl (a, .inl (k, n, .inl f)) H) (hfg : ∀ j, j < n → g j = f j) : va_at D vwCl (a, .inl (k, n, .inl g)) H := by
  have e : vp_cell k (n, .inl g) = vp_cell k (n, .inl f) := arrV_cong k n (fun j hj => congrArg Value.int (hfg j hj))
  exact (show H[a]? = some (vp_cell k (n, .inl f)) from h).trans (congrArg some e.symm)
theorem qa_cong {D : va_G} {H : Heap} {a : Nat} {k : ClassId} {n : Nat} {f g : Nat → Option Nat} (h : va_at D vwCl (a, .inl (k, n, .inr (.inr (.inr (.inr f))))) H) (hfg : ∀ j, j < n → g j = f j) : va_at D vwCl (a, .inl (k, n, .inr (.inr (.inr (.inr g))))) H := by
  have e : vp_cell k (n, .inr (.inr (.inr (.inr g)))) = vp_cell k (n, .inr (.inr (.inr (.inr f)))) := arrV_cong k n (fun j hj => congrArg va_rf (hfg j hj))
  exact (show H[a]? = some (vp_cell k (n, .inr (.inr (.inr (.inr f))))) from h).trans (congrArg some e.symm)
section PXs
variable {D : va_G} {ks : Nat → ClassId} {bx : Nat} {ml : Nat → Nat} {X : Nat → Nat → Int} {H H1 : Heap}
theorem PX.keep (h : PX D ks bx ml X H) (hk : ∀ q : Nat, q < H.size → q < bx + 55 ∨ bx + 55 ≤ q → H1[q]? = H[q]?) : PX D ks bx ml X H1 := by
  obtain ⟨p1, p2, p3, p4, p5, p6, p7, p8, p9⟩ := h
  have go : ∀ {a : Nat} {x : va_E}, ca D a x H → a < bx + 55 ∨ bx + 55 ≤ a → ca D a x H1 := fun hc ha => hc.kept (hk _ hc.lt ha)
  exact ⟨go p1 (by omega), go p2 (by omega), go p3 (by omega), go p4 (by omega), go p5 (by omega), fun h hh => ⟨go (p6 h hh).1 (by omega), go (p6 h hh).2.1 (by omega), go (p6 h hh).2.2 (by omega)⟩, fun h b hh hb => go (p7 h b hh hb) (by omega), fun s hs => go (p8 s hs) (by omega), fun k hk' => ⟨go (p9 k hk').1 (Or.inr (p9 k hk').2), (p9 k hk').2⟩⟩
theorem PX.house (h : PX D ks bx ml X H) {i k : Nat} (hi : i < 8) (hk : 4 ≤ k ∧ k ≤ 12) {v : Int} (e : ca D (bx + 5 + 6 * i) (.inr (2, (hF bx X i).set k (.int (z2 v)))) H1) (oq : ∀ q : Nat, q ≠ bx + 5 + 6 * i → H1[q]? = H[q]?) : PX D ks bx ml (up X (10 + k) i v) H1 := by
  obtain ⟨p1, p2, p3, p4, p5, p6, p7, p8, p9⟩ := h
  have ne : ∀ f j : Nat, f ≠ 10 + k → up X (10 + k) i v f j = X f j := fun f j hf => up_f X i j v hf
  refine ⟨?_, p2.kept (oq _ (by omega)), p3.kept (oq _ (by omega)), ?_, ?_, fun h hh => ⟨?_, (p6 h hh).2.1.kept (oq _ (by omega)), ?_⟩, fun h b hh hb => ?_, fun s hs => ?_, fun k' hk' => ?_⟩
  · have := p1.kept (oq _ (by omega))
    simpa only [xF, ne 4 0 (by omega), ne 5 0 (by omega), ne 6 0 (by omega)] using this
  · have := p4.kept (oq _ (by omega))
    simpa only [ne 4 0 (by omega)] using this
  · have := p5.kept (oq _ (by omega))
    simpa only [ne 7 _ (by omega)] using this
  · by_cases hhi : h = i
    · subst hhi
      have hs : (hF bx X h).set k (.int (z2 v)) = hF bx (up X (10 + k) h v) h := by
        obtain ⟨k1, k2⟩ := hk
        have hc : k = 4 ∨ k = 5 ∨ k = 6 ∨ k = 7 ∨ k = 8 ∨ k = 9 ∨ k = 10 ∨ k = 11 ∨ k = 12 := by omega
        rcases hc with rfl | rfl | rfl | rfl | rfl | rfl | rfl | rfl | rfl <;> simp [hF, up]
      rw [← hs]
      exact e
    · have := (p6 h hh).1.kept (oq _ (by omega))
      have hs : hF bx (up X (10 + k) i v) h = hF bx X h := by
        simp only [hF, up_i X (10 + k) _ v hhi]
      rw [hs]
      exact this
  · have := (p6 h hh).2.2.kept (oq _ (by omega))
    simpa only [ne 23 _ (by omega)] using this
  · have := (p7 h b hh hb).kept (oq _ (by omega))
    simpa only [bF, ne 30 _ (by omega), ne 31 _ (by omega), ne 32 _ (by omega), ne 33 _ (by omega)] using this
  · have := (p8 s hs).kept (oq _ (by omega))
    simpa only [cF, ne 34 _ (by omega), ne 35 _ (by omega)] using this
  · rw [ne 4 0 (by omega)] at hk'
    obtain ⟨q1, q2⟩ := p9 k' hk'
    have := q1.kept (oq _ (by omega))
    exact ⟨by simpa only [mF, ne 36 _ (by omega), ne 37 _ (by omega), ne 38 _ (by omega)] using this, q2⟩
theorem PX.right (h : PX D ks bx ml X H) {i j : Nat} (hi : i < 8) (hj : j < 12) {v : Int} (e : ca D (bx + 5 + 6 * i + 2) (iA (ks 0) 12 (upd (fun m => z2 (X 23 (12 * i + m))) j (z2 v))) H1) (oq : ∀ q : Nat, q ≠ bx + 5 + 6 * i + 2 → H1[q]? = H[q]?) : PX D ks bx ml (up X 23 (12 * i + j) v) H1 := by
  obtain ⟨p1, p2, p3, p4, p5, p6, p7, p8, p9⟩ := h
  have ne : ∀ f j' : Nat, f ≠ 23 → up X 23 (12 * i + j) v f j' = X f j' := fun f j' hf => up_f X _ j' v hf
  refine ⟨?_, p2.kept (oq _ (by omega)), p3.kept (oq _ (by omega)), ?_, ?_, fun h hh => ⟨?_, (p6 h hh).2.1.kept (oq _ (by omega)), ?_⟩, fun h b hh hb => ?_, fun s hs => ?_, fun k' hk' => ?_⟩
  · have := p1.kept (oq _ (by omega))
    simpa only [xF, ne 4 0 (by omega), ne 5 0 (by omega), ne 6 0 (by omega)] using this
  · have := p4.kept (oq _ (by omega))
    simpa only [ne 4 0 (by omega)] using this
  · have := p5.kept (oq _ (by omega))
    simpa only [ne 7 _ (by omega)] using this
  · have := (p6 h hh).1.kept (oq _ (by omega))
    simpa only [hF, ne 14 _ (by omega), ne 15 _ (by omega), ne 16 _ (by omega), ne 17 _ (by omega), ne 18 _ (by omega), ne 19 _ (by omega), ne 20 _ (by omega), ne 21 _ (by omega), ne 22 _ (by omega)] using this
  · by_cases hhi : h = i
    · subst hhi
      have hs : (fun m => z2 (up X 23 (12 * h + j) v 23 (12 * h + m))) = upd (fun m => z2 (X 23 (12 * h + m))) j (z2 v) := by
        funext m
        unfold upd
        by_cases hm : m = j
        · subst hm
          rw [up_s, if_pos rfl]
        · rw [up_i X 23 23 v (by omega), if_neg hm]
      rw [hs]
      exact e
    · have := (p6 h hh).2.2.kept (oq _ (by omega))
      have hs : ∀ m : Nat, m < 12 → up X 23 (12 * i + j) v 23 (12 * h + m) = X 23 (12 * h + m) := fun m hm => up_i X 23 23 v (by omega)
      exact ia_cong this fun m hm => by rw [hs m hm]
  · have := (p7 h b hh hb).kept (oq _ (by omega))
    simpa only [bF, ne 30 _ (by omega), ne 31 _ (by omega), ne 32 _ (by omega), ne 33 _ (by omega)] using this
  · have := (p8 s hs).kept (oq _ (by omega))
    simpa only [cF, ne 34 _ (by omega), ne 35 _ (by omega)] using this
  · rw [ne 4 0 (by omega)] at hk'
    obtain ⟨q1, q2⟩ := p9 k' hk'
    have := q1.kept (oq _ (by omega))
    exact ⟨by simpa only [mF, ne 36 _ (by omega), ne 37 _ (by omega), ne 38 _ (by omega)] using this, q2⟩
theorem PX.bell (h : PX D ks bx ml X H) {i j k : Nat} (hi : i < 8) (hj : j < 3) (hk : 1 ≤ k ∧ k ≤ 3) {v : Int} (e : ca D (bx + 5 + 6 * i + 3 + j) (.inr (0, (bF ml X (3 * i + j)).set k (.int (z2 v)))) H1) (oq : ∀ q : Nat, q ≠ bx + 5 + 6 * i + 3 + j → H1[q]? = H[q]?) : PX D ks bx ml (up X (30 + k) (3 * i + j) v) H1 := by
  obtain ⟨p1, p2, p3, p4, p5, p6, p7, p8, p9⟩ := h
  have ne : ∀ f j' : Nat, f ≠ 30 + k → up X (30 + k) (3 * i + j) v f j' = X f j' := fun f j' hf => up_f X _ j' v hf
  refine ⟨?_, p2.kept (oq _ (by omega)), p3.kept (oq _ (by omega)), ?_, ?_, fun h hh => ⟨?_, (p6 h hh).2.1.kept (oq _ (by omega)), ?_⟩, fun h b hh hb => ?_, fun s hs => ?_, fun k' hk' => ?_⟩
  · have := p1.kept (oq _ (by omega))
    simpa only [xF, ne 4 0 (by omega), ne 5 0 (by omega), ne 6 0 (by omega)] using this
  · have := p4.kept (oq _ (by omega))
    simpa only [ne 4 0 (by omega)] using this
  · have := p5.kept (oq _ (by omega))
    simpa only [ne 7 _ (by omega)] using this
  · have := (p6 h hh).1.kept (oq _ (by omega))
    simpa only [hF, ne 14 _ (by omega), ne 15 _ (by omega), ne 16 _ (by omega), ne 17 _ (by omega), ne 18 _ (by omega), ne 19 _ (by omega), ne 20 _ (by omega), ne 21 _ (by omega), ne 22 _ (by omega)] using this
  · have := (p6 h hh).2.2.kept (oq _ (by omega))
    simpa only [ne 23 _ (by omega)] using this
  · by_cases hhi : h = i ∧ b = j
    · obtain ⟨rfl, rfl⟩ := hhi
      have hs : (bF ml X (3 * h + b)).set k (.int (z2 v)) = bF ml (up X (30 + k) (3 * h + b) v) (3 * h + b) := by
        obtain ⟨k1, k2⟩ := hk
        have hc : k = 1 ∨ k = 2 ∨ k = 3 := by omega
        rcases hc with rfl | rfl | rfl <;> simp [bF, up]
      rw [← hs]
      exact e
    · have hn : 3 * h + b ≠ 3 * i + j := by omega
      have := (p7 h b hh hb).kept (oq _ (by omega))
      have hs : bF ml (up X (30 + k) (3 * i + j) v) (3 * h + b) = bF ml X (3 * h + b) := by
        simp only [bF, up_i X (30 + k) _ v hn]
      rw [hs]
      exact this
  · have := (p8 s hs).kept (oq _ (by omega))
    simpa only [cF, ne 34 _ (by omega), ne 35 _ (by omega)] using this
  · rw [ne 4 0 (by omega)] at hk'
    obtain ⟨q1, q2⟩ := p9 k' hk'
    have := q1.kept (oq _ (by omega))
    exact ⟨by simpa only [mF, ne 36 _ (by omega), ne 37 _ (by omega), ne 38 _ (by omega)] using this, q2⟩
theorem PX.bellM (h : PX D ks bx ml X H) {i j : Nat} (hi : i < 8) (hj : j < 3) {v : Int} (e : ca D (bx + 5 + 6 * i + 3 + j) (.inr (0, (bF ml X (3 * i + j)).set 0 (va_rf (mo ml v)))) H1) (oq : ∀ q : Nat, q ≠ bx + 5 + 6 * i + 3 + j → H1[q]? = H[q]?) : PX D ks bx ml (up X 30 (3 * i + j) v) H1 := by
  obtain ⟨p1, p2, p3, p4, p5, p6, p7, p8, p9⟩ := h
  have ne : ∀ f j' : Nat, f ≠ 30 → up X (30) (3 * i + j) v f j' = X f j' := fun f j' hf => up_f X _ j' v hf
  refine ⟨?_, p2.kept (oq _ (by omega)), p3.kept (oq _ (by omega)), ?_, ?_, fun h hh => ⟨?_, (p6 h hh).2.1.kept (oq _ (by omega)), ?_⟩, fun h b hh hb => ?_, fun s hs => ?_, fun k' hk' => ?_⟩
  · have := p1.kept (oq _ (by omega))
    simpa only [xF, ne 4 0 (by omega), ne 5 0 (by omega), ne 6 0 (by omega)] using this
  · have := p4.kept (oq _ (by omega))
    simpa only [ne 4 0 (by omega)] using this
  · have := p5.kept (oq _ (by omega))
    simpa only [ne 7 _ (by omega)] using this
  · have := (p6 h hh).1.kept (oq _ (by omega))
    simpa only [hF, ne 14 _ (by omega), ne 15 _ (by omega), ne 16 _ (by omega), ne 17 _ (by omega), ne 18 _ (by omega), ne 19 _ (by omega), ne 20 _ (by omega), ne 21 _ (by omega), ne 22 _ (by omega)] using this
  · have := (p6 h hh).2.2.kept (oq _ (by omega))
    simpa only [ne 23 _ (by omega)] using this
  · by_cases hhi : h = i ∧ b = j
    · obtain ⟨rfl, rfl⟩ := hhi
      have hs : (bF ml X (3 * h + b)).set 0 (va_rf (mo ml v)) = bF ml (up X 30 (3 * h + b) v) (3 * h + b) := by simp [bF, up]
      rw [← hs]
      exact e
    · have hn : 3 * h + b ≠ 3 * i + j := by omega
      have := (p7 h b hh hb).kept (oq _ (by omega))
      have hs : bF ml (up X 30 (3 * i + j) v) (3 * h + b) = bF ml X (3 * h + b) := by
        simp only [bF, up_i X 30 _ v hn]
      rw [hs]
      exact this
  · have := (p8 s hs).kept (oq _ (by omega))
    simpa only [cF, ne 34 _ (by omega), ne 35 _ (by omega)] using this
  · rw [ne 4 0 (by omega)] at hk'
    obtain ⟨q1, q2⟩ := p9 k' hk'
    have := q1.kept (oq _ (by omega))
    exact ⟨by simpa only [mF, ne 36 _ (by omega), ne 37 _ (by omega), ne 38 _ (by omega)] using this, q2⟩
theorem PX.goal (h : PX D ks bx ml X H) {i : Nat} (hi : i < 2) {v : Int} (e : ca D (bx + 53 + i) (.inr (1, (cF bx X i).set 0 (va_rf (go bx v)))) H1) (oq : ∀ q : Nat, q ≠ bx + 53 + i → H1[q]? = H[q]?) : PX D ks bx ml (up X 34 i v) H1 := by
  obtain ⟨p1, p2, p3, p4, p5, p6, p7, p8, p9⟩ := h
  have ne : ∀ f j' : Nat, f ≠ 34 → up X (34) (i) v f j' = X f j' := fun f j' hf => up_f X _ j' v hf
  refine ⟨?_, p2.kept (oq _ (by omega)), p3.kept (oq _ (by omega)), ?_, ?_, fun h hh => ⟨?_, (p6 h hh).2.1.kept (oq _ (by omega)), ?_⟩, fun h b hh hb => ?_, fun s hs => ?_, fun k' hk' => ?_⟩
  · have := p1.kept (oq _ (by omega))
    simpa only [xF, ne 4 0 (by omega), ne 5 0 (by omega), ne 6 0 (by omega)] using this
  · have := p4.kept (oq _ (by omega))
    simpa only [ne 4 0 (by omega)] using this
  · have := p5.kept (oq _ (by omega))
    simpa only [ne 7 _ (by omega)] using this
  · have := (p6 h hh).1.kept (oq _ (by omega))
    simpa only [hF, ne 14 _ (by omega), ne 15 _ (by omega), ne 16 _ (by omega), ne 17 _ (by omega), ne 18 _ (by omega), ne 19 _ (by omega), ne 20 _ (by omega), ne 21 _ (by omega), ne 22 _ (by omega)] using this
  · have := (p6 h hh).2.2.kept (oq _ (by omega))
    simpa only [ne 23 _ (by omega)] using this
  · have := (p7 h b hh hb).kept (oq _ (by omega))
    simpa only [bF, ne 30 _ (by omega), ne 31 _ (by omega), ne 32 _ (by omega), ne 33 _ (by omega)] using this
  · by_cases hhi : s = i
    · subst hhi
      have hs' : (cF bx X s).set 0 (va_rf (go bx v)) = cF bx (up X 34 s v) s := by simp [cF, up]
      rw [← hs']
      exact e
    · have := (p8 s hs).kept (oq _ (by omega))
      have hs' : cF bx (up X 34 i v) s = cF bx X s := by simp only [cF, up_i X 34 _ v hhi]
      rw [hs']
      exact this
  · rw [ne 4 0 (by omega)] at hk'
    obtain ⟨q1, q2⟩ := p9 k' hk'
    have := q1.kept (oq _ (by omega))
    exact ⟨by simpa only [mF, ne 36 _ (by omega), ne 37 _ (by omega), ne 38 _ (by omega)] using this, q2⟩
theorem PX.doneAt (h : PX D ks bx ml X H) {i : Nat} (hi : i < 2) {v : Int} (e : ca D (bx + 53 + i) (.inr (1, (cF bx X i).set 1 (.int (z2 v)))) H1) (oq : ∀ q : Nat, q ≠ bx + 53 + i → H1[q]? = H[q]?) : PX D ks bx ml (up X 35 i v) H1 := by
  obtain ⟨p1, p2, p3, p4, p5, p6, p7, p8, p9⟩ := h
  have ne : ∀ f j' : Nat, f ≠ 35 → up X (35) (i) v f j' = X f j' := fun f j' hf => up_f X _ j' v hf
  refine ⟨?_, p2.kept (oq _ (by omega)), p3.kept (oq _ (by omega)), ?_, ?_, fun h hh => ⟨?_, (p6 h hh).2.1.kept (oq _ (by omega)), ?_⟩, fun h b hh hb => ?_, fun s hs => ?_, fun k' hk' => ?_⟩
  · have := p1.kept (oq _ (by omega))
    simpa only [xF, ne 4 0 (by omega), ne 5 0 (by omega), ne 6 0 (by omega)] using this
  · have := p4.kept (oq _ (by omega))
    simpa only [ne 4 0 (by omega)] using this
  · have := p5.kept (oq _ (by omega))
    simpa only [ne 7 _ (by omega)] using this
  · have := (p6 h hh).1.kept (oq _ (by omega))
    simpa only [hF, ne 14 _ (by omega), ne 15 _ (by omega), ne 16 _ (by omega), ne 17 _ (by omega), ne 18 _ (by omega), ne 19 _ (by omega), ne 20 _ (by omega), ne 21 _ (by omega), ne 22 _ (by omega)] using this
  · have := (p6 h hh).2.2.kept (oq _ (by omega))
    simpa only [ne 23 _ (by omega)] using this
  · have := (p7 h b hh hb).kept (oq _ (by omega))
    simpa only [bF, ne 30 _ (by omega), ne 31 _ (by omega), ne 32 _ (by omega), ne 33 _ (by omega)] using this
  · by_cases hhi : s = i
    · subst hhi
      have hs' : (cF bx X s).set 1 (.int (z2 v)) = cF bx (up X 35 s v) s := by simp [cF, up]
      rw [← hs']
      exact e
    · have := (p8 s hs).kept (oq _ (by omega))
      have hs' : cF bx (up X 35 i v) s = cF bx X s := by simp only [cF, up_i X 35 _ v hhi]
      rw [hs']
      exact this
  · rw [ne 4 0 (by omega)] at hk'
    obtain ⟨q1, q2⟩ := p9 k' hk'
    have := q1.kept (oq _ (by omega))
    exact ⟨by simpa only [mF, ne 36 _ (by omega), ne 37 _ (by omega), ne 38 _ (by omega)] using this, q2⟩
theorem PX.own5 (h : PX D ks bx ml X H) {v : Int} (e : ca D bx (.inr (4, (xF bx X).set 5 (.int (z2 v)))) H1) (oq : ∀ q : Nat, q ≠ bx → H1[q]? = H[q]?) : PX D ks bx ml (up X 5 0 v) H1 := by
  obtain ⟨p1, p2, p3, p4, p5, p6, p7, p8, p9⟩ := h
  have ne : ∀ f j' : Nat, f ≠ 5 → up X (5) (0) v f j' = X f j' := fun f j' hf => up_f X _ j' v hf
  refine ⟨?_, p2.kept (oq _ (by omega)), p3.kept (oq _ (by omega)), ?_, ?_, fun h hh => ⟨?_, (p6 h hh).2.1.kept (oq _ (by omega)), ?_⟩, fun h b hh hb => ?_, fun s hs => ?_, fun k' hk' => ?_⟩
  · have hs : (xF bx X).set 5 (.int (z2 v)) = xF bx (up X 5 0 v) := by simp [xF, up]
    rw [← hs]
    exact e
  · have := p4.kept (oq _ (by omega))
    simpa only [ne 4 0 (by omega)] using this
  · have := p5.kept (oq _ (by omega))
    simpa only [ne 7 _ (by omega)] using this
  · have := (p6 h hh).1.kept (oq _ (by omega))
    simpa only [hF, ne 14 _ (by omega), ne 15 _ (by omega), ne 16 _ (by omega), ne 17 _ (by omega), ne 18 _ (by omega), ne 19 _ (by omega), ne 20 _ (by omega), ne 21 _ (by omega), ne 22 _ (by omega)] using this
  · have := (p6 h hh).2.2.kept (oq _ (by omega))
    simpa only [ne 23 _ (by omega)] using this
  · have := (p7 h b hh hb).kept (oq _ (by omega))
    simpa only [bF, ne 30 _ (by omega), ne 31 _ (by omega), ne 32 _ (by omega), ne 33 _ (by omega)] using this
  · have := (p8 s hs).kept (oq _ (by omega))
    simpa only [cF, ne 34 _ (by omega), ne 35 _ (by omega)] using this
  · rw [ne 4 0 (by omega)] at hk'
    obtain ⟨q1, q2⟩ := p9 k' hk'
    have := q1.kept (oq _ (by omega))
    exact ⟨by simpa only [mF, ne 36 _ (by omega), ne 37 _ (by omega), ne 38 _ (by omega)] using this, q2⟩
theorem PX.own6 (h : PX D ks bx ml X H) {v : Int} (e : ca D bx (.inr (4, (xF bx X).set 6 (.int (z2 v)))) H1) (oq : ∀ q : Nat, q ≠ bx → H1[q]? = H[q]?) : PX D ks bx ml (up X 6 0 v) H1 := by
  obtain ⟨p1, p2, p3, p4, p5, p6, p7, p8, p9⟩ := h
  have ne : ∀ f j' : Nat, f ≠ 6 → up X (6) (0) v f j' = X f j' := fun f j' hf => up_f X _ j' v hf
  refine ⟨?_, p2.kept (oq _ (by omega)), p3.kept (oq _ (by omega)), ?_, ?_, fun h hh => ⟨?_, (p6 h hh).2.1.kept (oq _ (by omega)), ?_⟩, fun h b hh hb => ?_, fun s hs => ?_, fun k' hk' => ?_⟩
  · have hs : (xF bx X).set 6 (.int (z2 v)) = xF bx (up X 6 0 v) := by simp [xF, up]
    rw [← hs]
    exact e
  · have := p4.kept (oq _ (by omega))
    simpa only [ne 4 0 (by omega)] using this
  · have := p5.kept (oq _ (by omega))
    simpa only [ne 7 _ (by omega)] using this
  · have := (p6 h hh).1.kept (oq _ (by omega))
    simpa only [hF, ne 14 _ (by omega), ne 15 _ (by omega), ne 16 _ (by omega), ne 17 _ (by omega), ne 18 _ (by omega), ne 19 _ (by omega), ne 20 _ (by omega), ne 21 _ (by omega), ne 22 _ (by omega)] using this
  · have := (p6 h hh).2.2.kept (oq _ (by omega))
    simpa only [ne 23 _ (by omega)] using this
  · have := (p7 h b hh hb).kept (oq _ (by omega))
    simpa only [bF, ne 30 _ (by omega), ne 31 _ (by omega), ne 32 _ (by omega), ne 33 _ (by omega)] using this
  · have := (p8 s hs).kept (oq _ (by omega))
    simpa only [cF, ne 34 _ (by omega), ne 35 _ (by omega)] using this
  · rw [ne 4 0 (by omega)] at hk'
    obtain ⟨q1, q2⟩ := p9 k' hk'
    have := q1.kept (oq _ (by omega))
    exact ⟨by simpa only [mF, ne 36 _ (by omega), ne 37 _ (by omega), ne 38 _ (by omega)] using this, q2⟩
theorem PX.told (h : PX D ks bx ml X H) {i : Nat} {v : Int} (e : ca D (bx + 4) (iA (ks 0) 100 (upd (fun j => z2 (X 7 j)) i (z2 v))) H1) (oq : ∀ q : Nat, q ≠ bx + 4 → H1[q]? = H[q]?) : PX D ks bx ml (up X 7 i v) H1 := by
  obtain ⟨p1, p2, p3, p4, p5, p6, p7, p8, p9⟩ := h
  have ne : ∀ f j' : Nat, f ≠ 7 → up X (7) (i) v f j' = X f j' := fun f j' hf => up_f X _ j' v hf
  refine ⟨?_, p2.kept (oq _ (by omega)), p3.kept (oq _ (by omega)), ?_, ?_, fun h hh => ⟨?_, (p6 h hh).2.1.kept (oq _ (by omega)), ?_⟩, fun h b hh hb => ?_, fun s hs => ?_, fun k' hk' => ?_⟩
  · have := p1.kept (oq _ (by omega))
    simpa only [xF, ne 4 0 (by omega), ne 5 0 (by omega), ne 6 0 (by omega)] using this
  · have := p4.kept (oq _ (by omega))
    simpa only [ne 4 0 (by omega)] using this
  · have hs : (fun j => z2 (up X 7 i v 7 j)) = upd (fun j => z2 (X 7 j)) i (z2 v) := by
      funext m
      unfold upd
      by_cases hm : m = i
      · subst hm
        rw [up_s, if_pos rfl]
      · rw [up_i X 7 7 v hm, if_neg hm]
    rw [hs]
    exact e
  · have := (p6 h hh).1.kept (oq _ (by omega))
    simpa only [hF, ne 14 _ (by omega), ne 15 _ (by omega), ne 16 _ (by omega), ne 17 _ (by omega), ne 18 _ (by omega), ne 19 _ (by omega), ne 20 _ (by omega), ne 21 _ (by omega), ne 22 _ (by omega)] using this
  · have := (p6 h hh).2.2.kept (oq _ (by omega))
    simpa only [ne 23 _ (by omega)] using this
  · have := (p7 h b hh hb).kept (oq _ (by omega))
    simpa only [bF, ne 30 _ (by omega), ne 31 _ (by omega), ne 32 _ (by omega), ne 33 _ (by omega)] using this
  · have := (p8 s hs).kept (oq _ (by omega))
    simpa only [cF, ne 34 _ (by omega), ne 35 _ (by omega)] using this
  · rw [ne 4 0 (by omega)] at hk'
    obtain ⟨q1, q2⟩ := p9 k' hk'
    have := q1.kept (oq _ (by omega))
    exact ⟨by simpa only [mF, ne 36 _ (by omega), ne 37 _ (by omega), ne 38 _ (by omega)] using this, q2⟩
/-- a melody more: its cell at a, the row's place n, the count -/
def nX (X : Nat → Nat → Int) (n : Nat) (o c t : Int) : Nat → Nat → Int := up (up (up (up X 36 n o) 37 n c) 38 n t) 4 0 (n + 1 : Nat)
theorem nX_f (X : Nat → Nat → Int) (n : Nat) (o c t : Int) {f : Nat} (j : Nat) (h : f ≠ 36 ∧ f ≠ 37 ∧ f ≠ 38 ∧ f ≠ 4) : nX X n o c t f j = X f j := by
  unfold nX
  rw [up_f _ _ _ _ h.2.2.2, up_f _ _ _ _ h.2.2.1, up_f _ _ _ _ h.2.1, up_f _ _ _ _ h.1]
theorem nX_i (X : Nat → Nat → Int) (n : Nat) (o c t : Int) {f j : Nat} (hf : f ≠ 4) (h : j ≠ n) : nX X n o c t f j = X f j := by
  unfold nX
  rw [up_f _ _ _ _ hf, up_i _ _ _ _ h, up_i _ _ _ _ h, up_i _ _ _ _ h]
theorem PX.more (h : PX D ks bx ml X H) {n a : Nat} {o c t : Int} (hn : X 4 0 = n) (hml : ∀ h b : Nat, h < 8 → b < 3 → mo (va_up ml n a) (X 30 (3 * h + b)) = mo ml (X 30 (3 * h + b))) (ha : bx + 55 ≤ a) (hm : ca D a (.inr (3, [.int (z2 (n : Nat)), .int (z2 o), .int (z2 c), .long (l2 t)])) H1)
    (e1 : ca D (bx + 3) (qA (ks 5) 12 (va_up (fun i => if (i : Int) < X 4 0 then some (ml i) else none) n (some a))) H1) (e2 : ca D bx (.inr (4, (xF bx X).set 4 (.int (z2 (n + 1 : Nat))))) H1)
    (oq : ∀ q : Nat, q < H.size → q ≠ bx + 3 → q ≠ bx → H1[q]? = H[q]?) : PX D ks bx (va_up ml n a) (nX X n o c t) H1 := by
  obtain ⟨p1, p2, p3, p4, p5, p6, p7, p8, p9⟩ := h
  have ne : ∀ f j' : Nat, (f ≠ 36 ∧ f ≠ 37 ∧ f ≠ 38 ∧ f ≠ 4) → nX X n o c t f j' = X f j' := fun f j' hf => nX_f X n o c t j' hf
  have n4 : nX X n o c t 4 0 = (n + 1 : Nat) := by unfold nX; rw [up_s]
  have kp : ∀ {q : Nat} {x : va_E}, ca D q x H → q ≠ bx + 3 → q ≠ bx → ca D q x H1 := fun hc h1 h2 => hc.kept (oq _ hc.lt h1 h2)
  refine ⟨?_, kp p2 (by omega) (by omega), kp p3 (by omega) (by omega), ?_, ?_, fun h hh => ⟨?_, kp (p6 h hh).2.1 (by omega) (by omega), ?_⟩, fun h b hh hb => ?_, fun s hs => ?_, fun k' hk' => ?_⟩
  · have hs : (xF bx X).set 4 (.int (z2 (n + 1 : Nat))) = xF bx (nX X n o c t) := by
      simp only [xF, n4, ne 5 0 (by omega), ne 6 0 (by omega)]
      rfl
    rw [← hs]
    exact e2
  · refine qa_cong e1 fun j hj => ?_
    rw [n4]
    unfold va_up
    by_cases hjn : j = n
    · subst hjn
      rw [if_pos (by omega), if_pos rfl, if_pos rfl]
    · rw [if_neg hjn, if_neg hjn, hn]
      by_cases hjl : (j : Int) < n
      · exact (if_pos (by omega)).trans (if_pos hjl).symm
      · exact (if_neg (by omega)).trans (if_neg hjl).symm
  · have := kp p5 (by omega) (by omega)
    simpa only [ne 7 _ (by omega)] using this
  · have := kp (p6 h hh).1 (by omega) (by omega)
    simpa only [hF, ne 14 _ (by omega), ne 15 _ (by omega), ne 16 _ (by omega), ne 17 _ (by omega), ne 18 _ (by omega), ne 19 _ (by omega), ne 20 _ (by omega), ne 21 _ (by omega), ne 22 _ (by omega)] using this
  · have := kp (p6 h hh).2.2 (by omega) (by omega)
    simpa only [ne 23 _ (by omega)] using this
  · have := kp (p7 h b hh hb) (by omega) (by omega)
    have hmo : mo (va_up ml n a) (X 30 (3 * h + b)) = mo ml (X 30 (3 * h + b)) := hml h b hh hb
    simpa only [bF, hmo, ne 30 _ (by omega), ne 31 _ (by omega), ne 32 _ (by omega), ne 33 _ (by omega)] using this
  · have := kp (p8 s hs) (by omega) (by omega)
    simpa only [cF, ne 34 _ (by omega), ne 35 _ (by omega)] using this
  · rw [n4] at hk'
    by_cases hkn : k' = n
    · subst hkn
      have hs : mF (nX X k' o c t) k' = [.int (z2 (k' : Nat)), .int (z2 o), .int (z2 c), .long (l2 t)] := by
        simp [mF, nX, up]
      rw [hs]
      unfold va_up
      rw [if_pos rfl]
      exact ⟨hm, ha⟩
    · obtain ⟨q1, q2⟩ := p9 k' (by omega)
      have := kp q1 (by omega) (by omega)
      unfold va_up
      rw [if_neg hkn]
      refine ⟨?_, q2⟩
      simpa only [mF, nX_i X n o c t (f := 36) (by omega) hkn, nX_i X n o c t (f := 37) (by omega) hkn, nX_i X n o c t (f := 38) (by omega) hkn] using this
theorem PX.hs (h : PX D ks bx ml X H) {n : Nat} (hn : n < 8) : ca D (bx + 5 + 6 * n) (.inr (2, hF bx X n)) H := (h.2.2.2.2.2.1 n hn).1
theorem PX.ba (h : PX D ks bx ml X H) {n : Nat} (hn : n < 8) : ca D (bx + 5 + 6 * n + 1) (qA (ks 2) 3 (fun b => some (bx + 5 + 6 * n + 3 + b))) H := (h.2.2.2.2.2.1 n hn).2.1
theorem PX.ra (h : PX D ks bx ml X H) {n : Nat} (hn : n < 8) : ca D (bx + 5 + 6 * n + 2) (iA (ks 0) 12 (fun m => z2 (X 23 (12 * n + m)))) H := (h.2.2.2.2.2.1 n hn).2.2
theorem PX.be (h : PX D ks bx ml X H) {n b : Nat} (hn : n < 8) (hb : b < 3) : ca D (bx + 5 + 6 * n + 3 + b) (.inr (0, bF ml X (3 * n + b))) H := h.2.2.2.2.2.2.1 n b hn hb
theorem PX.cr (h : PX D ks bx ml X H) {s : Nat} (hs : s < 2) : ca D (bx + 53 + s) (.inr (1, cF bx X s)) H := h.2.2.2.2.2.2.2.1 s hs
theorem PX.me (h : PX D ks bx ml X H) {k : Nat} (hk : (k : Int) < X 4 0) : ca D (ml k) (.inr (3, mF X k)) H := (h.2.2.2.2.2.2.2.2 k hk).1
end PXs
section GM
variable {p : Program} {l : Launch} {e : Env} {R : Room} {s : State} {m : MethodId} {args : Array Value} {below : List Frame} {meth : Method} {c : Code} {H : Heap} {locs : List Loc} {cells slots : Nat} {Q : State → Prop} {pc : Nat} {ls : Array Slot} {rest : List Value}
/-- a bell's melody is none, or one by its number -/
theorem g_mo {ml : Nat → Nat} {z : Int} (hz : -1 ≤ z) (k0 : z = -1 → W p l e R s m args below meth c H locs cells slots Q (F0 m pc ls (.null :: rest))) (k1 : ∀ k : Nat, z = (k : Int) → W p l e R s m args below meth c H locs cells slots Q (F0 m pc ls (.ref (ml k) :: rest))) : W p l e R s m args below meth c H locs cells slots Q (F0 m pc ls (va_rf (mo ml z) :: rest)) := by
  unfold mo
  by_cases h : z < 0
  · rw [if_pos h]
    exact k0 (by omega)
  · rw [if_neg h]
    exact k1 z.toNat (by omega)
theorem g_go {bx : Nat} {z : Int} (hz : -1 ≤ z) (k0 : z = -1 → W p l e R s m args below meth c H locs cells slots Q (F0 m pc ls (.null :: rest))) (k1 : ∀ k : Nat, z = (k : Int) → W p l e R s m args below meth c H locs cells slots Q (F0 m pc ls (.ref (bx + 5 + 6 * k) :: rest))) : W p l e R s m args below meth c H locs cells slots Q (F0 m pc ls (va_rf (go bx z) :: rest)) := by
  unfold go
  by_cases h : z < 0
  · rw [if_pos h]
    exact k0 (by omega)
  · rw [if_neg h]
    exact k1 z.toNat (by omega)
theorem g_ml {b : Prop} [Decidable b] {a : Nat} (k1 : b → W p l e R s m args below meth c H locs cells slots Q (F0 m pc ls (.ref a :: rest))) (k0 : ¬ b → W p l e R s m args below meth c H locs cells slots Q (F0 m pc ls (.null :: rest))) : W p l e R s m args below meth c H locs cells slots Q (F0 m pc ls (va_rf (if b then some a else none) :: rest)) := by
  by_cases h : b
  · rw [if_pos h]
    exact k1 h
  · rw [if_neg h]
    exact k0 h
end GM
