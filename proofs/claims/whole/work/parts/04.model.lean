/-! MY PICTURE of the reference: one object at bm, its 19 rows at bm + 1 .. bm + 19. S f i: field f (by its place in the object), element i, as an integer: 0 time, 1 melodies, 2 owners, 3 counts, 4 tones, 5 laid, 6 loads, 7 ends, 8 left, 9 froms, 10 tos, 11 broken, 12 points, 13 rung, 14 noisy, 15 hushes, 16 loud, 17 faultsOfDay, 18 done, 19 goal, 20 faults, 21 told, 22 thrown. -/
def sF (bm : Nat) (S : Nat → Nat → Int) : List Value := [.int (z2 (S 0 0)), .int (z2 (S 1 0)), .ref (bm + 1), .ref (bm + 2), .ref (bm + 3), .ref (bm + 4), .ref (bm + 5), .ref (bm + 6), .ref (bm + 7), .ref (bm + 8), .ref (bm + 9), .ref (bm + 10), .ref (bm + 11), .ref (bm + 12), .ref (bm + 13), .ref (bm + 14), .ref (bm + 15), .ref (bm + 16), .ref (bm + 17), .ref (bm + 18), .int (z2 (S 20 0)), .ref (bm + 19), .int (z2 (S 22 0))]
/-- where field f's row lies, and how long it is -/
def sO (f : Nat) : Nat := if f = 21 then 19 else f - 1
def sL (f : Nat) : Nat := if f ≤ 4 then 12 else if f ≤ 7 then 24 else if f = 8 then 96 else if f ≤ 17 then 8 else if f ≤ 19 then 2 else 100
def sR (f : Nat) : Prop := (2 ≤ f ∧ f ≤ 19 ∧ f ≠ 4) ∨ f = 21
def PM (D : va_G) (ks : Nat → ClassId) (bm : Nat) (S : Nat → Nat → Int) (H : Heap) : Prop :=
  ca D bm (.inr (5, sF bm S)) H ∧ (∀ f : Nat, sR f → ca D (bm + sO f) (iA (ks 0) (sL f) (fun i => z2 (S f i))) H) ∧ ca D (bm + 3) (jA (ks 1) 12 (fun i => l2 (S 4 i))) H
section PMs
variable {D : va_G} {ks : Nat → ClassId} {bm : Nat} {S : Nat → Nat → Int} {H H1 : Heap}
theorem sO_r {f : Nat} (h : sR f) : 1 ≤ sO f ∧ sO f ≤ 19 ∧ sO f ≠ 3 := by
  unfold sO
  rcases h with h | h
  · rw [if_neg (by omega)]
    omega
  · rw [if_pos h]
    omega
theorem sO_i {f g : Nat} (hf : sR f) (hg : sR g) (h : sO f = sO g) : f = g := by
  unfold sO at h
  rcases hf with hf | hf <;> rcases hg with hg | hg
  · rw [if_neg (by omega), if_neg (by omega)] at h
    omega
  · rw [if_neg (by omega), if_pos hg] at h
    omega
  · rw [if_pos hf, if_neg (by omega)] at h
    omega
  · omega
theorem PM.keep (h : PM D ks bm S H) (hk : ∀ q : Nat, q < H.size → bm ≤ q → q < bm + 20 → H1[q]? = H[q]?) : PM D ks bm S H1 := by
  obtain ⟨p1, p2, p3⟩ := h
  have go : ∀ {a : Nat} {x : va_E}, ca D a x H → bm ≤ a → a < bm + 20 → ca D a x H1 := fun hc h1 h2 => hc.kept (hk _ hc.lt h1 h2)
  exact ⟨go p1 (by omega) (by omega), fun f hf => go (p2 f hf) (by omega) (by have := sO_r hf; omega), go p3 (by omega) (by omega)⟩
theorem PM.row (h : PM D ks bm S H) {f i : Nat} (hf : sR f) {v : Int} (e : ca D (bm + sO f) (iA (ks 0) (sL f) (upd (fun j => z2 (S f j)) i (z2 v))) H1) (oq : ∀ q : Nat, q ≠ bm + sO f → H1[q]? = H[q]?) : PM D ks bm (up S f i v) H1 := by
  obtain ⟨p1, p2, p3⟩ := h
  have ne : ∀ g j : Nat, g ≠ f → up S f i v g j = S g j := fun g j hg => up_f S i j v hg
  have r := sO_r hf
  have f20 : f ≠ 20 ∧ f ≠ 22 ∧ f ≠ 0 ∧ f ≠ 1 ∧ f ≠ 4 := by unfold sR at hf; omega
  refine ⟨?_, fun g hg => ?_, ?_⟩
  · have := p1.kept (oq _ (by omega))
    simpa only [sF, ne 0 _ (by omega), ne 1 _ (by omega), ne 20 _ (by omega), ne 22 _ (by omega)] using this
  · by_cases hgf : g = f
    · subst hgf
      have hs : (fun j => z2 (up S g i v g j)) = upd (fun j => z2 (S g j)) i (z2 v) := by
        funext m
        unfold upd
        by_cases hm : m = i
        · subst hm
          rw [up_s, if_pos rfl]
        · rw [up_i S g g v hm, if_neg hm]
      rw [hs]
      exact e
    · have := (p2 g hg).kept (oq _ (fun q => hgf (sO_i hg hf (by omega))))
      simpa only [ne g _ hgf] using this
  · have := p3.kept (oq _ (by omega))
    simpa only [ne 4 _ (by omega)] using this
theorem PM.tone (h : PM D ks bm S H) {i : Nat} {v : Int} (e : ca D (bm + 3) (jA (ks 1) 12 (vp_updL (fun j => l2 (S 4 j)) i (l2 v))) H1) (oq : ∀ q : Nat, q ≠ bm + 3 → H1[q]? = H[q]?) : PM D ks bm (up S 4 i v) H1 := by
  obtain ⟨p1, p2, p3⟩ := h
  have ne : ∀ g j : Nat, g ≠ 4 → up S 4 i v g j = S g j := fun g j hg => up_f S i j v hg
  refine ⟨?_, fun g hg => ?_, ?_⟩
  · have := p1.kept (oq _ (by omega))
    simpa only [sF, ne 0 _ (by omega), ne 1 _ (by omega), ne 20 _ (by omega), ne 22 _ (by omega)] using this
  · have r := sO_r hg
    have := (p2 g hg).kept (oq _ (by omega))
    simpa only [ne g _ (by unfold sR at hg; omega)] using this
  · have hs : (fun j => l2 (up S 4 i v 4 j)) = vp_updL (fun j => l2 (S 4 j)) i (l2 v) := by
      funext m
      unfold vp_updL
      by_cases hm : m = i
      · subst hm
        rw [up_s, if_pos rfl]
      · rw [up_i S 4 4 v hm, if_neg hm]
    rw [hs]
    exact e
theorem PM.own (h : PM D ks bm S H) {k : Nat} (hk : k = 0 ∨ k = 1 ∨ k = 20 ∨ k = 22) {v : Int} (e : ca D bm (.inr (5, (sF bm S).set k (.int (z2 v)))) H1) (oq : ∀ q : Nat, q ≠ bm → H1[q]? = H[q]?) : PM D ks bm (up S k 0 v) H1 := by
  obtain ⟨p1, p2, p3⟩ := h
  have ne : ∀ g j : Nat, g ≠ k → up S k 0 v g j = S g j := fun g j hg => up_f S 0 j v hg
  refine ⟨?_, fun g hg => ?_, ?_⟩
  · have hs : (sF bm S).set k (.int (z2 v)) = sF bm (up S k 0 v) := by rcases hk with rfl | rfl | rfl | rfl <;> simp [sF, up]
    rw [← hs]
    exact e
  · have r := sO_r hg
    have := (p2 g hg).kept (oq _ (by omega))
    simpa only [ne g _ (by unfold sR at hg; omega)] using this
  · have := p3.kept (oq _ (by omega))
    simpa only [ne 4 _ (by omega)] using this
end PMs
