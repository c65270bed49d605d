/-! PURE: press, fault, pass keep the invariant; what press and fault tell. -/
def yg (f : Nat) : Prop := f = 5 ∨ f = 6 ∨ f = 7 ∨ f = 17 ∨ f = 18 ∨ f = 19 ∨ f = 21
theorem yv_g {N M : Nat} {X Y : Nat → Nat → Int} (h : YV N X) (hM : N ≤ M) (hf : ∀ f i : Nat, yg f → Y f i = X f i) (h20 : ∀ h : Nat, h < 8 → 0 ≤ Y 20 h ∧ Y 20 h ≤ M) (h32 : ∀ h b : Nat, h < 8 → b < 3 → Y 14 h = 0 → Y 32 (3 * h + b) = 0) : YV M Y := by
  obtain ⟨y1, y2, ⟨y3, y4⟩, ⟨y5, y6⟩, y7, y8, y9⟩ := h
  have e5 := hf 5 0 (by unfold yg; omega)
  have e6 := hf 6 0 (by unfold yg; omega)
  have e7 := fun i => hf 7 i (by unfold yg; omega)
  have e17 := fun i => hf 17 i (by unfold yg; omega)
  have e18 := fun i => hf 18 i (by unfold yg; omega)
  have e19 := fun i => hf 19 i (by unfold yg; omega)
  have e21 := fun i => hf 21 i (by unfold yg; omega)
  have eF : FO Y (X 6 0 / 1000) (X 5 0).toNat = FO X (X 6 0 / 1000) (X 5 0).toNat := FO_c _ _ (fun j _ => e7 j)
  unfold YV
  rw [e5, e6, eF, SU_c 8 (fun j _ => e21 j), SU_c 8 (fun j _ => e17 j)]
  exact ⟨fun k hk => by rw [e7]; exact y1 k hk, fun k hk => by rw [e7, e7]; exact y2 k hk, ⟨y3, fun h hh => by rw [e21]; exact y4 h hh⟩, ⟨y5, fun h hh => by rw [e17]; exact y6 h hh⟩, fun h hh => by rw [e18, e19]; exact ⟨(y7 h hh).1, h20 h hh⟩, h32, by omega⟩
theorem bd_f (X : Nat → Nat → Int) (n : Nat) {f i : Nat} (hf : f ≠ 14 ∧ f ≠ 32) : bdS X n f i = X f i := by
  unfold bdS
  rw [up_f _ _ _ _ hf.2, up_f _ _ _ _ hf.2, up_f _ _ _ _ hf.2, up_f _ _ _ _ hf.1]
theorem bd_14 (X : Nat → Nat → Int) (n : Nat) (i : Nat) : bdS X n 14 i = if i = n then 0 else X 14 i := by
  unfold bdS
  rw [up_f _ _ _ _ (by decide), up_f _ _ _ _ (by decide), up_f _ _ _ _ (by decide)]
  by_cases h : i = n
  · subst h
    rw [up_s, if_pos rfl]
  · rw [up_i _ _ _ _ h, if_neg h]
theorem bd_32 (X : Nat → Nat → Int) (n : Nat) (i : Nat) : bdS X n 32 i = if 3 * n ≤ i ∧ i < 3 * n + 3 then 0 else X 32 i := by
  unfold bdS
  by_cases h2 : i = 3 * n + 2
  · subst h2
    rw [up_s, if_pos (by omega)]
  · rw [up_i _ _ _ _ h2]
    by_cases h1 : i = 3 * n + 1
    · subst h1
      rw [up_s, if_pos (by omega)]
    · rw [up_i _ _ _ _ h1]
      by_cases h0 : i = 3 * n + 0
      · subst h0
        rw [up_s, if_pos (by omega)]
      · rw [up_i _ _ _ _ h0, if_neg (by omega), up_f _ _ _ _ (by decide)]
theorem rs_bd (X : Nat → Nat → Int) (n : Nat) : rsS (bdS X n) n = 0 := by
  unfold rsS
  rw [bd_32, bd_32, bd_32, if_pos (by omega), if_pos (by omega), if_pos (by omega)]
  rfl
theorem yv_bd {N : Nat} {X : Nat → Nat → Int} (h : YV N X) (n : Nat) : YV N (bdS X n) := by
  refine yv_g h (Nat.le_refl _) (fun f i hf => bd_f X n (by unfold yg at hf; omega)) (fun h' hh => ?_) (fun h' b hh hb hs => ?_)
  · rw [bd_f X n (by decide)]
    exact (h.2.2.2.2.1 h' hh).2
  · rw [bd_14] at hs
    rw [bd_32]
    by_cases hq : h' = n
    · rw [if_pos (by omega)]
    · rw [if_neg hq] at hs
      rw [if_neg (by omega)]
      exact h.2.2.2.2.2.1 h' b hh hb hs
theorem yv_ru {N : Nat} {X : Nat → Nat → Int} (h : YV N X) {n b : Nat} {e : Int} (hb : b < 3) (hs : X 14 n ≠ 0) : YV N (ruS X (3 * n + b) e) := by
  have hf : ∀ f i : Nat, f ≠ 32 → f ≠ 33 → ruS X (3 * n + b) e f i = X f i := fun f i h1 h2 => by
    unfold ruS
    rw [up_f _ _ _ _ h2, up_f _ _ _ _ h1]
  refine yv_g h (Nat.le_refl _) (fun f i hg => hf f i (by unfold yg at hg; omega) (by unfold yg at hg; omega)) (fun h' hh => ?_) (fun h' b' hh hb' hs' => ?_)
  · rw [hf _ _ (by decide) (by decide)]
    exact (h.2.2.2.2.1 h' hh).2
  · rw [hf _ _ (by decide) (by decide)] at hs'
    have hne : h' ≠ n := fun q => hs (by rw [← q]; exact hs')
    unfold ruS
    rw [up_f _ _ _ _ (by decide), up_i _ _ _ _ (by omega)]
    exact h.2.2.2.2.2.1 h' b' hh hb' hs'
theorem pr_lv {N : Nat} {X : Nat → Nat → Int} (h : LV N X) {n b k : Nat} (hn : n < 8) (hb : b < 3) (hk : X 30 (3 * n + b) = k) : LV (N + 1) (prX X n b k) := by
  obtain ⟨hV, hT, hY⟩ := h
  have b6 : 0 ≤ X 6 0 ∧ X 6 0 ≤ 1000000 := hV.1 6 0 rfl
  have b37 : 1 ≤ X 37 k ∧ X 37 k ≤ 12 := hV.1 37 k rfl
  unfold prX
  by_cases c1 : X 14 n = 0 ∨ X 32 (3 * n + b) ≠ 0
  · rw [if_pos c1]
    exact ⟨hV, hT, yv_N hY (by omega)⟩
  · rw [if_neg c1]
    by_cases c2 : 0 < qS X n (X 6 0) (X 6 0 + 1)
    · rw [if_pos c2]
      refine ⟨vx_uf hV ⟨rfl, by decide⟩, ti_up hT (by decide), yv_g hY (by omega) (fun f i hf => up_f _ _ _ _ (by unfold yg at hf; omega)) (fun h' hh => ?_) (fun h' b' hh hb' hs => ?_)⟩
      · have y7 := hY.2.2.2.2.1 h' hh
        by_cases hq : h' = n
        · subst hq
          rw [up_s]
          omega
        · rw [up_i _ _ _ _ hq]
          omega
      · rw [up_f _ _ _ _ (by decide)] at hs
        rw [up_f _ _ _ _ (by decide)]
        exact hY.2.2.2.2.2.1 h' b' hh hb' hs
    · rw [if_neg c2]
      by_cases c3 : mrS X n k = 0
      · rw [if_pos c3]
        exact ⟨hV, hT, yv_N hY (by omega)⟩
      · rw [if_neg c3]
        by_cases c4 : 10 < rlS X n + X 31 (3 * n + b)
        · rw [if_pos c4]
          exact ⟨vx_bd hV n, ti_bd hT n, yv_N (yv_bd hY n) (by omega)⟩
        · rw [if_neg c4]
          have vu := vx_ur (h := n) (k := k) hV (mr_of c3)
          have u6 : urS X n k 6 0 = X 6 0 := urS_f X n k (by decide)
          have u37 : urS X n k 37 k = X 37 k := urS_f X n k (by decide)
          have u14 : urS X n k 14 n = X 14 n := urS_f X n k (by decide)
          have yu : YV N (urS X n k) := by
            unfold urS
            split
            · exact hY
            · exact yv_up hY (by unfold yf; decide) (fun q => absurd q (by decide))
          refine ⟨vx_ru vu (by rw [u6, u37]; omega), ti_ru (ti_ur hT n k) (by omega) (by rw [u6, u37]; omega), yv_N (yv_ru yu hb (by rw [u14]; omega)) (by omega)⟩
theorem rs_c2 {X Y : Nat → Nat → Int} {n : Nat} (h : ∀ i : Nat, 3 * n ≤ i → i < 3 * n + 3 → Y 32 i = X 32 i) : rsS Y n = rsS X n := by
  unfold rsS
  rw [h _ (by omega) (by omega), h _ (by omega) (by omega), h _ (by omega) (by omega)]
/-- what a press tells of its house -/
theorem pr_facts {N : Nat} {X : Nat → Nat → Int} (h : LV N X) {n b k : Nat} (hb : b < 3) (hk : X 30 (3 * n + b) = k) :
    (0 ≤ prV X n b k ∧ prV X n b k ≤ 3) ∧ prX X n b k 20 n = X 20 n + (if prV X n b k = 2 then 1 else 0) ∧ (prV X n b k = 3 → prX X n b k 14 n = 0 ∧ rsS (prX X n b k) n = 0) ∧ (prV X n b k ≠ 3 → prX X n b k 14 n = X 14 n) ∧ (prV X n b k ≠ 0 → X 14 n ≠ 0) ∧
    (prV X n b k = 1 → X 32 (3 * n + b) = 0 ∧ prX X n b k 32 (3 * n + b) = 1 ∧ prX X n b k 30 (3 * n + b) = k ∧ ∀ i : Nat, i ≠ 3 * n + b → prX X n b k 32 i = X 32 i) ∧ (prV X n b k ≠ 1 → prV X n b k ≠ 3 → rsS (prX X n b k) n = rsS X n) := by
  unfold prV prX
  by_cases c1 : X 14 n = 0 ∨ X 32 (3 * n + b) ≠ 0
  · rw [if_pos c1, if_pos c1]
    refine ⟨⟨by decide, by decide⟩, by simp, fun q => absurd q (by decide), fun _ => rfl, fun q => absurd rfl q, fun q => absurd q (by decide), fun _ _ => rfl⟩
  · rw [if_neg c1, if_neg c1]
    have c14 : X 14 n ≠ 0 := fun q => c1 (Or.inl q)
    have c32 : X 32 (3 * n + b) = 0 := by omega
    by_cases c2 : 0 < qS X n (X 6 0) (X 6 0 + 1)
    · rw [if_pos c2, if_pos c2]
      exact ⟨⟨by decide, by decide⟩, by rw [up_s]; simp, fun q => absurd q (by decide), fun _ => up_f _ _ _ _ (by decide), fun _ => c14, fun q => absurd q (by decide), fun _ _ => rs_c2 (fun i _ _ => up_f _ _ _ _ (by decide))⟩
    · rw [if_neg c2, if_neg c2]
      by_cases c3 : mrS X n k = 0
      · rw [if_pos c3, if_pos c3]
        exact ⟨⟨by decide, by decide⟩, by simp, fun q => absurd q (by decide), fun _ => rfl, fun q => absurd rfl q, fun q => absurd q (by decide), fun _ _ => rfl⟩
      · rw [if_neg c3, if_neg c3]
        by_cases c4 : 10 < rlS X n + X 31 (3 * n + b)
        · rw [if_pos c4, if_pos c4]
          refine ⟨⟨by decide, by decide⟩, ?_, fun _ => ⟨by rw [bd_14, if_pos rfl], rs_bd X n⟩, fun q => absurd rfl q, fun _ => c14, fun q => absurd q (by decide), fun _ q => absurd rfl q⟩
          rw [bd_f X n (by decide)]
          simp
        · rw [if_neg c4, if_neg c4]
          have hf : ∀ f i : Nat, f ≠ 32 → f ≠ 33 → f ≠ 23 → ruS (urS X n k) (3 * n + b) (urS X n k 6 0 + 2 * urS X n k 37 k) f i = X f i := fun f i h1 h2 h3 => by
            unfold ruS
            rw [up_f _ _ _ _ h2, up_f _ _ _ _ h1, urS_f X n k h3]
          refine ⟨⟨by decide, by decide⟩, by rw [hf _ _ (by decide) (by decide) (by decide)]; simp, fun q => absurd q (by decide), fun _ => hf _ _ (by decide) (by decide) (by decide), fun _ => c14, fun _ => ⟨c32, ?_, (hf _ _ (by decide) (by decide) (by decide)).trans hk, fun i hi => ?_⟩, fun q => absurd rfl q⟩
          · unfold ruS
            rw [up_f _ _ _ _ (by decide), up_s]
          · unfold ruS
            rw [up_f _ _ _ _ (by decide), up_i _ _ _ _ hi, urS_f X n k (by decide)]
theorem pr_none {X : Nat → Nat → Int} {n b k : Nat} (h : X 32 (3 * n + b) ≠ 0) : prV X n b k = 0 ∧ prX X n b k = X := by
  unfold prV prX
  exact ⟨if_pos (Or.inr h), if_pos (Or.inr h)⟩
/-! fault -/
def cn (X : Nat → Nat → Int) (h : Nat) : Int := (if X 32 (3 * h + 0) = 0 then 0 else 1) + (if X 32 (3 * h + 1) = 0 then 0 else 1) + (if X 32 (3 * h + 2) = 0 then 0 else 1)
theorem cn_c {X Y : Nat → Nat → Int} {n : Nat} (h : ∀ i : Nat, 3 * n ≤ i → i < 3 * n + 3 → Y 32 i = X 32 i) : cn Y n = cn X n := by
  unfold cn
  rw [h _ (by omega) (by omega), h _ (by omega) (by omega), h _ (by omega) (by omega)]
theorem cn_b (X : Nat → Nat → Int) (h : Nat) : 0 ≤ cn X h ∧ cn X h ≤ 3 := by
  unfold cn
  (repeat' split) <;> omega
def SB (X : Nat → Nat → Int) (n : Nat) : Nat → Int
  | 0 => 0
  | j + 1 => SB X n j + (if 4 * (n / 4) + j = n then 0 else cn X (4 * (n / 4) + j))
theorem SB_b (X : Nat → Nat → Int) (n : Nat) : ∀ k : Nat, 0 ≤ SB X n k ∧ SB X n k ≤ 3 * k := by
  intro k
  induction k with
  | zero => exact ⟨Int.le_refl _, Int.le_refl _⟩
  | succ k ih =>
    have := cn_b X (4 * (n / 4) + k)
    unfold SB
    split <;> omega
theorem sb_32 (X : Nat → Nat → Int) (h : Nat) (t : Int) (i : Nat) : ∀ k : Nat, sbX X h t k 32 i = if 3 * h ≤ i ∧ i < 3 * h + k ∧ 0 ≤ X 30 i ∧ X 32 i = 0 then 1 else X 32 i := by
  intro k
  induction k with
  | zero => exact (if_neg (by omega)).symm
  | succ k ih =>
    rw [sb_s]
    by_cases hc : 0 ≤ X 30 (3 * h + k) ∧ X 32 (3 * h + k) = 0
    · rw [if_pos hc]
      unfold ruS
      rw [up_f _ _ _ _ (by decide)]
      by_cases hi : i = 3 * h + k
      · subst hi
        rw [up_s, if_pos ⟨by omega, by omega, hc⟩]
      · rw [up_i _ _ _ _ hi, ih]
        by_cases h2 : 3 * h ≤ i ∧ i < 3 * h + k ∧ 0 ≤ X 30 i ∧ X 32 i = 0
        · rw [if_pos h2, if_pos ⟨h2.1, by omega, h2.2.2⟩]
        · rw [if_neg h2, if_neg (fun q => h2 ⟨q.1, by omega, q.2.2⟩)]
    · rw [if_neg hc, ih]
      by_cases h2 : 3 * h ≤ i ∧ i < 3 * h + k ∧ 0 ≤ X 30 i ∧ X 32 i = 0
      · rw [if_pos h2, if_pos ⟨h2.1, by omega, h2.2.2⟩]
      · rw [if_neg h2, if_neg (fun q => ?_)]
        by_cases hi : i = 3 * h + k
        · rw [hi] at q
          exact hc q.2.2
        · exact h2 ⟨q.1, by omega, q.2.2⟩
theorem cn_sb (X : Nat → Nat → Int) (h : Nat) (t : Int) : cn (sbX X h t 3) h = cn X h + sbN X h 3 := by
  unfold cn
  rw [sb_32, sb_32, sb_32]
  show _ = _ + sbN X h (2 + 1)
  rw [sb_n]
  show _ = _ + (if _ then sbN X h (1 + 1) + 1 else sbN X h (1 + 1))
  rw [sb_n]
  show _ = _ + (if _ then (if _ then sbN X h (0 + 1) + 1 else sbN X h (0 + 1)) + 1 else (if _ then sbN X h (0 + 1) + 1 else sbN X h (0 + 1)))
  rw [sb_n]
  show _ = _ + (if _ then (if _ then (if _ then (0 : Int) + 1 else 0) + 1 else (if _ then (0 : Int) + 1 else 0)) + 1 else (if _ then (if _ then (0 : Int) + 1 else 0) + 1 else (if _ then (0 : Int) + 1 else 0)))
  have q0 : (3 * h ≤ 3 * h + 0 ∧ 3 * h + 0 < 3 * h + 3 ∧ 0 ≤ X 30 (3 * h + 0) ∧ X 32 (3 * h + 0) = 0) ↔ (0 ≤ X 30 (3 * h + 0) ∧ X 32 (3 * h + 0) = 0) := by omega
  have q1 : (3 * h ≤ 3 * h + 1 ∧ 3 * h + 1 < 3 * h + 3 ∧ 0 ≤ X 30 (3 * h + 1) ∧ X 32 (3 * h + 1) = 0) ↔ (0 ≤ X 30 (3 * h + 1) ∧ X 32 (3 * h + 1) = 0) := by omega
  have q2 : (3 * h ≤ 3 * h + 2 ∧ 3 * h + 2 < 3 * h + 3 ∧ 0 ≤ X 30 (3 * h + 2) ∧ X 32 (3 * h + 2) = 0) ↔ (0 ≤ X 30 (3 * h + 2) ∧ X 32 (3 * h + 2) = 0) := by omega
  simp only [q0, q1, q2]
  (repeat' split) <;> first | omega | simp_all
theorem fa_s (X : Nat → Nat → Int) (n k : Nat) : faX X n (k + 1) = if k ≠ n ∧ k / 4 = n / 4 ∧ faX X n k 14 k ≠ 0 then sbX (faX X n k) k (faX X n k 6 0) 3 else faX X n k := rfl
theorem fa_n (X : Nat → Nat → Int) (n k : Nat) : faN X n (k + 1) = if k ≠ n ∧ k / 4 = n / 4 ∧ faX X n k 14 k ≠ 0 then faN X n k + sbN (faX X n k) k 3 else faN X n k := rfl
theorem fa_st (X : Nat → Nat → Int) (n k : Nat) {i : Nat} (hi : i < 3 * k ∨ 3 * k + 3 ≤ i) : faX X n (k + 1) 32 i = faX X n k 32 i := by
  rw [fa_s]
  split
  · exact sbX_i _ _ _ _ _ 3 hi
  · rfl
theorem fa_pre (X : Nat → Nat → Int) (n : Nat) {i : Nat} : ∀ k : Nat, 3 * k ≤ i → faX X n k 32 i = X 32 i := by
  intro k
  induction k with
  | zero => intro _; rfl
  | succ k ih => intro hi; rw [fa_st X n k (by omega)]; exact ih (by omega)
theorem fa_post (X : Nat → Nat → Int) (n j : Nat) {i : Nat} (hi : i < 3 * j) : ∀ m : Nat, faX X n (j + m) 32 i = faX X n j 32 i := by
  intro m
  induction m with
  | zero => rfl
  | succ m ih => exact (fa_st X n (j + m) (by omega)).trans ih
/-- what a fault adds, house by house -/
def TT (X : Nat → Nat → Int) (n : Nat) : Nat → Int
  | 0 => 0
  | j + 1 => TT X n j + (if j ≠ n ∧ j / 4 = n / 4 then cn (faX X n 8) j - cn X j else 0)
theorem TT_N (X : Nat → Nat → Int) (n : Nat) : ∀ k : Nat, k ≤ 8 → TT X n k = faN X n k := by
  intro k
  induction k with
  | zero => intro _; rfl
  | succ k ih =>
    intro hk
    have i1 := ih (by omega)
    have e8 : cn (faX X n 8) k = cn (faX X n (k + 1)) k := cn_c (fun i h1 h2 => by
      have := fa_post X n (k + 1) (i := i) (by omega) (8 - (k + 1))
      rw [show k + 1 + (8 - (k + 1)) = 8 by omega] at this
      exact this)
    have e0 : cn (faX X n k) k = cn X k := cn_c (fun i h1 _ => fa_pre X n k h1)
    unfold TT
    rw [fa_n, i1, e8]
    by_cases hc : k ≠ n ∧ k / 4 = n / 4
    · rw [if_pos hc, fa_s]
      by_cases hs : faX X n k 14 k ≠ 0
      · rw [if_pos ⟨hc.1, hc.2, hs⟩, if_pos ⟨hc.1, hc.2, hs⟩, cn_sb, e0]
        omega
      · rw [if_neg (fun q => hs q.2.2), if_neg (fun q => hs q.2.2), e0]
        omega
    · rw [if_neg hc, if_neg (fun q => hc ⟨q.1, q.2.1⟩)]
      omega
theorem fr_32 (X : Nat → Nat → Int) (n : Nat) (u : Int) {i : Nat} (hi : i < 3 * n ∨ 3 * n + 3 ≤ i) : faR X n u 32 i = faX X n 8 32 i := by
  unfold faR
  rw [up_f _ _ _ _ (by decide), up_f _ _ _ _ (by decide), up_f _ _ _ _ (by decide), bd_32, if_neg (by omega)]
theorem fr_sum (X : Nat → Nat → Int) {n : Nat} (hn : n < 8) (u : Int) : SB (faR X n u) n 4 = SB X n 4 + faN X n 8 := by
  have hc : ∀ j : Nat, j ≠ n → cn (faR X n u) j = cn (faX X n 8) j := fun j hj => cn_c (fun i h1 h2 => fr_32 X n u (by omega))
  have ht := TT_N X n 8 (Nat.le_refl _)
  have h8 : n = 0 ∨ n = 1 ∨ n = 2 ∨ n = 3 ∨ n = 4 ∨ n = 5 ∨ n = 6 ∨ n = 7 := by omega
  have c0 := hc 0
  have c1 := hc 1
  have c2 := hc 2
  have c3 := hc 3
  have c4 := hc 4
  have c5 := hc 5
  have c6 := hc 6
  have c7 := hc 7
  rw [← ht]
  clear ht hc
  rcases h8 with rfl | rfl | rfl | rfl | rfl | rfl | rfl | rfl <;> simp [SB, TT] at c0 c1 c2 c3 c4 c5 c6 c7 ⊢ <;> omega
theorem ti_fa {X : Nat → Nat → Int} (hV : VX X) (hT : TI X) (n : Nat) : ∀ k : Nat, k ≤ 8 → TI (faX X n k) := by
  intro k
  induction k with
  | zero => intro _; exact hT
  | succ k ih =>
    intro hk
    rw [fa_s]
    split
    · exact ti_sb (vx_fa hV n k) (ih (by omega)) (by omega) 3 (Nat.le_refl _)
    · exact ih (by omega)
theorem fa_8 {N : Nat} {X : Nat → Nat → Int} (h : YV N X) (n : Nat) : ∀ k : Nat, k ≤ 8 → YV N (faX X n k) := by
  intro k
  induction k with
  | zero => intro _; exact h
  | succ k ih =>
    intro hk
    have i1 := ih (by omega)
    rw [fa_s]
    by_cases hc : k ≠ n ∧ k / 4 = n / 4 ∧ faX X n k 14 k ≠ 0
    · rw [if_pos hc]
      refine yv_g i1 (Nat.le_refl _) (fun f i hf => sbX_f _ _ _ (by unfold yg at hf; omega) _ _) (fun h' hh => ?_) (fun h' b hh hb hs => ?_)
      · rw [sbX_f _ _ _ (by decide) _ _]
        exact (i1.2.2.2.2.1 h' hh).2
      · rw [sbX_f _ _ _ (by decide) _ _] at hs
        have hne : h' ≠ k := fun q => by subst q; exact hc.2.2 hs
        rw [sbX_i _ _ _ _ _ 3 (by omega)]
        exact i1.2.2.2.2.2.1 h' b hh hb hs
    · rw [if_neg hc]
      exact i1
theorem fr_lv {N : Nat} {X : Nat → Nat → Int} (h : LV N X) {n : Nat} {u : Int} (hu : u = n) (hn : n < 8) (h5 : X 5 0 < 100) : LV N (faR X n u) := by
  obtain ⟨hV, hT, hY⟩ := h
  have b5 : 0 ≤ X 5 0 ∧ X 5 0 ≤ 100 := hV.1 5 0 rfl
  have b6 : 0 ≤ X 6 0 ∧ X 6 0 ≤ 1000000 := hV.1 6 0 rfl
  have vB := vx_bd (vx_fa hV n 8) n
  have tB := ti_bd (ti_fa hV hT n 8 (Nat.le_refl _)) n
  have yB := yv_bd (fa_8 hY n 8 (Nat.le_refl _)) n
  have f5 : bdS (faX X n 8) n 5 0 = X 5 0 := faX_5 X n
  have f6 : bdS (faX X n 8) n 6 0 = X 6 0 := (bd_f _ _ (by decide)).trans (fa_f X n 0 (by decide) 8)
  unfold faR
  refine ⟨vx_up (vx_uf (vx_uf vB ⟨rfl, by decide⟩) ⟨rfl, by decide⟩) (by decide) (fun _ => by show 0 ≤ _ ∧ _ ≤ (100 : Int); omega), ti_up (ti_up (ti_up tB (by decide)) (by decide)) (by decide), ?_⟩
  rw [f6]
  generalize bdS (faX X n 8) n = Z at *
  obtain ⟨m, hm⟩ : ∃ m : Nat, X 5 0 = m := ⟨(X 5 0).toNat, by omega⟩
  have hmt : (X 5 0).toNat = m := by omega
  rw [hmt, hm]
  obtain ⟨y1, y2, ⟨y3, y4⟩, ⟨y5, y6⟩, y7, y8, y9⟩ := yB
  rw [f5, hm] at y1 y2 y3 y5 y6
  rw [f6] at y1 y3 y5 y6 y7 y9
  rw [Int.toNat_natCast] at y3 y5 y6
  generalize hX6 : X 6 0 = t at *
  subst hu
  have bF := FO_b Z (t / 1000) m
  have e5 : up (up (up Z 21 n (Z 21 n + 1)) 7 m (10 * t + (n : Int))) 5 0 ((m : Int) + 1) 5 0 = m + 1 := up_s _ _ _ _
  have e6 : up (up (up Z 21 n (Z 21 n + 1)) 7 m (10 * t + (n : Int))) 5 0 ((m : Int) + 1) 6 0 = t := by
    rw [up_f _ _ _ _ (by decide), up_f _ _ _ _ (by decide), up_f _ _ _ _ (by decide)]
    exact f6
  have e7m : up (up (up Z 21 n (Z 21 n + 1)) 7 m (10 * t + (n : Int))) 5 0 ((m : Int) + 1) 7 m = 10 * t + (n : Int) := by
    rw [up_f _ _ _ _ (by decide), up_s]
  have e7 : ∀ j : Nat, j ≠ m → up (up (up Z 21 n (Z 21 n + 1)) 7 m (10 * t + (n : Int))) 5 0 ((m : Int) + 1) 7 j = Z 7 j := fun j hj => by
    rw [up_f _ _ _ _ (by decide), up_i _ _ _ _ hj, up_f _ _ _ _ (by decide)]
  have e21n : up (up (up Z 21 n (Z 21 n + 1)) 7 m (10 * t + (n : Int))) 5 0 ((m : Int) + 1) 21 n = Z 21 n + 1 := by
    rw [up_f _ _ _ _ (by decide), up_f _ _ _ _ (by decide), up_s]
  have e21 : ∀ j : Nat, j ≠ n → up (up (up Z 21 n (Z 21 n + 1)) 7 m (10 * t + (n : Int))) 5 0 ((m : Int) + 1) 21 j = Z 21 j := fun j hj => by
    rw [up_f _ _ _ _ (by decide), up_f _ _ _ _ (by decide), up_i _ _ _ _ hj]
  have eo : ∀ f j : Nat, f ≠ 5 → f ≠ 7 → f ≠ 21 → up (up (up Z 21 n (Z 21 n + 1)) 7 m (10 * t + (n : Int))) 5 0 ((m : Int) + 1) f j = Z f j := fun f j h1 h2 h3 => by
    rw [up_f _ _ _ _ h1, up_f _ _ _ _ h2, up_f _ _ _ _ h3]
  generalize up (up (up Z 21 n (Z 21 n + 1)) 7 m (10 * t + (n : Int))) 5 0 ((m : Int) + 1) = Y at *
  have eN : ((m : Int) + 1).toNat = m + 1 := by omega
  have eF : FO Y (t / 1000) (m + 1) = FO Z (t / 1000) m := by
    rw [FO, FO_c _ m (fun j hj => e7 j (by omega)), e7m, if_neg (by omega)]
    omega
  unfold YV
  rw [e5, e6, eN, eF]
  refine ⟨fun k hk => ?_, fun k hk => ?_, ⟨?_, fun h hh => ?_⟩, ⟨?_, fun h hh => ?_⟩, fun h hh => ?_, fun h b hh hb hs => ?_, y9⟩
  · by_cases hq : k = m
    · subst hq
      rw [e7m]
      omega
    · rw [e7 k hq]
      exact y1 k (by omega)
  · rw [e7 k (by omega)]
    by_cases hq : k + 1 = m
    · rw [hq, e7m]
      have := y1 k (by omega)
      omega
    · rw [e7 _ hq]
      exact y2 k (by omega)
  · rw [SU_1 (v := 1) e21n e21 8, if_pos hn]
    omega
  · by_cases hq : h = n
    · subst hq
      rw [e21n]
      have := y4 h hh
      omega
    · rw [e21 h hq]
      exact y4 h hh
  · rw [SU_c 8 (fun j _ => eo 17 j (by decide) (by decide) (by decide))]
    exact y5
  · rw [eo 17 h (by decide) (by decide) (by decide)]
    exact y6 h hh
  · rw [eo 18 h (by decide) (by decide) (by decide), eo 19 h (by decide) (by decide) (by decide), eo 20 h (by decide) (by decide) (by decide)]
    exact y7 h hh
  · rw [eo 14 h (by decide) (by decide) (by decide)] at hs
    rw [eo 32 _ (by decide) (by decide) (by decide)]
    exact y8 h b hh hb hs
theorem fr_facts {X : Nat → Nat → Int} (hV : VX X) {n : Nat} {u : Int} : faR X n u 14 n = 0 ∧ faR X n u 5 0 = X 5 0 + 1 ∧ faR X n u 7 (X 5 0).toNat = 10 * X 6 0 + u ∧ faR X n u 6 0 = X 6 0 := by
  have f6 : bdS (faX X n 8) n 6 0 = X 6 0 := (bd_f _ _ (by decide)).trans (fa_f X n 0 (by decide) 8)
  unfold faR
  rw [f6]
  refine ⟨?_, up_s _ _ _ _, ?_, ?_⟩
  · rw [up_f _ _ _ _ (by decide), up_f _ _ _ _ (by decide), up_f _ _ _ _ (by decide), bd_14, if_pos rfl]
  · rw [up_f _ _ _ _ (by decide), up_s]
  · rw [up_f _ _ _ _ (by decide), up_f _ _ _ _ (by decide), up_f _ _ _ _ (by decide)]
    exact f6
