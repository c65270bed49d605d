/-! THE CLASS over integers: what each method does to X, written after its lines. -/
def shS (f t a b : Int) : Int := max 0 (min t b - max f a)
def qS (X : Nat → Nat → Int) (h : Nat) (s e : Int) : Int :=
  if X 15 h ≤ X 16 h then shS (s % 1000) (s % 1000 + e - s) (X 15 h) (X 16 h) else shS (s % 1000) (s % 1000 + e - s) 0 (X 16 h) + shS (s % 1000) (s % 1000 + e - s) (X 15 h) 1000
def rsS (X : Nat → Nat → Int) (h : Nat) : Int := (if X 32 (3 * h + 0) = 0 then 0 else 1) + (if X 32 (3 * h + 1) = 0 then 0 else 2) + (if X 32 (3 * h + 2) = 0 then 0 else 4)
def rlS (X : Nat → Nat → Int) (h : Nat) : Int := (if X 32 (3 * h + 0) = 0 then 0 else X 31 (3 * h + 0)) + (if X 32 (3 * h + 1) = 0 then 0 else X 31 (3 * h + 1)) + (if X 32 (3 * h + 2) = 0 then 0 else X 31 (3 * h + 2))
def mrS (X : Nat → Nat → Int) (h k : Nat) : Int := if X 36 k = h ∨ 0 < X 23 (12 * h + k) then 1 else 0
def urS (X : Nat → Nat → Int) (h k : Nat) : Nat → Nat → Int := if X 36 k = h then X else up X 23 (12 * h + k) (X 23 (12 * h + k) - 1)
def ruS (X : Nat → Nat → Int) (i : Nat) (e : Int) : Nat → Nat → Int := up (up X 32 i 1) 33 i e
/-- startBells: the first k bells -/
def sbX (X : Nat → Nat → Int) (h : Nat) (t : Int) : Nat → Nat → Nat → Int
  | 0 => X
  | k + 1 => if 0 ≤ X 30 (3 * h + k) ∧ X 32 (3 * h + k) = 0 then ruS (sbX X h t k) (3 * h + k) (t + 2 * X 37 (X 30 (3 * h + k)).toNat) else sbX X h t k
def sbN (X : Nat → Nat → Int) (h : Nat) : Nat → Int
  | 0 => 0
  | k + 1 => if 0 ≤ X 30 (3 * h + k) ∧ X 32 (3 * h + k) = 0 then sbN X h k + 1 else sbN X h k
def bdS (X : Nat → Nat → Int) (h : Nat) : Nat → Nat → Int := up (up (up (up X 14 h 0) 32 (3 * h + 0) 0) 32 (3 * h + 1) 0) 32 (3 * h + 2) 0
def fsS (X : Nat → Nat → Int) (h : Nat) (l : Int) : Nat → Int
  | 0 => l
  | k + 1 => if X 32 (3 * h + k) ≠ 0 ∧ X 33 (3 * h + k) < fsS X h l k then X 33 (3 * h + k) else fsS X h l k
def seS (X : Nat → Nat → Int) (h : Nat) (t : Int) : Nat → Nat → Nat → Int
  | 0 => X
  | k + 1 => if X 33 (3 * h + k) ≤ t then up (seS X h t k) 32 (3 * h + k) 0 else seS X h t k
def spS (X : Nat → Nat → Int) (h : Nat) (s e : Int) : Nat → Nat → Int :=
  if rsS X h = 0 then X else
    if 0 < qS X h s e then up (up (up X 18 h (X 18 h + (e - s))) 19 h (X 19 h + qS X h s e)) 22 h 0 else up (up X 18 h (X 18 h + (e - s))) 19 h (X 19 h + qS X h s e)
def cdS (X : Nat → Nat → Int) (h : Nat) : Nat → Nat → Int :=
  if X 22 h = 0 then up (up (up X 17 h (X 17 h - 3 * X 21 h)) 22 h 1) 21 h 0 else up (up (up (up X 17 h (X 17 h + 1)) 17 h (X 17 h + 1 - 3 * X 21 h)) 22 h 1) 21 h 0
def fiS (X : Nat → Nat → Int) (s : Nat) (t : Int) : Nat → Nat → Int :=
  if 0 ≤ X 34 s ∧ X 35 s ≤ t then up (up X 14 (X 34 s).toNat 1) 34 s (-1) else X
/-- nextChange: the first k houses, the first k crews -/
def ncH (X : Nat → Nat → Int) (n : Int) : Nat → Int
  | 0 => n
  | k + 1 => min (ncH X n k) (fsS X k (ncH X n k) 3)
def ncC (X : Nat → Nat → Int) (n : Int) : Nat → Int
  | 0 => n
  | k + 1 => if 0 ≤ X 34 k then min (ncC X n k) (X 35 k) else ncC X n k
def ncS (X : Nat → Nat → Int) (e : Int) : Int := ncC X (ncH X (min e (X 6 0 - X 6 0 % 1000 + 1000)) 8) 2
/-- passStretch, loop by loop -/
def pa1 (X : Nat → Nat → Int) (u : Int) : Nat → Nat → Nat → Int
  | 0 => X
  | k + 1 => spS (pa1 X u k) k (pa1 X u k 6 0) u
def pa2 (X : Nat → Nat → Int) : Nat → Nat → Nat → Int
  | 0 => X
  | k + 1 => seS (pa2 X k) k (pa2 X k 6 0) 3
def pa3 (X : Nat → Nat → Int) : Nat → Nat → Nat → Int
  | 0 => X
  | k + 1 => fiS (pa3 X k) k (pa3 X k 6 0)
def pa4 (X : Nat → Nat → Int) : Nat → Nat → Nat → Int
  | 0 => X
  | k + 1 => cdS (pa4 X k) k
def psA (X : Nat → Nat → Int) (u : Int) : Nat → Nat → Int := up (pa1 X u 8) 6 0 u
def psB (X : Nat → Nat → Int) (u : Int) : Nat → Nat → Int := pa3 (pa2 (psA X u) 8) 2
def psS (X : Nat → Nat → Int) (u : Int) : Nat → Nat → Int := if psB X u 6 0 % 1000 = 0 then pa4 (psB X u) 8 else psB X u
/-- pass: the first k stretches up to e -/
def paX (X : Nat → Nat → Int) (e : Int) : Nat → Nat → Nat → Int
  | 0 => X
  | k + 1 => if paX X e k 6 0 < e then psS (paX X e k) (ncS (paX X e k) e) else paX X e k
/-- press -/
def prV (X : Nat → Nat → Int) (h b k : Nat) : Int :=
  if X 14 h = 0 ∨ X 32 (3 * h + b) ≠ 0 then 0 else if 0 < qS X h (X 6 0) (X 6 0 + 1) then 2 else if mrS X h k = 0 then 0 else if 10 < rlS X h + X 31 (3 * h + b) then 3 else 1
def prX (X : Nat → Nat → Int) (h b k : Nat) : Nat → Nat → Int :=
  if X 14 h = 0 ∨ X 32 (3 * h + b) ≠ 0 then X else if 0 < qS X h (X 6 0) (X 6 0 + 1) then up X 20 h (X 20 h + 1) else if mrS X h k = 0 then X else if 10 < rlS X h + X 31 (3 * h + b) then bdS X h else ruS (urS X h k) (3 * h + b) (urS X h k 6 0 + 2 * urS X h k 37 k)
/-- fault: the first k houses -/
def faX (X : Nat → Nat → Int) (h : Nat) : Nat → Nat → Nat → Int
  | 0 => X
  | k + 1 => if k ≠ h ∧ k / 4 = h / 4 ∧ faX X h k 14 k ≠ 0 then sbX (faX X h k) k (faX X h k 6 0) 3 else faX X h k
def faN (X : Nat → Nat → Int) (h : Nat) : Nat → Int
  | 0 => 0
  | k + 1 => if k ≠ h ∧ k / 4 = h / 4 ∧ faX X h k 14 k ≠ 0 then faN X h k + sbN (faX X h k) k 3 else faN X h k
/-! what holds of X at every call: vc: which fields are ever compared, vlo, vhi: where they lie -/
def vc (f : Nat) : Bool := match f with
  | 7 => false | 17 => false | 18 => false | 19 => false | 20 => false | 21 => false | 38 => false | _ => true
def vlo (f : Nat) : Int := match f with
  | 30 => -1 | 31 => 1 | 34 => -1 | 37 => 1 | _ => 0
def vhi (f : Nat) : Int := match f with
  | 4 => 12 | 5 => 100 | 6 => 1000000 | 14 => 1 | 15 => 999 | 16 => 999 | 22 => 1 | 23 => 1000 | 30 => 11 | 31 => 9 | 32 => 1 | 33 => 1000024 | 34 => 7 | 35 => 1000050 | 36 => 7 | 37 => 12 | _ => 0
def VX (X : Nat → Nat → Int) : Prop := (∀ f i : Nat, vc f = true → vlo f ≤ X f i ∧ X f i ≤ vhi f) ∧ (∀ i : Nat, X 30 i < X 4 0) ∧ ∀ k : Nat, 0 ≤ X 38 k ∧ X 38 k < 16 ^ (X 37 k).toNat
theorem vx_up {X : Nat → Nat → Int} (h : VX X) {f i : Nat} {v : Int} (hf : f ≠ 4 ∧ f ≠ 30 ∧ f ≠ 37 ∧ f ≠ 38) (hv : vc f = true → vlo f ≤ v ∧ v ≤ vhi f) : VX (up X f i v) := by
  refine ⟨fun g j hg => ?_, fun j => ?_, fun k => ?_⟩
  · by_cases hq : g = f ∧ j = i
    · obtain ⟨rfl, rfl⟩ := hq
      rw [up_s]
      exact hv hg
    · have e : up X f i v g j = X g j := if_neg hq
      rw [e]
      exact h.1 g j hg
  · rw [up_f X i j v (Ne.symm hf.2.1), up_f X i 0 v (Ne.symm hf.1)]
    exact h.2.1 j
  · rw [up_f X i k v (Ne.symm hf.2.2.2), up_f X i k v (Ne.symm hf.2.2.1)]
    exact h.2.2 k
/-- a field that is never compared -/
theorem vx_uf {X : Nat → Nat → Int} (h : VX X) {f i : Nat} {v : Int} (hf : vc f = false ∧ f ≠ 38) : VX (up X f i v) := vx_up h ⟨fun q => by rw [q] at hf; exact absurd hf.1 (by decide), fun q => by rw [q] at hf; exact absurd hf.1 (by decide), fun q => by rw [q] at hf; exact absurd hf.1 (by decide), hf.2⟩ (fun q => by rw [hf.1] at q; cases q)
/-- a bell's melody -/
theorem vx_u30 {X : Nat → Nat → Int} (h : VX X) {i : Nat} {v : Int} (hv : -1 ≤ v ∧ v < X 4 0) : VX (up X 30 i v) := by
  have b4 : 0 ≤ X 4 0 ∧ X 4 0 ≤ 12 := h.1 4 0 rfl
  refine ⟨fun g j hg => ?_, fun j => ?_, fun k => ?_⟩
  · by_cases hq : g = 30 ∧ j = i
    · obtain ⟨rfl, rfl⟩ := hq
      rw [up_s]
      show -1 ≤ v ∧ v ≤ 11
      omega
    · have e : up X 30 i v g j = X g j := if_neg hq
      rw [e]
      exact h.1 g j hg
  · rw [up_f X i 0 v (by decide)]
    by_cases hq : j = i
    · rw [hq, up_s]
      exact hv.2
    · rw [up_i X 30 30 v hq]
      exact h.2.1 j
  · rw [up_f X i k v (by decide), up_f X i k v (by decide)]
    exact h.2.2 k
theorem vx_sp {X : Nat → Nat → Int} (h : VX X) (hh : Nat) (s e : Int) : VX (spS X hh s e) := by
  unfold spS
  split
  · exact h
  · have h2 := vx_uf (f := 19) (i := hh) (v := X 19 hh + qS X hh s e) (vx_uf (f := 18) (i := hh) (v := X 18 hh + (e - s)) h ⟨rfl, by decide⟩) ⟨rfl, by decide⟩
    split
    · exact vx_up h2 (by decide) (fun _ => by decide)
    · exact h2
theorem vx_ru {X : Nat → Nat → Int} (h : VX X) {i : Nat} {e : Int} (he : 0 ≤ e ∧ e ≤ 1000024) : VX (ruS X i e) := vx_up (f := 33) (vx_up (f := 32) h (by decide) (fun _ => by decide)) (by decide) (fun _ => he)
theorem sbX_f (X : Nat → Nat → Int) (h : Nat) (t : Int) {f : Nat} (hf : f ≠ 32 ∧ f ≠ 33) (j : Nat) : ∀ k : Nat, sbX X h t k f j = X f j := by
  intro k
  induction k with
  | zero => rfl
  | succ k ih =>
    unfold sbX
    split
    · unfold ruS
      rw [up_f _ _ _ _ hf.2, up_f _ _ _ _ hf.1]
      exact ih
    · exact ih
theorem sbX_i (X : Nat → Nat → Int) (h : Nat) (t : Int) (f j : Nat) : ∀ k : Nat, (j < 3 * h ∨ 3 * h + k ≤ j) → sbX X h t k f j = X f j := by
  intro k
  induction k with
  | zero => intro _; rfl
  | succ k ih =>
    intro hj
    unfold sbX
    split
    · unfold ruS
      rw [up_i _ _ _ _ (by omega), up_i _ _ _ _ (by omega)]
      exact ih (by omega)
    · exact ih (by omega)
theorem vx_sb {X : Nat → Nat → Int} (hV : VX X) {h : Nat} {t : Int} (ht : 0 ≤ t ∧ t ≤ 1000000) : ∀ k : Nat, VX (sbX X h t k) := by
  intro k
  induction k with
  | zero => exact hV
  | succ k ih =>
    unfold sbX
    split
    · have b : 1 ≤ X 37 (X 30 (3 * h + k)).toNat ∧ X 37 (X 30 (3 * h + k)).toNat ≤ 12 := hV.1 37 _ rfl
      exact vx_ru ih (by omega)
    · exact ih
theorem seS_f (X : Nat → Nat → Int) (h : Nat) (t : Int) {f : Nat} (hf : f ≠ 32) (j : Nat) : ∀ k : Nat, seS X h t k f j = X f j := by
  intro k
  induction k with
  | zero => rfl
  | succ k ih =>
    unfold seS
    split
    · rw [up_f _ _ _ _ hf]
      exact ih
    · exact ih
theorem vx_se {X : Nat → Nat → Int} (hV : VX X) (h : Nat) (t : Int) : ∀ k : Nat, VX (seS X h t k) := by
  intro k
  induction k with
  | zero => exact hV
  | succ k ih =>
    unfold seS
    split
    · exact vx_up ih (by decide) (fun _ => by decide)
    · exact ih
theorem vx_fi {X : Nat → Nat → Int} (hV : VX X) (s : Nat) (t : Int) : VX (fiS X s t) := by
  unfold fiS
  split
  · exact vx_up (f := 34) (vx_up (f := 14) hV (by decide) (fun _ => by decide)) (by decide) (fun _ => by decide)
  · exact hV
theorem vx_cd {X : Nat → Nat → Int} (hV : VX X) (h : Nat) : VX (cdS X h) := by
  unfold cdS
  split
  · exact vx_uf (f := 21) (vx_up (f := 22) (vx_uf (f := 17) hV ⟨rfl, by decide⟩) (by decide) (fun _ => by decide)) ⟨rfl, by decide⟩
  · exact vx_uf (f := 21) (vx_up (f := 22) (vx_uf (f := 17) (vx_uf (f := 17) hV ⟨rfl, by decide⟩) ⟨rfl, by decide⟩) (by decide) (fun _ => by decide)) ⟨rfl, by decide⟩
theorem vx_p1 {X : Nat → Nat → Int} (hV : VX X) (u : Int) : ∀ k : Nat, VX (pa1 X u k) := by
  intro k
  induction k with
  | zero => exact hV
  | succ k ih => exact vx_sp ih _ _ _
theorem vx_p2 {X : Nat → Nat → Int} (hV : VX X) : ∀ k : Nat, VX (pa2 X k) := by
  intro k
  induction k with
  | zero => exact hV
  | succ k ih => exact vx_se ih _ _ _
theorem vx_p3 {X : Nat → Nat → Int} (hV : VX X) : ∀ k : Nat, VX (pa3 X k) := by
  intro k
  induction k with
  | zero => exact hV
  | succ k ih => exact vx_fi ih _ _
theorem vx_p4 {X : Nat → Nat → Int} (hV : VX X) : ∀ k : Nat, VX (pa4 X k) := by
  intro k
  induction k with
  | zero => exact hV
  | succ k ih => exact vx_cd ih _
theorem vx_psA {X : Nat → Nat → Int} (hV : VX X) {u : Int} (hu : 0 ≤ u ∧ u ≤ 1000000) : VX (psA X u) := vx_up (vx_p1 hV u 8) (by decide) (fun _ => hu)
theorem vx_ps {X : Nat → Nat → Int} (hV : VX X) {u : Int} (hu : 0 ≤ u ∧ u ≤ 1000000) : VX (psS X u) := by
  have h3 : VX (psB X u) := vx_p3 (vx_p2 (vx_psA hV hu) 8) 2
  unfold psS
  split
  · exact vx_p4 h3 8
  · exact h3
theorem vx_bd {X : Nat → Nat → Int} (hV : VX X) (h : Nat) : VX (bdS X h) := vx_up (f := 32) (vx_up (f := 32) (vx_up (f := 32) (vx_up (f := 14) hV (by decide) (fun _ => by decide)) (by decide) (fun _ => by decide)) (by decide) (fun _ => by decide)) (by decide) (fun _ => by decide)
theorem vx_ur {X : Nat → Nat → Int} (hV : VX X) {h k : Nat} (hr : X 36 k = h ∨ 0 < X 23 (12 * h + k)) : VX (urS X h k) := by
  unfold urS
  split
  · exact hV
  · have b : 0 ≤ X 23 (12 * h + k) ∧ X 23 (12 * h + k) ≤ 1000 := hV.1 23 _ rfl
    exact vx_up hV (by decide) (fun _ => by show 0 ≤ _ ∧ _ ≤ (1000 : Int); omega)
theorem fs_le (X : Nat → Nat → Int) (h : Nat) (l : Int) : ∀ k : Nat, fsS X h l k ≤ l := by
  intro k
  induction k with
  | zero => exact Int.le_refl _
  | succ k ih =>
    unfold fsS
    split <;> omega
theorem fs_ge {X : Nat → Nat → Int} (hV : VX X) (h : Nat) {l : Int} (hl : 0 ≤ l) : ∀ k : Nat, 0 ≤ fsS X h l k := by
  intro k
  induction k with
  | zero => exact hl
  | succ k ih =>
    have b : 0 ≤ X 33 (3 * h + k) ∧ X 33 (3 * h + k) ≤ 1000024 := hV.1 33 _ rfl
    unfold fsS
    split <;> omega
theorem nh_le (X : Nat → Nat → Int) (n : Int) : ∀ k : Nat, ncH X n k ≤ n := by
  intro k
  induction k with
  | zero => exact Int.le_refl _
  | succ k ih =>
    unfold ncH
    omega
theorem nh_ge {X : Nat → Nat → Int} (hV : VX X) {n : Int} (hn : 0 ≤ n) : ∀ k : Nat, 0 ≤ ncH X n k := by
  intro k
  induction k with
  | zero => exact hn
  | succ k ih =>
    have := fs_ge hV k ih 3
    unfold ncH
    omega
theorem nc_le (X : Nat → Nat → Int) (n : Int) : ∀ k : Nat, ncC X n k ≤ n := by
  intro k
  induction k with
  | zero => exact Int.le_refl _
  | succ k ih =>
    unfold ncC
    split <;> omega
theorem nc_ge {X : Nat → Nat → Int} (hV : VX X) {n : Int} (hn : 0 ≤ n) : ∀ k : Nat, 0 ≤ ncC X n k := by
  intro k
  induction k with
  | zero => exact hn
  | succ k ih =>
    have b : 0 ≤ X 35 k ∧ X 35 k ≤ 1000050 := hV.1 35 _ rfl
    unfold ncC
    split <;> omega
theorem ncS_b {X : Nat → Nat → Int} (hV : VX X) {e : Int} (he : 0 ≤ e ∧ e ≤ 1000000) : 0 ≤ ncS X e ∧ ncS X e ≤ 1000000 := by
  have b : 0 ≤ X 6 0 ∧ X 6 0 ≤ 1000000 := hV.1 6 0 rfl
  have h0 : 0 ≤ min e (X 6 0 - X 6 0 % 1000 + 1000) := by omega
  have h1 := nh_ge hV h0 8
  have h2 := nc_ge hV h1 2
  have h3 := nh_le X (min e (X 6 0 - X 6 0 % 1000 + 1000)) 8
  have h4 := nc_le X (ncH X (min e (X 6 0 - X 6 0 % 1000 + 1000)) 8) 2
  unfold ncS
  omega
theorem vx_pa {X : Nat → Nat → Int} (hV : VX X) {e : Int} (he : 0 ≤ e ∧ e ≤ 1000000) : ∀ k : Nat, VX (paX X e k) := by
  intro k
  induction k with
  | zero => exact hV
  | succ k ih =>
    unfold paX
    split
    · exact vx_ps ih (ncS_b ih he)
    · exact ih
theorem urS_f (X : Nat → Nat → Int) (h k : Nat) {f : Nat} {j : Nat} (hf : f ≠ 23) : urS X h k f j = X f j := by
  unfold urS
  split
  · rfl
  · exact up_f X _ _ _ hf
theorem mr_of {X : Nat → Nat → Int} {h k : Nat} (q : mrS X h k ≠ 0) : X 36 k = h ∨ 0 < X 23 (12 * h + k) := by
  unfold mrS at q
  split at q
  · assumption
  · exact absurd rfl q
theorem vx_fa {X : Nat → Nat → Int} (hV : VX X) (h : Nat) : ∀ k : Nat, VX (faX X h k) := by
  intro k
  induction k with
  | zero => exact hV
  | succ k ih =>
    have b : 0 ≤ faX X h k 6 0 ∧ faX X h k 6 0 ≤ 1000000 := ih.1 6 0 rfl
    unfold faX
    split
    · exact vx_sb ih b 3
    · exact ih
theorem sbN_b (X : Nat → Nat → Int) (h : Nat) : ∀ k : Nat, 0 ≤ sbN X h k ∧ sbN X h k ≤ k := by
  intro k
  induction k with
  | zero => exact ⟨Int.le_refl _, Int.le_refl _⟩
  | succ k ih =>
    unfold sbN
    split <;> omega
theorem faN_b (X : Nat → Nat → Int) (h : Nat) : ∀ k : Nat, 0 ≤ faN X h k ∧ faN X h k ≤ 3 * k := by
  intro k
  induction k with
  | zero => exact ⟨Int.le_refl _, Int.le_refl _⟩
  | succ k ih =>
    have b := sbN_b (faX X h k) k 3
    unfold faN
    split <;> omega
/-- what a throw may do: new cells only -/
def TX (H H1 : Heap) : Prop := H.size ≤ H1.size ∧ ∀ q : Nat, q < H.size → H1[q]? = H[q]?
def RX (bx : Nat) : Nat → Prop := fun q => bx ≤ q ∧ q < bx + 55
theorem rx_ge {bx : Nat} : ∀ q, RX bx q → bx ≤ q := fun _ h => h.1
