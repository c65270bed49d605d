/-! THE REFERENCE: bounds of its state; what its methods do. -/
def sc (f : Nat) : Bool := match f with
  | 4 => false | 12 => false | 13 => false | 14 => false | 15 => false | 17 => false | 21 => false | 22 => false | _ => true
def slo (f : Nat) : Int := match f with
  | 6 => 1 | _ => 0
def shi (f : Nat) : Int := match f with
  | 0 => 1000000 | 1 => 12 | 2 => 7 | 3 => 12 | 5 => 12 | 6 => 9 | 7 => 1000024 | 8 => 1000 | 9 => 999 | 10 => 999 | 11 => 1 | 16 => 1 | 18 => 1000050 | 19 => 7 | 20 => 100 | _ => 0
def VS (S : Nat → Nat → Int) : Prop := (∀ f i : Nat, f < 22 → sc f = true → slo f ≤ S f i ∧ S f i ≤ shi f) ∧ (∀ i : Nat, S 5 i ≤ S 1 0) ∧ ∀ k : Nat, 0 ≤ S 4 k ∧ S 4 k < 16 ^ (S 3 k).toNat
theorem vs_up {S : Nat → Nat → Int} (h : VS S) {f i : Nat} {v : Int} (hf : f ≠ 1 ∧ f ≠ 3 ∧ f ≠ 4 ∧ f ≠ 5) (hv : f < 22 → sc f = true → slo f ≤ v ∧ v ≤ shi f) : VS (up S f i v) := by
  refine ⟨fun g j hg hg2 => ?_, fun j => ?_, fun k => ?_⟩
  · by_cases hq : g = f ∧ j = i
    · obtain ⟨rfl, rfl⟩ := hq
      rw [up_s]
      exact hv hg hg2
    · have e : up S f i v g j = S g j := if_neg hq
      rw [e]
      exact h.1 g j hg hg2
  · rw [up_f S i j v (Ne.symm hf.2.2.2), up_f S i 0 v (Ne.symm hf.1)]
    exact h.2.1 j
  · rw [up_f S i k v (Ne.symm hf.2.2.1), up_f S i k v (Ne.symm hf.2.1)]
    exact h.2.2 k
/-- a field that is never compared -/
theorem vs_uf {S : Nat → Nat → Int} (h : VS S) {f i : Nat} {v : Int} (hf : f = 12 ∨ f = 13 ∨ f = 14 ∨ f = 15 ∨ f = 17 ∨ f = 21 ∨ f = 22) : VS (up S f i v) :=
  vs_up h (by omega) (fun h1 h2 => by rcases hf with rfl | rfl | rfl | rfl | rfl | rfl | rfl <;> first | cases h2 | omega)
theorem vs_u5 {S : Nat → Nat → Int} (h : VS S) {i : Nat} {v : Int} (hv : 0 ≤ v ∧ v ≤ S 1 0) : VS (up S 5 i v) := by
  have b : 0 ≤ S 1 0 ∧ S 1 0 ≤ 12 := h.1 1 0 (by decide) rfl
  refine ⟨fun g j hg hg2 => ?_, fun j => ?_, fun k => ?_⟩
  · by_cases hq : g = 5 ∧ j = i
    · obtain ⟨rfl, rfl⟩ := hq
      rw [up_s]
      show 0 ≤ v ∧ v ≤ 12
      omega
    · have e : up S 5 i v g j = S g j := if_neg hq
      rw [e]
      exact h.1 g j hg hg2
  · rw [up_f S i 0 v (by decide)]
    by_cases hq : j = i
    · rw [hq, up_s]
      exact hv.2
    · rw [up_i S 5 5 v hq]
      exact h.2.1 j
  · rw [up_f S i k v (by decide), up_f S i k v (by decide)]
    exact h.2.2 k
theorem qM_b (S : Nat → Nat → Int) (h : Nat) : 0 ≤ qM S h ∧ qM S h ≤ 1 := by
  unfold qM
  (repeat' split) <;> omega
theorem vs_rg {S : Nat → Nat → Int} (h : VS S) (k : Nat) : VS (rgS S k) := by
  unfold rgS rg3 rg2 rg1
  split
  · refine vs_up (vs_uf (vs_uf h (by decide)) (by decide)) (by decide) (fun _ _ => ?_)
    have b : 0 ≤ S 16 k ∧ S 16 k ≤ 1 := h.1 16 k (by decide) rfl
    show 0 ≤ _ ∧ _ ≤ (1 : Int)
    split
    · simp [up]
      exact b
    · decide
  · exact h
theorem vs_s1 {S : Nat → Nat → Int} (h : VS S) : ∀ k : Nat, VS (sc1 S k) := by
  intro k
  induction k with
  | zero => exact h
  | succ k ih => exact vs_rg ih k
theorem vs_en {S : Nat → Nat → Int} (h : VS S) (k : Nat) : VS (en1 S k) := by
  have b : 0 ≤ S 7 k ∧ S 7 k ≤ 1000024 := h.1 7 k (by decide) rfl
  refine vs_up h (by decide) (fun _ _ => ?_)
  show 0 ≤ _ ∧ _ ≤ (1000024 : Int)
  split <;> omega
theorem vs_s2 {S : Nat → Nat → Int} (h : VS S) : ∀ k : Nat, VS (sc2 S k) := by
  intro k
  induction k with
  | zero => exact h
  | succ k ih => exact vs_en ih k
theorem vs_cr {S : Nat → Nat → Int} (h : VS S) (k : Nat) : VS (cr1 S k) := by
  unfold cr1
  split
  · exact vs_up (vs_up h (by decide) (fun _ _ => by decide)) (by decide) (fun _ _ => by decide)
  · exact h
theorem vs_s3 {S : Nat → Nat → Int} (h : VS S) : ∀ k : Nat, VS (sc3 S k) := by
  intro k
  induction k with
  | zero => exact h
  | succ k ih => exact vs_cr ih k
theorem vs_cd {S : Nat → Nat → Int} (h : VS S) (k : Nat) : VS (cd1 S k) := vs_uf (vs_up (vs_uf h (by decide)) (by decide) (fun _ _ => by decide)) (by decide)
theorem vs_s4 {S : Nat → Nat → Int} (h : VS S) : ∀ k : Nat, VS (sc4 S k) := by
  intro k
  induction k with
  | zero => exact h
  | succ k ih => exact vs_cd ih k
theorem rg_f (S : Nat → Nat → Int) (k : Nat) {f : Nat} (i : Nat) (hf : f ≠ 13 ∧ f ≠ 14 ∧ f ≠ 16) : rgS S k f i = S f i := by
  unfold rgS rg3 rg2 rg1
  split <;> simp [up, hf.1, hf.2.1, hf.2.2]
theorem s1_f (S : Nat → Nat → Int) {f : Nat} (i : Nat) (hf : f ≠ 13 ∧ f ≠ 14 ∧ f ≠ 16) : ∀ k : Nat, sc1 S k f i = S f i := by
  intro k
  induction k with
  | zero => rfl
  | succ k ih => exact (rg_f _ _ _ hf).trans ih
theorem s2_f (S : Nat → Nat → Int) {f : Nat} (i : Nat) (hf : f ≠ 7) : ∀ k : Nat, sc2 S k f i = S f i := by
  intro k
  induction k with
  | zero => rfl
  | succ k ih => exact (up_f _ _ _ _ hf).trans ih
theorem cr_f (S : Nat → Nat → Int) (k : Nat) {f : Nat} (i : Nat) (hf : f ≠ 11 ∧ f ≠ 18) : cr1 S k f i = S f i := by
  unfold cr1
  split <;> simp [up, hf.1, hf.2]
theorem s3_f (S : Nat → Nat → Int) {f : Nat} (i : Nat) (hf : f ≠ 11 ∧ f ≠ 18) : ∀ k : Nat, sc3 S k f i = S f i := by
  intro k
  induction k with
  | zero => rfl
  | succ k ih => exact (cr_f _ _ _ hf).trans ih
theorem s4_f (S : Nat → Nat → Int) {f : Nat} (i : Nat) (hf : f ≠ 12 ∧ f ≠ 16 ∧ f ≠ 17) : ∀ k : Nat, sc4 S k f i = S f i := by
  intro k
  induction k with
  | zero => rfl
  | succ k ih =>
    refine Eq.trans ?_ ih
    show cd1 (sc4 S k) k f i = _
    unfold cd1
    simp [up, hf.1, hf.2.1, hf.2.2]
theorem secA_0 (S : Nat → Nat → Int) : secA S 0 0 = S 0 0 + 1 := by
  unfold secA
  rw [up_s, s1_f S 0 (by decide) 8]
theorem secB_0 (S : Nat → Nat → Int) : secB S 0 0 = S 0 0 + 1 := by
  unfold secB
  rw [s3_f _ 0 (by decide) 2, s2_f _ 0 (by decide) 24, secA_0]
theorem sec_0 (S : Nat → Nat → Int) : secS S 0 0 = S 0 0 + 1 := by
  unfold secS
  split
  · rw [s4_f _ 0 (by decide) 8, secB_0]
  · exact secB_0 S
theorem vs_secA {S : Nat → Nat → Int} (h : VS S) (h6 : S 0 0 < 1000000) : VS (secA S) := by
  have b : 0 ≤ S 0 0 ∧ S 0 0 ≤ 1000000 := h.1 0 0 (by decide) rfl
  refine vs_up (vs_s1 h 8) (by decide) (fun _ _ => ?_)
  rw [s1_f S 0 (by decide) 8]
  show 0 ≤ _ ∧ _ ≤ (1000000 : Int)
  omega
theorem vs_secB {S : Nat → Nat → Int} (h : VS S) (h6 : S 0 0 < 1000000) : VS (secB S) := vs_s3 (vs_s2 (vs_secA h h6) 24) 2
theorem vs_sec {S : Nat → Nat → Int} (h : VS S) (h6 : S 0 0 < 1000000) : VS (secS S) := by
  unfold secS
  split
  · exact vs_s4 (vs_secB h h6) 8
  · exact vs_secB h h6
theorem seN_0 (S : Nat → Nat → Int) : ∀ n : Nat, seN S n 0 0 = S 0 0 + (n : Nat) := by
  intro n
  induction n with
  | zero => exact (Int.add_zero _).symm
  | succ n ih =>
    show secS (seN S n) 0 0 = _
    rw [sec_0, ih]
    omega
theorem vs_seN {S : Nat → Nat → Int} (h : VS S) : ∀ n : Nat, S 0 0 + (n : Nat) ≤ 1000000 → VS (seN S n) := by
  intro n
  induction n with
  | zero => intro _; exact h
  | succ n ih =>
    intro hn
    exact vs_sec (ih (by omega)) (by rw [seN_0]; omega)
/-! begins, breaks, fault, press -/
def beS (S : Nat → Nat → Int) (i : Nat) : Nat → Nat → Int := up S 7 i (S 0 0 + 2 * S 3 (S 5 i - 1).toNat)
def brM (S : Nat → Nat → Int) (h : Nat) : Nat → Nat → Int := up (up (up (up S 11 h 1) 7 (3 * h + 0) 0) 7 (3 * h + 1) 0) 7 (3 * h + 2) 0
def flS (S : Nat → Nat → Int) (h : Nat) : Nat → Nat → Nat → Int
  | 0 => S
  | j + 1 => if flS S h j 11 ((12 * (h / 4) + j) / 3) = 0 ∧ 0 < flS S h j 5 (12 * (h / 4) + j) ∧ flS S h j 7 (12 * (h / 4) + j) = 0 then beS (flS S h j) (12 * (h / 4) + j) else flS S h j
def flN (S : Nat → Nat → Int) (h : Nat) : Nat → Int
  | 0 => 0
  | j + 1 => if flS S h j 11 ((12 * (h / 4) + j) / 3) = 0 ∧ 0 < flS S h j 5 (12 * (h / 4) + j) ∧ flS S h j 7 (12 * (h / 4) + j) = 0 then flN S h j + (if (12 * (h / 4) + j) / 3 = h then 0 else 1) else flN S h j
def plM (S : Nat → Nat → Int) (h i : Nat) : Int := S 6 i + (if 0 < S 7 (3 * h + 0) then S 6 (3 * h + 0) else 0) + (if 0 < S 7 (3 * h + 1) then S 6 (3 * h + 1) else 0) + (if 0 < S 7 (3 * h + 2) then S 6 (3 * h + 2) else 0)
def rsM (S : Nat → Nat → Int) (h : Nat) : Int := (if 0 < S 7 (3 * h + 0) then 1 else 0) + (if 0 < S 7 (3 * h + 1) then 2 else 0) + (if 0 < S 7 (3 * h + 2) then 4 else 0)
theorem vs_be {S : Nat → Nat → Int} (h : VS S) (i : Nat) : VS (beS S i) := by
  have b0 : 0 ≤ S 0 0 ∧ S 0 0 ≤ 1000000 := h.1 0 0 (by decide) rfl
  have b3 : 0 ≤ S 3 (S 5 i - 1).toNat ∧ S 3 (S 5 i - 1).toNat ≤ 12 := h.1 3 _ (by decide) rfl
  refine vs_up h (by decide) (fun _ _ => ?_)
  show 0 ≤ _ ∧ _ ≤ (1000024 : Int)
  omega
theorem vs_br {S : Nat → Nat → Int} (h : VS S) (i : Nat) : VS (brM S i) := vs_up (vs_up (vs_up (vs_up h (by decide) (fun _ _ => by decide)) (by decide) (fun _ _ => by decide)) (by decide) (fun _ _ => by decide)) (by decide) (fun _ _ => by decide)
theorem vs_fl {S : Nat → Nat → Int} (h : VS S) (n : Nat) : ∀ j : Nat, VS (flS S n j) := by
  intro j
  induction j with
  | zero => exact h
  | succ j ih =>
    unfold flS
    split
    · exact vs_be ih _
    · exact ih
theorem flN_b (S : Nat → Nat → Int) (n : Nat) : ∀ j : Nat, 0 ≤ flN S n j ∧ flN S n j ≤ j := by
  intro j
  induction j with
  | zero => exact ⟨Int.le_refl _, Int.le_refl _⟩
  | succ j ih =>
    unfold flN
    (repeat' split) <;> omega
theorem fl_20 (S : Nat → Nat → Int) (n : Nat) {f i : Nat} (hf : f ≠ 7) : ∀ j : Nat, flS S n j f i = S f i := by
  intro j
  induction j with
  | zero => rfl
  | succ j ih =>
    unfold flS
    split
    · exact (up_f _ _ _ _ hf).trans ih
    · exact ih
theorem sr_of {f : Nat} (h : (2 ≤ f ∧ f ≤ 19 ∧ f ≠ 4) ∨ f = 21) : sR f := h
theorem rm_ge {bx bm : Nat} (h : bx ≤ bm) : ∀ q, RM bm q → bx ≤ q := fun _ hq => Nat.le_trans h hq.1
/-- a remainder that may be below 0, compared with 0 -/
theorem z2_tm (a : Int) (h : -100 ≤ a ∧ a ≤ 100) : z2 a - z2 a / z2 16 * z2 16 = z2 (Int.tmod a 16) := by
  have h1 := Int32.ofInt_tdiv (a := a) (b := 16) (by show (-2147483648 : Int) ≤ a; omega) (by show a ≤ (2147483647 : Int); omega) (by decide) (by decide)
  have h2 : z2 a / z2 16 = z2 (Int.tdiv a 16) := h1.symm
  rw [h2, z2_mul, z2_sub, Int.tmod_def, Int.mul_comm]
theorem tm_b (a : Int) (h : -100 ≤ a ∧ a ≤ 100) : -16 < Int.tmod a 16 ∧ Int.tmod a 16 < 16 ∧ (Int.tmod a 16 = 0 ↔ a % 16 = 0) := by
  rcases Int.le_total 0 a with h0 | h0
  · rw [Int.tmod_eq_emod_of_nonneg h0]
    omega
  · obtain ⟨b, rfl⟩ : ∃ b : Int, a = -b := ⟨-a, by omega⟩
    rw [Int.neg_tmod, Int.tmod_eq_emod_of_nonneg (by omega)]
    omega
