/-! sums and counts over 0 .. n - 1 -/
def sm (f : Nat → Nat) : Nat → Nat
  | 0 => 0
  | n + 1 => sm f n + f n
theorem sm_congr {f g : Nat → Nat} : ∀ n, (∀ i, i < n → f i = g i) → sm f n = sm g n := by
  intro n
  induction n with
  | zero => intro _; rfl
  | succ n ih =>
    intro h
    show sm f n + f n = sm g n + g n
    rw [ih (fun i hi => h i (by omega)), h n (by omega)]
theorem sm_add (f g : Nat → Nat) (n : Nat) : sm (fun i => f i + g i) n = sm f n + sm g n := by
  induction n with
  | zero => rfl
  | succ n ih =>
    show sm (fun i => f i + g i) n + (f n + g n) = sm f n + f n + (sm g n + g n)
    rw [ih]
    omega
theorem sm_zero (n : Nat) : sm (fun _ => 0) n = 0 := by
  induction n with
  | zero => rfl
  | succ n ih => show sm (fun _ => 0) n + 0 = 0; rw [ih]
theorem sm_const (k n : Nat) : sm (fun _ => k) n = n * k := by
  induction n with
  | zero => show 0 = 0 * k; rw [Nat.zero_mul]
  | succ n ih =>
    show sm (fun _ => k) n + k = (n + 1) * k
    rw [ih, Nat.succ_mul]
theorem sm_mul (k : Nat) (f : Nat → Nat) (n : Nat) : sm (fun i => k * f i) n = k * sm f n := by
  induction n with
  | zero => rfl
  | succ n ih =>
    show sm (fun i => k * f i) n + k * f n = k * (sm f n + f n)
    rw [ih, Nat.mul_add]
theorem sm_swap (f : Nat → Nat → Nat) (a b : Nat) : sm (fun i => sm (fun j => f i j) b) a = sm (fun j => sm (fun i => f i j) a) b := by
  induction a with
  | zero => show 0 = sm (fun j => 0) b; rw [sm_zero]
  | succ a ih =>
    show sm (fun i => sm (fun j => f i j) b) a + sm (fun j => f a j) b = sm (fun j => sm (fun i => f i j) a + f a j) b
    rw [ih, sm_add]
theorem sm_le {f g : Nat → Nat} : ∀ n, (∀ i, i < n → f i ≤ g i) → sm f n ≤ sm g n := by
  intro n
  induction n with
  | zero => intro _; exact Nat.le_refl _
  | succ n ih =>
    intro h
    exact Nat.add_le_add (ih (fun i hi => h i (by omega))) (h n (by omega))
/-- one place alone -/
theorem sm_at {f : Nat → Nat} {n k : Nat} (hk : k < n) (h : ∀ i, i < n → i ≠ k → f i = 0) : sm f n = f k := by
  induction n with
  | zero => omega
  | succ n ih =>
    show sm f n + f n = f k
    by_cases e : k = n
    · subst e
      rw [show sm f k = 0 from ?_, Nat.zero_add]
      rw [sm_congr k (g := fun _ => 0) (fun i hi => h i (by omega) (by omega)), sm_zero]
    · rw [ih (by omega) (fun i hi => h i (by omega)), h n (by omega) (fun z => e z.symm), Nat.add_zero]
theorem sm_pos {f : Nat → Nat} {n k : Nat} (hk : k < n) : f k ≤ sm f n := by
  induction n with
  | zero => omega
  | succ n ih =>
    show f k ≤ sm f n + f n
    by_cases e : k = n
    · subst e; omega
    · have := ih (by omega); omega
/-- as large as its bound in all, so at each place -/
theorem sm_eq_all {f g : Nat → Nat} : ∀ n, (∀ i, i < n → f i ≤ g i) → sm f n = sm g n → ∀ i, i < n → f i = g i := by
  intro n
  induction n with
  | zero => intro _ _ i hi; omega
  | succ n ih =>
    intro h e i hi
    have e' : sm f n + f n = sm g n + g n := e
    have h1 := sm_le n (fun i hi => h i (Nat.lt_succ_of_lt hi))
    have h2 := h n (by omega)
    by_cases ei : i = n
    · subst ei; omega
    · exact ih (fun i hi => h i (Nat.lt_succ_of_lt hi)) (by omega) i (by omega)
/-- how many i below n have P -/
def ct (P : Nat → Bool) (n : Nat) : Nat := sm (fun i => (P i).toNat) n
theorem ct_succ (P : Nat → Bool) (n : Nat) : ct P (n + 1) = ct P n + (P n).toNat := rfl
theorem ct_le (P : Nat → Bool) (n : Nat) : ct P n ≤ n := by
  have := sm_le (f := fun i => (P i).toNat) (g := fun _ => 1) n (fun i _ => by cases P i <;> decide)
  rw [sm_const] at this
  unfold ct
  omega
theorem ct_congr {P Q : Nat → Bool} (n : Nat) (h : ∀ i, i < n → P i = Q i) : ct P n = ct Q n := sm_congr n (fun i hi => by rw [h i hi])
theorem ct_mono (P : Nat → Bool) {a b : Nat} (h : a ≤ b) : ct P a ≤ ct P b := by
  induction b with
  | zero => have : a = 0 := by omega
            subst this; exact Nat.le_refl _
  | succ b ih =>
    by_cases e : a = b + 1
    · subst e; exact Nat.le_refl _
    · have h1 := ih (by omega)
      rw [ct_succ]; omega
theorem ct_lt {P : Nat → Bool} {a b : Nat} (h : a < b) (hP : P a = true) : ct P a < ct P b := by
  have h1 := ct_mono P (show a + 1 ≤ b from h)
  rw [ct_succ, hP] at h1
  exact h1
/-- a map of 0 .. n - 1 into itself that never takes two to one takes one to each -/
theorem inj_sur {σ : Nat → Nat} {n : Nat} (hm : ∀ i, i < n → σ i < n) (hi : ∀ i j, i < n → j < n → σ i = σ j → i = j) : ∀ j, j < n → sm (fun i => (σ i == j).toNat) n = 1 := by
  have h1 : ∀ j, j < n → sm (fun i => (σ i == j).toNat) n ≤ 1 := by
    intro j _
    by_cases e : ∃ k, k < n ∧ σ k = j
    · obtain ⟨k, hk, rfl⟩ := e
      rw [sm_at hk (fun i hi' hne => by
        have : (σ i == σ k) = false := by simpa using fun z => hne (hi i k hi' hk z)
        rw [this]; rfl)]
      simp
    · rw [sm_congr n (g := fun _ => 0) (fun i hi' => by
        have : (σ i == j) = false := by simpa using fun z => e ⟨i, hi', z⟩
        rw [this]; rfl), sm_zero]
      omega
  have h2 : sm (fun j => sm (fun i => (σ i == j).toNat) n) n = sm (fun _ => 1) n := by
    rw [← sm_swap]
    refine sm_congr n (fun i hi' => ?_)
    rw [sm_at (hm i hi') (fun j _ hne => by
      have : (σ i == j) = false := by simpa using fun z => hne z.symm
      rw [this]; rfl)]
    simp
  exact sm_eq_all n h1 h2
theorem inj_hit {σ : Nat → Nat} {n : Nat} (hm : ∀ i, i < n → σ i < n) (hi : ∀ i j, i < n → j < n → σ i = σ j → i = j) (j : Nat) (hj : j < n) : ∃ i, i < n ∧ σ i = j := by
  have h := inj_sur hm hi j hj
  by_cases e : ∃ k, k < n ∧ σ k = j
  · exact e
  · rw [sm_congr n (g := fun _ => 0) (fun i hi' => by
      have : (σ i == j) = false := by simpa using fun z => e ⟨i, hi', z⟩
      rw [this]; rfl), sm_zero] at h
    omega
theorem sm_perm {σ : Nat → Nat} {n : Nat} (hm : ∀ i, i < n → σ i < n) (hi : ∀ i j, i < n → j < n → σ i = σ j → i = j) (f : Nat → Nat) : sm (fun i => f (σ i)) n = sm f n := by
  have e1 : sm (fun i => f (σ i)) n = sm (fun i => sm (fun j => f j * (σ i == j).toNat) n) n := by
    refine sm_congr n (fun i hi' => ?_)
    rw [sm_at (k := σ i) (hm i hi') (fun j _ hne => by
      have : (σ i == j) = false := by simpa using fun z => hne z.symm
      rw [this]; rfl)]
    simp
  rw [e1, sm_swap]
  refine sm_congr n (fun j hj => ?_)
  rw [sm_mul, inj_sur hm hi j hj, Nat.mul_one]
