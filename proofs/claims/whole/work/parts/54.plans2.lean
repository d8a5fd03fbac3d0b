/-! plans: powers, moving, what is kept, tallies, products -/
theorem w_power {post : Int32 → Prop} {b e : Nat} (he : e < 2 ^ 31) (h : post (nI (b ^ e))) : wp_Plans_power post (nI b) (nI e) :=
  lpU (fun n i => L_Plans_power_4 post (nI b) (nI e) n (nI (b ^ i)) (nI i)) e
    (fun n => pk_le e e (fun _ => h) (fun z => absurd z (by omega)))
    (fun n i hi hw => pk_le e i (fun z => absurd z (by omega)) (fun _ => nm_r (pk_mul _ _) (nm_r (nI_1 i) hw)))
theorem w_powerNeg {post : Int32 → Prop} {b : Nat} {e : Int32} (he : e ≤ 0) (h : post (nI 1)) : wp_Plans_power post (nI b) e :=
  ⟨1, ⟨fun _ => h, fun z => absurd he z⟩⟩
theorem w_unit {post : Int32 → Prop} {n c x : Nat} (hn : 0 < n) (hn7 : n ≤ 7) (hx : x < 8) (h : post (nI (c ^ (n - 1 - x)))) : wp_Plans_power post (nI c) ((nI n - 1) - nI x) := by
  have e1 : nI n - 1 = nI (n - 1) := pk_sub (b := 1) hn
  rw [e1]
  rcases Nat.lt_or_ge (n - 1) x with g | g
  · refine w_powerNeg ?_ ?_
    · have := pk_sneg (a := n - 1) (b := x) (by omega) g
      exact Int32.le_of_lt this
    · rw [show n - 1 - x = 0 by omega, Nat.pow_zero] at h
      exact h
  · rw [pk_sub g]
    exact w_power (by omega) h
theorem zz_fill {f : Nat → Int32} {s : Nat → Int32} {i k : Nat} {x : Int32} (hk : k = i) (h : ∀ j, j < i → s j = f j) (hx : x = f i) : ∀ j, j < i + 1 → upd s k x j = f j := by
  intro j hj
  rw [hk]
  by_cases e : j = i
  · rw [e, pk_us, hx]
  · rw [pk_un e]
    exact h j (by omega)
theorem w_shape {post : Int32 → Int32 → Int32 → (Nat → Int32) → Prop} {u : Nat → Int32} {n c : Nat} (hn : 0 < n) (hn7 : n ≤ 7) (h : ∀ f : Nat → Int32, (∀ j, j < 8 → f j = nI (c ^ (n - 1 - j))) → post (nI n) (nI c) (nI (c ^ n)) f) : wp_Plans_shape post u (nI n) (nI c) := by
  unfold wp_Plans_shape
  refine w_power (by omega) ?_
  exact pk_loop (fun k i s => L_Plans_shape_27 post (nI n) (nI c) (nI (c ^ n)) k s (nI i)) (fun i s => ∀ j, j < i → s j = nI (c ^ (n - 1 - j))) 8 0 u (by omega) (fun j hj => absurd hj (by omega))
    (fun k s hs => pk_le 8 8 (fun _ => h s hs) (fun z => absurd z (by omega)))
    (fun k i s hi hs hw => pk_le 8 i (fun z => absurd z (by omega)) (fun _ => w_unit hn hn7 hi ⟨pk_in i 8 hi, nm_r (nI_1 i) (hw _ (zz_fill (f := fun j => nI (c ^ (n - 1 - j))) (nI_clamp (by omega)) hs rfl))⟩))
/-- whether an int is a number below N -/
theorem w_has {post : Int32 → Prop} {N : Nat} {x : Int32} (hN : N < 2 ^ 31) (h1 : ∀ j, j < N → x = nI j → post 1) (h0 : (∀ j, j < N → x ≠ nI j) → post 0) : wp_Plans_has post (nI N) x := by
  unfold wp_Plans_has
  rcases pk_ix x hN with g | g | ⟨j, hj, rfl⟩
  · exact ⟨fun _ => h0 (fun j hj e => absurd g (by rw [e]; exact nI_pos (by omega))), fun z => absurd g z⟩
  · refine ⟨fun z => h0 (fun j hj e => absurd z (by rw [e]; exact nI_pos (by omega))), fun _ => ⟨fun _ => h0 (fun j hj e => ?_), fun z => absurd g z⟩⟩
    rw [e] at g
    exact absurd g (nI_ge hj hN)
  · exact ⟨fun z => absurd z (nI_pos (by omega)), fun _ => ⟨fun z => absurd z (nI_ge hj hN), fun _ => h1 j hj rfl⟩⟩
/-- what a row makes of a plan -/
def act (n c R p : Nat) : Nat := sm (fun x => col n c p x * c ^ (n - 1 - tg R x)) n
theorem w_moved {post : Int32 → Prop} {n c p R : Nat} {u : Nat → Int32} (hn : n ≤ 7) (hc : 0 < c) (hc4 : c ≤ 4) (hu : ∀ j, j < 8 → u j = nI (c ^ (n - 1 - j))) (hR : R < 2 ^ 32) (h : post (nI (act n c R p))) : wp_Plans_moved post (nI n) u (nI (spd n c p)) (nI R) :=
  lpU (fun k i => L_Plans_moved_5 post (nI n) u (nI (spd n c p)) (nI R) k (nI (sm (fun x => col n c p x * c ^ (n - 1 - tg R x)) i)) (nI i)) n
    (fun k => pk_le n n (fun _ => h) (fun z => absurd z (by omega)))
    (fun k i hi hw => pk_le n i (fun z => absurd z (by omega)) (fun _ => w_colPlan hn hc hc4 hi (w_tg hR (by omega) ⟨pk_in (tg R i) 8 (tg_lt R i), nm_r (by
      rw [nI_clamp (by have := tg_lt R i; omega), hu _ (tg_lt R i), pk_mul, nI_add]; rfl) (nm_r (nI_1 i) hw)⟩)))
def allB (P : Nat → Bool) : Nat → Bool
  | 0 => true
  | n + 1 => allB P n && P n
theorem allB_true {P : Nat → Bool} : ∀ n, allB P n = true ↔ ∀ i, i < n → P i = true := by
  intro n
  induction n with
  | zero => exact ⟨fun _ i hi => absurd hi (by omega), fun _ => rfl⟩
  | succ n ih =>
    show (allB P n && P n) = true ↔ _
    rw [Bool.and_eq_true, ih]
    constructor
    · intro ⟨h1, h2⟩ i hi
      by_cases e : i = n
      · rw [e]; exact h2
      · exact h1 i (by omega)
    · intro h
      exact ⟨fun i hi => h i (by omega), h n (by omega)⟩
theorem allB_false {P : Nat → Bool} {n i : Nat} (hi : i < n) (h : P i = false) : allB P n = false := by
  cases e : allB P n with
  | false => rfl
  | true => rw [(allB_true n).mp e i hi] at h; cases h
theorem allB_congr {P Q : Nat → Bool} {n : Nat} (h : ∀ i, i < n → P i = Q i) : allB P n = allB Q n := by
  induction n with
  | zero => rfl
  | succ n ih => show (allB P n && P n) = (allB Q n && Q n); rw [ih (fun i hi => h i (by omega)), h n (by omega)]
/-- a Bool as an int -/
def b2 (b : Bool) : Int32 := if b then 1 else 0
theorem b2_t : b2 true = 1 := rfl
theorem b2_f : b2 false = 0 := rfl
/-- a loop that stops at the first place where P fails -/
theorem lpB (W : Nat → Nat → Prop) (P : Nat → Bool) (e : Nat) (hx : allB P e = true → ∀ n, W (n + 1) e) (hs : ∀ n i, i < e → (P i = true → W n (i + 1)) → (P i = true ∨ P i = false ∧ allB P e = false) → W (n + 1) i) : ∃ n, W n 0 := by
  have key := pk_loop (σ := Unit) (fun n i _ => (∀ j, j < i → P j = true) → W n i) (fun _ _ => True) e 0 () (Nat.zero_le _) trivial
    (fun n _ _ hP => hx ((allB_true e).mpr hP) n)
    (fun n i _ hi _ hw hP => by
      refine hs n i hi (fun hPi => hw () trivial (fun j hj => ?_)) ?_
      · by_cases ej : j = i
        · rw [ej]; exact hPi
        · exact hP j (by omega)
      · cases eP : P i with
        | true => exact Or.inl rfl
        | false => exact Or.inr ⟨rfl, allB_false hi eP⟩)
  obtain ⟨n, hn⟩ := key
  exact ⟨n, hn (fun j hj => absurd hj (by omega))⟩
def kpt (n c R p : Nat) : Bool := allB (fun x => col n c p x == col n c p (tg R x)) n
theorem w_isKept {post : Int32 → Prop} {n c p R : Nat} (hn : n ≤ 7) (hc : 0 < c) (hc4 : c ≤ 4) (hR : R < 2 ^ 32) (ht : ∀ x, x < n → tg R x < n) (h : post (b2 (kpt n c R p))) : wp_Plans_isKept post (nI n) (nI (spd n c p)) (nI R) :=
  lpB (fun k i => L_Plans_isKept_2 post (nI n) (nI (spd n c p)) (nI R) k (nI i)) (fun x => col n c p x == col n c p (tg R x)) n
    (fun ha k => pk_le n n (fun _ => by unfold kpt at h; rw [ha] at h; exact h) (fun z => absurd z (by omega)))
    (fun k i hi hw hc2 => pk_le n i (fun z => absurd z (by omega)) (fun _ => w_colPlan hn hc hc4 hi (w_tg hR (by omega) (w_colPlan hn hc hc4 (ht i hi) (by
      have b1 := col_lt (n := n) (p := p) (x := i) hc
      have b3 := col_lt (n := n) (p := p) (x := tg R i) hc
      refine pk_eq _ _ (fun e => nm_r (nI_1 i) (hw (by rw [e]; exact beq_self_eq_true _))) (fun e => ?_) rfl rfl (by omega) (by omega)
      rcases hc2 with g | ⟨_, g⟩
      · exact absurd (eq_of_beq g) e
      · unfold kpt at h; rw [g] at h; exact h)))))
