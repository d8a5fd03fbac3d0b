/-! plans, second: tallies, products; the reference's look, makes, within -/
theorem w_tally {post : Int32 → Prop} {n c p : Nat} (hn : n ≤ 7) (hc : 0 < c) (hc4 : c ≤ 4) (h : post (nI (sm (fun x => 16 ^ col n c p x) n))) : wp_Plans_tally post (nI n) (nI (spd n c p)) :=
  lpU (fun k i => L_Plans_tally_4 post (nI n) (nI (spd n c p)) k (nI (sm (fun x => 16 ^ col n c p x) i)) (nI i)) n
    (fun k => pk_le n n (fun _ => h) (fun z => absurd z (by omega)))
    (fun k i hi hw => pk_le n i (fun z => absurd z (by omega)) (fun _ => w_colPlan hn hc hc4 hi (nm_r (by
      have b1 := col_lt (n := n) (p := p) (x := i) hc
      rw [show (4 : Int32) * nI (col n c p i) = nI (4 * col n c p i) from pk_mul 4 _, show (1 : Int32) = nI 1 from rfl, zz_shl (by omega) ?_, nI_add, Nat.one_mul, Nat.pow_mul]
      · rfl
      · rw [Nat.one_mul]
        exact Nat.pow_lt_pow_right (by decide) (by omega)) (nm_r (nI_1 i) hw))))
def pw (f : Nat → Int64) : Nat → Int64
  | 0 => 1
  | x + 1 => pw f x * f x
theorem w_product {post : Int64 → Prop} {n c p : Nat} {wt : Nat → Int32} (hn : n ≤ 7) (hc : 0 < c) (hc4 : c ≤ 4) (h : post (pw (fun x => (wt (col n c p x)).toInt64) n)) : wp_Plans_product post (nI n) 4 wt (nI (spd n c p)) :=
  lpU (fun k i => L_Plans_product_5 post (nI n) 4 wt (nI (spd n c p)) k (pw (fun x => (wt (col n c p x)).toInt64) i) (nI i)) n
    (fun k => pk_le n n (fun _ => h) (fun z => absurd z (by omega)))
    (fun k i hi hw => pk_le n i (fun z => absurd z (by omega)) (fun _ => w_colPlan hn hc hc4 hi (by
      have b1 := col_lt (n := n) (p := p) (x := i) hc
      refine pk_le 4 (col n c p i) (fun z => absurd z (by omega)) (fun _ => ⟨pk_in _ 4 (by omega), nm_r (by rw [nI_clamp (by omega)]; rfl) (nm_r (nI_1 i) hw)⟩) rfl rfl (by omega) (by omega))))
theorem w_within {post : Int32 → Prop} {N : Nat} {x : Int32} (h0 : 0 < N) (hN : N < 2 ^ 30) (h1 : ∀ j, j < N → x = nI j → post 1) (h2 : (∀ j, j < N → x ≠ nI j) → post 0) : wp_Mo_within post x 0 (nI N - 1) := by
  unfold wp_Mo_within
  rw [show nI N - 1 = nI (N - 1) from pk_sub (b := 1) h0]
  rcases pk_ix x (show N < 2 ^ 31 by omega) with g | g | ⟨j, hj, rfl⟩
  · exact ⟨fun _ => h2 (fun j hj e => absurd g (by rw [e]; exact nI_pos (by omega))), fun z => absurd g z⟩
  · have g0 : ¬ x < 0 := fun z => by
      have a1 := Int32.lt_iff_toInt_lt.mp z
      have a2 := Int32.le_iff_toInt_le.mp g
      rw [nI_toInt (by omega)] at a2
      have a3 : (0 : Int32).toInt = 0 := by decide
      omega
    have g1 : nI (N - 1) < x := by
      have a2 := Int32.le_iff_toInt_le.mp g
      rw [nI_toInt (by omega)] at a2
      apply Int32.lt_iff_toInt_lt.mpr
      rw [nI_toInt (by omega)]
      omega
    refine ⟨fun z => absurd z g0, fun _ => ⟨fun _ => h2 (fun j hj e => ?_), fun z => absurd g1 z⟩⟩
    rw [e] at g
    exact absurd g (nI_ge hj (by omega))
  · exact ⟨fun z => absurd z (nI_pos (by omega)), fun _ => ⟨fun z => absurd z (nI_nlt (by omega) (by omega)), fun _ => h1 j hj rfl⟩⟩
theorem w_isPlan {post : Int32 → Prop} {N : Nat} {x : Int32} (h0 : 0 < N) (hN : N < 2 ^ 30) (h1 : ∀ j, j < N → x = nI j → post 1) (h2 : (∀ j, j < N → x ≠ nI j) → post 0) : wp_Mo_isPlan post (nI N) x :=
  w_within h0 hN (fun j hj e => ⟨Or.inr rfl, h1 j hj e⟩) (fun h => ⟨Or.inl rfl, h2 h⟩)
/-- the colours of a plan lie in an array -/
def Col (n c p : Nat) (f : Nat → Int32) : Prop := ∀ x, x < n → f x = nI (col n c p x)
theorem w_look {post : (Nat → Int32) → Prop} {n c p : Nat} {f0 : Nat → Int32} (hn : n ≤ 7) (hc : 0 < c) (hc4 : c ≤ 4) (hp : p < 2 ^ 31) (h : ∀ f, Col n c p f → post f) : wp_Mo_look post (nI n) (nI c) f0 (nI p) := by
  unfold wp_Mo_look
  intro x3 e3
  subst e3
  have key := pk_loopD (fun k i (s : Nat → Int32) => L_Mo_look_9 post (nI c) k s (nI (p / c ^ (n - i))) (nI i - 1)) (fun i s => i ≤ n ∧ ∀ x, i ≤ x → x < n → s x = nI (col n c p x))
    (fun k s hs => ⟨fun _ => h s (fun x hx => hs.2 x (Nat.zero_le _) hx), fun z => absurd (show nI 0 - 1 < 0 by decide) z⟩)
    (fun k i s hi hw => by
      have hq : p / c ^ (n - (i + 1)) < 2 ^ 31 := Nat.lt_of_le_of_lt (Nat.div_le_self _ _) hp
      have h1 := hi.1
      rw [nI_pred]
      refine ⟨fun z => absurd z (nI_pos (by omega)), fun _ => ⟨nI_ne0 hc (by omega), nm_r (e' := nI (col n c p i)) ?_ ⟨pk_in i 7 (by omega), nI_ne0 hc (by omega), nm_r (e' := nI (p / c ^ (n - i))) ?_ (nm_r (e' := nI i - 1) (zz_m1 _) (hw _ ⟨by omega, fun x hx hxn => ?_⟩))⟩⟩⟩
      · rw [pk_rem hq hc (by omega), show n - (i + 1) = n - 1 - i by omega]
        rfl
      · rw [pk_div hq hc (by omega), Nat.div_div_eq_div_mul, ← Nat.pow_succ]
        congr 3
        omega
      · rw [nI_clamp (by omega)]
        by_cases e : x = i
        · rw [e, pk_us]
        · rw [pk_un e]
          exact hi.2 x (by omega) hxn)
    n f0 ⟨Nat.le_refl n, fun x h1 h2 => absurd h2 (by omega)⟩
  refine ⟨n + 1, ?_⟩
  have key' : L_Mo_look_9 post (nI c) (n + 1) f0 (nI (p / c ^ (n - n))) (nI n - 1) := key
  rw [Nat.sub_self, Nat.pow_zero, Nat.div_one] at key'
  exact key'
/-- a row that is a permutation of n points -/
def isP (n R : Nat) : Prop := R < 8 ^ n ∧ (∀ x, x < n → tg R x < n) ∧ ∀ x y, x < n → y < n → tg R x = tg R y → x = y
theorem isP_lt {n R : Nat} (hn : n ≤ 7) (h : isP n R) : R < 2 ^ 21 := by
  have h1 : 8 ^ n ≤ 8 ^ 7 := Nat.pow_le_pow_right (by decide) hn
  have h2 := h.1
  have h3 : (8 : Nat) ^ 7 = 2 ^ 21 := by decide
  omega
theorem zz_tgS {R x : Nat} (hR : R < 2 ^ 31) (hx : x ≤ 10) : (nI R >>> (((3 : Int32) * nI x) &&& 31)) &&& (7 : Int32) = nI (tg R x) := by
  rw [show (3 : Int32) * nI x = nI (3 * x) from pk_mul 3 x, pk_shrN hR _ (3 * x) (zz_l _ (by omega)), zz_pow8, pk_andN (Nat.lt_of_le_of_lt (Nat.div_le_self _ _) (by omega)) 3 (by decide)]
  rfl
def horn (u : Nat → Nat) (c : Nat) : Nat → Nat
  | 0 => 0
  | i + 1 => c * horn u c i + u i
theorem horn_sm (u : Nat → Nat) (c : Nat) : ∀ i, horn u c i = sm (fun y => u y * c ^ (i - 1 - y)) i := by
  intro i
  induction i with
  | zero => rfl
  | succ i ih =>
    show c * horn u c i + u i = sm (fun y => u y * c ^ (i + 1 - 1 - y)) i + u i * c ^ (i + 1 - 1 - i)
    rw [ih, ← sm_mul, show i + 1 - 1 - i = 0 by omega, Nat.pow_zero, Nat.mul_one]
    congr 1
    refine sm_congr i (fun y hy => ?_)
    rw [show i + 1 - 1 - y = (i - 1 - y) + 1 by omega, Nat.pow_succ, ← Nat.mul_assoc, Nat.mul_comm c, Nat.mul_assoc, Nat.mul_comm c]
theorem horn_lt {u : Nat → Nat} {c : Nat} : ∀ i, (∀ y, y < i → u y < c) → horn u c i < c ^ i := by
  intro i
  induction i with
  | zero => intro _; exact Nat.one_pos
  | succ i ih =>
    intro h
    have h1 := ih (fun y hy => h y (by omega))
    have h2 := h i (by omega)
    show c * horn u c i + u i < c ^ (i + 1)
    have h3 : c * (horn u c i + 1) ≤ c * c ^ i := Nat.mul_le_mul_left _ h1
    rw [Nat.mul_add, Nat.mul_one] at h3
    rw [Nat.pow_succ, Nat.mul_comm (c ^ i)]
    omega
/-- where each colour comes to lie -/
theorem act_horn {n c R p : Nat} {u : Nat → Nat} (hP : isP n R) (hu : ∀ x, x < n → u (tg R x) = col n c p x) : horn u c n = act n c R p := by
  rw [horn_sm]
  rw [← sm_perm (σ := tg R) hP.2.1 (fun i j hi hj e => hP.2.2 i j hi hj e)]
  exact sm_congr n (fun x hx => by show u (tg R x) * _ = _; rw [hu x hx])
theorem act_inv {n c R p : Nat} (hP : isP n R) : ∃ u : Nat → Nat, ∀ x, x < n → u (tg R x) = col n c p x := by
  have : ∀ y, ∃ v, ∀ x, x < n → tg R x = y → v = col n c p x := by
    intro y
    by_cases e : ∃ x, x < n ∧ tg R x = y
    · obtain ⟨x, hx, hxy⟩ := e
      refine ⟨col n c p x, fun x' hx' h' => ?_⟩
      rw [hP.2.2 x x' hx hx' (hxy.trans h'.symm)]
    · exact ⟨0, fun x hx h => absurd ⟨x, hx, h⟩ e⟩
  refine ⟨fun y => (this y).choose, fun x hx => (this (tg R x)).choose_spec x hx rfl⟩
theorem act_lt {n c R p : Nat} (hc : 0 < c) (hP : isP n R) : act n c R p < c ^ n := by
  obtain ⟨u, hu⟩ := act_inv (c := c) (p := p) hP
  rw [← act_horn hP hu]
  refine horn_lt n (fun y hy => ?_)
  obtain ⟨x, hx, hxy⟩ := inj_hit hP.2.1 (fun i j hi hj e => hP.2.2 i j hi hj e) y hy
  rw [← hxy, hu x hx]
  exact col_lt hc
theorem w_makes {post : Int32 → (Nat → Int32) → Prop} {n c p R : Nat} {cf tn : Nat → Int32} (hn : n ≤ 7) (hP : isP n R) (hcf : Col n c p cf) (h : ∀ f, post (nI (act n c R p)) f) : wp_Mo_makes post (nI n) (nI c) cf tn (nI R) := by
  have hR := isP_lt hn hP
  refine pk_loop (fun k i s => L_Mo_makes_7 post (nI n) (nI c) cf (nI R) k s (nI i)) (fun i s => ∀ x, x < i → s (tg R x) = nI (col n c p x)) n 0 tn (Nat.zero_le _) (fun x hx => absurd hx (by omega)) ?_ ?_
  · intro k s hs
    refine pk_le n n (fun _ => ?_) (fun z => absurd z (by omega))
    obtain ⟨u, hu⟩ := act_inv (c := c) (p := p) hP
    have hsu : ∀ y, y < n → s y = nI (u y) := by
      intro y hy
      obtain ⟨x, hx, hxy⟩ := inj_hit hP.2.1 (fun i j hi hj e => hP.2.2 i j hi hj e) y hy
      rw [← hxy, hs x hx, hu x hx]
    exact lpU (fun k i => L_Mo_makes_42 post (nI n) (nI c) s k (nI (horn u c i)) (nI i)) n
      (fun k => pk_le n n (fun _ => by rw [act_horn hP hu]; exact h s) (fun z => absurd z (by omega)))
      (fun k i hi hw => pk_le n i (fun z => absurd z (by omega)) (fun _ => ⟨pk_in i 7 (by omega), nm_r (by
        rw [nI_clamp (by omega), hsu i hi, pk_mul, nI_add]; rfl) (nm_r (nI_1 i) hw)⟩))
  · intro k i s hi hs hw
    refine pk_le n i (fun z => absurd z (by omega)) (fun _ => ⟨pk_in i 7 (by omega), nm_r (e' := nI (col n c p i)) (by rw [nI_clamp (by omega)]; exact hcf i hi) ?_⟩)
    rw [zz_tgS (by omega) (by omega)]
    have ht := hP.2.1 i hi
    refine ⟨pk_in (tg R i) 7 (by omega), nm_r (nI_1 i) (hw _ (fun x hx => ?_))⟩
    rw [nI_clamp (by omega)]
    by_cases e : x = i
    · rw [e, pk_us]
    · rw [pk_un (fun z => e (hP.2.2 x i (by omega) hi z))]
      exact hs x (by omega)
