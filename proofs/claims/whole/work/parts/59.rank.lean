/-! ranks of permutations -/
def fc : Nat → Nat
  | 0 => 1
  | k + 1 => (k + 1) * fc k
theorem fc_pos : ∀ k, 0 < fc k := by
  intro k
  induction k with
  | zero => decide
  | succ k ih => exact Nat.mul_pos (by omega) ih
def lh (n : Nat) (t : Nat → Nat) (x : Nat) : Nat := ct (fun y => decide (x < y) && decide (t y < t x)) n
def tlr (n : Nat) (t : Nat → Nat) : Nat → Nat
  | 0 => 0
  | m + 1 => lh n t (n - 1 - m) * fc m + tlr n t m
def rk (n : Nat) (t : Nat → Nat) : Nat := tlr n t n
def pmt (n : Nat) (t : Nat → Nat) : Prop := (∀ x, x < n → t x < n) ∧ ∀ x y, x < n → y < n → t x = t y → x = y
theorem isP.pmt {n R : Nat} (h : isP n R) : pmt n (tg R) := h.2
theorem ct_le2 {P Q : Nat → Bool} (n : Nat) (h : ∀ i, i < n → P i = true → Q i = true) : ct P n ≤ ct Q n := sm_le n (fun i hi => by
  cases e : P i with
  | false => exact Nat.zero_le _
  | true => rw [h i hi e]; exact Nat.le_refl _)
theorem ct_split (P : Nat → Bool) (i : Nat) : ∀ n, i ≤ n → ct P n = ct P i + ct (fun y => decide (i ≤ y) && P y) n := by
  intro n
  induction n with
  | zero => intro h; rw [show i = 0 by omega]; rfl
  | succ n ih =>
    intro h
    by_cases e : i = n + 1
    · rw [e]
      have : ct (fun y => decide (n + 1 ≤ y) && P y) (n + 1) = ct (fun _ => false) (n + 1) := ct_congr _ (fun y hy => by rw [decide_eq_false (by omega)]; rfl)
      rw [this, show ct (fun _ => false) (n + 1) = 0 from sm_zero (n + 1)]
      exact (Nat.add_zero _).symm
    · rw [ct_succ, ct_succ, ih (by omega), decide_eq_true (show i ≤ n by omega), Bool.true_and]
      omega
theorem ct_below (a : Nat) : ∀ n, a ≤ n → ct (fun v => decide (v < a)) n = a := by
  intro n
  induction n with
  | zero => intro h; rw [show a = 0 by omega]; rfl
  | succ n ih =>
    intro h
    by_cases e : a = n + 1
    · have : ct (fun v => decide (v < a)) (n + 1) = sm (fun _ => 1) (n + 1) := sm_congr _ (fun v hv => by show (decide (v < a)).toNat = 1; rw [decide_eq_true (by omega)]; rfl)
      rw [this, sm_const, Nat.mul_one, e]
    · rw [ct_succ, ih (by omega), decide_eq_false (by omega)]
      rfl
theorem lh_le (n : Nat) (t : Nat → Nat) {x : Nat} (hx : x < n) : lh n t x ≤ n - 1 - x := by
  have h1 : lh n t x ≤ ct (fun y => decide (x < y)) n := ct_le2 n (fun y _ h => by rw [Bool.and_eq_true] at h; exact h.1)
  have h2 := ct_split (fun _ => true) (x + 1) n (by omega)
  have h3 : ct (fun _ => true) n = n := by show sm (fun _ => 1) n = n; rw [sm_const, Nat.mul_one]
  have h4 : ct (fun _ => true) (x + 1) = x + 1 := by show sm (fun _ => 1) (x + 1) = x + 1; rw [sm_const, Nat.mul_one]
  have h5 : ct (fun y => decide (x + 1 ≤ y) && true) n = ct (fun y => decide (x < y)) n := ct_congr n (fun y _ => by rw [Bool.and_true]; rfl)
  omega
theorem tlr_lt {n : Nat} {t : Nat → Nat} : ∀ m, m ≤ n → tlr n t m < fc m := by
  intro m
  induction m with
  | zero => intro _; exact (by decide : 0 < 1)
  | succ m ih =>
    intro h
    have h1 := ih (by omega)
    have h2 := lh_le n t (x := n - 1 - m) (by omega)
    have h3 : lh n t (n - 1 - m) * fc m ≤ m * fc m := Nat.mul_le_mul_right _ (by omega)
    show lh n t (n - 1 - m) * fc m + tlr n t m < (m + 1) * fc m
    rw [Nat.succ_mul]
    omega
theorem fc_le7 : ∀ k, k ≤ 7 → fc k ≤ 5040 := by decide
theorem rk_lt {n : Nat} {t : Nat → Nat} (hn : n ≤ 7) : rk n t < 5040 := Nat.lt_of_lt_of_le (tlr_lt n (Nat.le_refl n)) (fc_le7 n hn)
theorem rk_ltf {n : Nat} {t : Nat → Nat} : rk n t < fc n := tlr_lt n (Nat.le_refl n)
/-- how many before i go below a: by the mask -/
theorem msk_ct {t : Nat → Nat} {a : Nat} : ∀ i, (∀ y, y < i → t y < 8) → (∀ x y, x < i → y < i → t x = t y → x = y) → ct (fun b => (msk t i).testBit b && decide (b < a)) 8 = ct (fun y => decide (t y < a)) i := by
  intro i
  induction i with
  | zero => intro _ _; exact (ct_congr 8 (Q := fun _ => false) (fun b _ => by rw [show msk t 0 = 0 from rfl, Nat.zero_testBit]; rfl)).trans (sm_zero 8)
  | succ i ih =>
    intro h8 hi
    rw [ct_succ (fun y => decide (t y < a)) i, ← ih (fun y hy => h8 y (by omega)) (fun x y hx hy => hi x y (by omega) (by omega))]
    have hf : (msk t i).testBit (t i) = false := by
      cases e : (msk t i).testBit (t i) with
      | false => rfl
      | true =>
        obtain ⟨y, hy, hyi⟩ := (msk_bit t i (t i)).mp e
        have := hi y i (by omega) (by omega) hyi
        omega
    have e1 : ct (fun b => (msk t (i + 1)).testBit b && decide (b < a)) 8 = sm (fun b => ((msk t i).testBit b && decide (b < a)).toNat + (decide (b = t i) && decide (t i < a)).toNat) 8 := by
      refine sm_congr 8 (fun b hb => ?_)
      show (((msk t i ||| 2 ^ t i).testBit b) && decide (b < a)).toNat = _
      rw [Nat.testBit_or, Nat.testBit_two_pow]
      by_cases eb : b = t i
      · subst eb
        rw [hf, decide_eq_true rfl]
        cases decide (t i < a) <;> rfl
      · rw [decide_eq_false (fun z => eb z.symm), decide_eq_false eb, Bool.or_false, Bool.false_and]
        rfl
    rw [e1, sm_add, sm_at (f := fun b => (decide (b = t i) && decide (t i < a)).toNat) (k := t i) (h8 i (by omega)) (fun b _ hne => by rw [decide_eq_false hne]; rfl)]
    rw [decide_eq_true (rfl : t i = t i), Bool.true_and]
    rfl
theorem ct_and_lt (P : Nat → Bool) {a n : Nat} (h : a ≤ n) : ct (fun b => P b && decide (b < a)) n = ct P a := by
  rw [ct_split _ a n h]
  have e1 : ct (fun b => P b && decide (b < a)) a = ct P a := ct_congr a (fun b hb => by rw [decide_eq_true hb, Bool.and_true])
  have e2 : ct (fun y => decide (a ≤ y) && (P y && decide (y < a))) n = ct (fun _ => false) n := ct_congr n (fun y _ => by
    by_cases g : a ≤ y
    · rw [decide_eq_false (show ¬ y < a by omega), Bool.and_false, Bool.and_false]
    · rw [decide_eq_false g]; rfl)
  rw [e1, e2]
  show _ + sm (fun _ => 0) n = _
  rw [sm_zero, Nat.add_zero]
theorem pmt_low {n : Nat} {t : Nat → Nat} (hP : pmt n t) {a : Nat} (ha : a ≤ n) : ct (fun y => decide (t y < a)) n = a := by
  have := sm_perm (σ := t) hP.1 (fun i j hi hj e => hP.2 i j hi hj e) (fun v => (decide (v < a)).toNat)
  rw [show ct (fun y => decide (t y < a)) n = sm (fun v => (decide (v < a)).toNat) n from this]
  exact ct_below a n ha
theorem lh_eq {n : Nat} {t : Nat → Nat} (hP : pmt n t) {i : Nat} (hi : i < n) : t i = ct (fun y => decide (t y < t i)) i + lh n t i := by
  have h1 := pmt_low hP (a := t i) (Nat.le_of_lt (hP.1 i hi))
  rw [ct_split _ i n (by omega)] at h1
  have e2 : ct (fun y => decide (i ≤ y) && decide (t y < t i)) n = lh n t i := ct_congr n (fun y _ => by
    by_cases g : y = i
    · subst g
      rw [decide_eq_false (Nat.lt_irrefl (t y)), Bool.and_false, Bool.and_false]
    · congr 1
      exact decide_eq_decide.mpr ⟨fun z => by omega, fun z => by omega⟩)
  omega
def hv (n : Nat) (t : Nat → Nat) : Nat → Nat
  | 0 => 0
  | i + 1 => hv n t i * (n - i) + lh n t i
theorem hv_eq {n : Nat} {t : Nat → Nat} : ∀ i, i ≤ n → hv n t i * fc (n - i) + tlr n t (n - i) = rk n t := by
  intro i
  induction i with
  | zero => intro _; show 0 * _ + tlr n t (n - 0) = tlr n t n; rw [Nat.zero_mul, Nat.zero_add]; rfl
  | succ i ih =>
    intro h
    rw [← ih (by omega)]
    obtain ⟨m, hm⟩ : ∃ m, n - i = m + 1 := ⟨n - i - 1, by omega⟩
    rw [hm, show n - (i + 1) = m by omega]
    show (hv n t i * (n - i) + lh n t i) * fc m + tlr n t m = hv n t i * ((m + 1) * fc m) + (lh n t (n - 1 - m) * fc m + tlr n t m)
    rw [hm, show n - 1 - m = i by omega, Nat.add_mul, Nat.mul_assoc, Nat.add_assoc]
theorem w_place {post : Int32 → Prop} {R n : Nat} (hn : n ≤ 7) (hP : isP n R) (h : post (nI (rk n (tg R)))) : wp_Rows_place post (nI R) (nI n) := by
  have hR := isP_lt hn hP
  refine lpU (fun k i => L_Rows_place_7 post (nI R) (nI n) k (nI (hv n (tg R) i)) (nI (msk (tg R) i)) (nI i)) n ?_ ?_
  · intro k
    refine pk_le n n (fun _ => ?_) (fun z => absurd z (by omega))
    have := hv_eq (t := tg R) n (Nat.le_refl n)
    rw [Nat.sub_self, show fc 0 = 1 from rfl, Nat.mul_one, show tlr n (tg R) 0 = 0 from rfl, Nat.add_zero] at this
    rw [this]
    exact h
  · intro k i hi hw
    have ht := tg_lt R i
    have hm := msk_lt (t := tg R) i (fun y _ => tg_lt R y)
    have e := lh_eq hP.pmt hi
    refine pk_le n i (fun z => absurd z (by omega)) (fun _ => w_tg (by omega) (by omega) (nm_r (zz_1sh (by omega)) (w_tg (by omega) (by omega) ?_)))
    rw [show nI (2 ^ tg R i) - 1 = nI (2 ^ tg R i - 1) from pk_sub (b := 1) (Nat.pow_pos (by decide)), zz_and]
    have hlt : msk (tg R) i &&& (2 ^ tg R i - 1) < 256 := Nat.lt_of_le_of_lt Nat.and_le_left hm
    have hpc : pc8 (msk (tg R) i &&& (2 ^ tg R i - 1)) = ct (fun y => decide (tg R y < tg R i)) i := by
      rw [← msk_ct (t := tg R) (a := tg R i) i (fun y _ => tg_lt R y) (fun x y hx hy => hP.2.2 x y (by omega) (by omega))]
      exact ct_congr 8 (fun b _ => by rw [Nat.testBit_and, Nat.testBit_two_pow_sub_one])
    refine w_bitCount hlt (nm_r (e' := nI (lh n (tg R) i)) ?_ (nm_r (e' := nI (hv n (tg R) (i + 1))) ?_ (nm_r (e' := nI (msk (tg R) (i + 1))) ?_ (nm_r (nI_1 i) hw))))
    · rw [hpc, pk_sub (by omega)]
      congr 1
      omega
    · rw [pk_sub (by omega), pk_mul, nI_add]
      rfl
    · rw [zz_or]
      rfl
/-- the reference's factorials -/
def Fac (f : Nat → Int32) : Prop := ∀ j, j < 8 → f j = nI (fc j)
theorem w_fac {post : Int32 → Prop} {f : Nat → Int32} {n x : Nat} (hF : Fac f) (hn : n ≤ 7) (hx : x < n) (h : post (nI (fc (n - 1 - x)))) : wp_Mo_factorial post f ((nI n - 1) - nI x) := by
  rw [show nI n - 1 = nI (n - 1) from pk_sub (b := 1) (by omega), pk_sub (by omega)]
  unfold wp_Mo_factorial
  rw [nI_clamp (by omega), hF _ (by omega)]
  exact ⟨pk_in (n - 1 - x) 8 (by omega), h⟩
def pl (n : Nat) (t : Nat → Nat) (i : Nat) : Nat := sm (fun x => lh n t x * fc (n - 1 - x)) i
theorem pl_eq {n : Nat} {t : Nat → Nat} : ∀ i, i ≤ n → pl n t i + tlr n t (n - i) = rk n t := by
  intro i
  induction i with
  | zero => intro _; show 0 + tlr n t (n - 0) = tlr n t n; rw [Nat.zero_add]; rfl
  | succ i ih =>
    intro h
    rw [← ih (by omega)]
    obtain ⟨m, hm⟩ : ∃ m, n - i = m + 1 := ⟨n - i - 1, by omega⟩
    rw [hm, show n - (i + 1) = m by omega]
    show pl n t i + lh n t i * fc (n - 1 - i) + tlr n t m = pl n t i + (lh n t (n - 1 - m) * fc m + tlr n t m)
    rw [show n - 1 - m = i by omega, show n - 1 - i = m by omega, Nat.add_assoc]
/-- the reference's image holds t -/
def Img (n : Nat) (t : Nat → Nat) (f : Nat → Int32) : Prop := ∀ x, x < n → f x = nI (t x)
theorem w_placeAtHand {post : Int32 → Prop} {im fa : Nat → Int32} {t : Nat → Nat} {n : Nat} (hn : n ≤ 7) (hF : Fac fa) (hI : Img n t im) (ht : ∀ x, x < n → t x < 8) (h : post (nI (rk n t))) : wp_Mo_placeAtHand post (nI n) im fa := by
  refine lpU (fun k i => L_Mo_placeAtHand_4 post (nI n) im fa k (nI (pl n t i)) (nI i)) n ?_ ?_
  · intro k
    refine pk_le n n (fun _ => ?_) (fun z => absurd z (by omega))
    have := pl_eq (t := t) n (Nat.le_refl n)
    rw [Nat.sub_self, show tlr n t 0 = 0 from rfl, Nat.add_zero] at this
    rw [this]
    exact h
  · intro k x hx hw
    refine pk_le n x (fun z => absurd z (by omega)) (fun _ => nm_r (nI_1 x) ?_)
    have e0 : ct (fun y => decide (x < y) && decide (t y < t x)) (x + 1) = 0 := (ct_congr (x + 1) (Q := fun _ => false) (fun y hy => by rw [decide_eq_false (by omega)]; rfl)).trans (sm_zero _)
    have key := pk_loop (σ := Unit) (fun k' y _ => L_Mo_placeAtHand_19 (L_Mo_placeAtHand_4 post (nI n) im fa k) (nI n) im fa (nI (pl n t x)) (nI x) k' (nI (ct (fun y => decide (x < y) && decide (t y < t x)) y)) (nI y)) (fun y _ => x < y) n (x + 1) () (by omega) (by omega)
      (fun k' _ _ => pk_le n n (fun _ => w_fac hF hn hx (nm_r (e' := nI (pl n t (x + 1))) (by rw [pk_mul, nI_add]; rfl) (nm_r (nI_1 x) hw))) (fun z => absurd z (by omega)))
      (fun k' y _ hy hxy hw2 => by
        have hw3 := hw2 () (by omega)
        rw [ct_succ, decide_eq_true hxy, Bool.true_and] at hw3
        refine pk_le n y (fun z => absurd z (by omega)) (fun _ => ⟨pk_in y 7 (by omega), pk_in x 7 (by omega), ?_⟩)
        rw [nI_clamp (show x < 2 ^ 31 by omega), nI_clamp (show y < 2 ^ 31 by omega), hI x hx, hI y hy]
        have t1 := ht x hx
        have t2 := ht y hy
        refine pk_le (t x) (t y) (fun z => ?_) (fun z => ?_)
        · rw [decide_eq_false (by omega)] at hw3
          exact nm_r (by rw [show (0 : Int32) = nI 0 from rfl, nI_add]; rfl) (nm_r (nI_1 y) hw3)
        · rw [decide_eq_true z] at hw3
          exact nm_r (by rw [show (1 : Int32) = nI 1 from rfl, nI_add]; rfl) (nm_r (nI_1 y) hw3))
    obtain ⟨k', hk'⟩ := key
    rw [e0] at hk'
    exact ⟨k', hk'⟩
theorem w_rowAtHand {post : Int32 → Prop} {im : Nat → Int32} {t : Nat → Nat} {n : Nat} (hn : n ≤ 7) (hI : Img n t im) (ht : ∀ x, x < n → t x < 8) (h : post (nI (enc t n))) : wp_Mo_rowAtHand post (nI n) im := by
  have hc : ∀ i, i ≤ n → enc t i = enc (fun x => t x % 8) i := fun i hi => enc_congr i (fun x hx => (Nat.mod_eq_of_lt (ht x (by omega))).symm)
  refine lpU (fun k i => L_Mo_rowAtHand_4 post (nI n) im k (nI (enc (fun x => t x % 8) i)) (nI i)) n ?_ ?_
  · intro k
    refine pk_le n n (fun _ => ?_) (fun z => absurd z (by omega))
    rw [← hc n (Nat.le_refl n)]
    exact h
  · intro k i hi hw
    refine pk_le n i (fun z => absurd z (by omega)) (fun _ => ⟨pk_in i 7 (by omega), nm_r ?_ (nm_r (nI_1 i) hw)⟩)
    rw [nI_clamp (by omega), hI i hi]
    have := zz_encStep (t := fun x => t x % 8) (i := i) (fun x => Nat.mod_lt _ (by decide)) (by omega)
    rw [Nat.mod_eq_of_lt (ht i hi)] at this
    exact this
