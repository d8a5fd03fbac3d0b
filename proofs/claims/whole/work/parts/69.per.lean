/-! how often till all is back; the least point reached -/
def pwr (n R : Nat) : Nat → Nat
  | 0 => idR n
  | j + 1 => chn n (pwr n R j) R
theorem tg_pwr {n R : Nat} (hn : n ≤ 7) : ∀ j x, x < n → tg (pwr n R j) x = it (tg R) j x := by
  intro j
  induction j with
  | zero => intro x hx; exact tg_idR hn hx
  | succ j ih => intro x hx; show tg (chn n (pwr n R j) R) x = tg R (it (tg R) j x); rw [tg_chn hx, ih x hx]
theorem isP_pwr {n R : Nat} (hn : n ≤ 7) (hP : isP n R) : ∀ j, isP n (pwr n R j) := by
  intro j
  induction j with
  | zero => exact isP_id hn
  | succ j ih => exact isP_chn ih hP
theorem isP_eq {n R S : Nat} (hR : isP n R) (hS : isP n S) (h : ∀ x, x < n → tg R x = tg S x) : R = S := by
  have e1 := enc_tg n R
  have e2 := enc_tg n S
  rw [Nat.mod_eq_of_lt hR.1] at e1
  rw [Nat.mod_eq_of_lt hS.1] at e2
  rw [← e1, ← e2]
  exact enc_congr n h
theorem pwr_one {n R : Nat} (hn : n ≤ 7) (hP : isP n R) : pwr n R 1 = R := isP_eq (isP_pwr hn hP 1) hP (fun x hx => tg_pwr hn 1 x hx)
theorem per_ex {n R : Nat} (hn : n ≤ 7) (hP : isP n R) : 0 < 420 ∧ ∀ x, x < n → it (tg R) 420 x = x := by
  refine ⟨by decide, fun x hx => ?_⟩
  obtain ⟨L, h1, h2, h3⟩ := it_per hP.pmt hx
  have hd : ∀ L, L ≤ 7 → 0 < L → 420 = L * (420 / L) := by decide
  rw [hd L (by omega) h1]
  exact it_mul h3 _
def isPer (n R j : Nat) : Prop := 0 < j ∧ ∀ x, x < n → it (tg R) j x = x
theorem per_least {n R : Nat} (hn : n ≤ 7) (hP : isP n R) : ∃ p, isPer n R p ∧ p ≤ 420 ∧ ∀ j, j < p → ¬ isPer n R j := by
  obtain ⟨p, h1, h2⟩ := pk_least (isPer n R) ⟨420, per_ex hn hP⟩
  refine ⟨p, h1, ?_, h2⟩
  rcases Nat.lt_or_ge 420 p with g | g
  · exact absurd (per_ex hn hP) (h2 420 g)
  · exact g
noncomputable def per (n R : Nat) : Nat := @dite Nat (∃ p, isPer n R p ∧ p ≤ 420 ∧ ∀ j, j < p → ¬ isPer n R j) (Classical.propDecidable _) (fun h => h.choose) (fun _ => 0)
theorem per_spec {n R : Nat} (hn : n ≤ 7) (hP : isP n R) : isPer n R (per n R) ∧ per n R ≤ 420 ∧ ∀ j, j < per n R → ¬ isPer n R j := by
  have h := per_least hn hP
  unfold per
  rw [dif_pos h]
  exact h.choose_spec
theorem pwr_id {n R j : Nat} (hn : n ≤ 7) (hP : isP n R) : pwr n R j = idR n ↔ ∀ x, x < n → it (tg R) j x = x := by
  constructor
  · intro e x hx
    rw [← tg_pwr hn j x hx, e, tg_idR hn hx]
  · intro h
    exact isP_eq (isP_pwr hn hP j) (isP_id hn) (fun x hx => by rw [tg_pwr hn j x hx, h x hx, tg_idR hn hx])
theorem w_period {post : Int32 → Prop} {n R : Nat} (hn : n ≤ 7) (hP : isP n R) (h : post (nI (per n R))) : wp_Rows_period post (nI R) (nI n) := by
  obtain ⟨h1, h2, h3⟩ := per_spec hn hP
  have hlt : ∀ j, pwr n R j < 2 ^ 21 := fun j => isP_lt hn (isP_pwr hn hP j)
  have hR := isP_lt hn hP
  have hid := isP_lt hn (isP_id hn)
  unfold wp_Rows_period
  refine w_identity hn ?_
  show ∃ k, L_Rows_period_10 post (nI R) (nI n) (nI (idR n)) k (nI R) (nI 1)
  have key := pk_loop (σ := Unit) (fun k i _ => L_Rows_period_10 post (nI R) (nI n) (nI (idR n)) k (nI (pwr n R i)) (nI i)) (fun i _ => 0 < i) (per n R) 1 () h1.1 (by omega)
    (fun k _ _ => by
      have a := hlt (per n R)
      refine pk_eq _ _ (fun _ => h) (fun z => absurd ((pwr_id hn hP).mpr h1.2) z) rfl rfl (by omega) (by omega))
    (fun k i _ hi h0 hw => by
      have a := hlt i
      refine pk_eq _ _ (fun z => absurd ⟨h0, (pwr_id hn hP).mp z⟩ (h3 i hi)) (fun _ => pk_le 5040 i (fun z => absurd z (by omega)) (fun _ => ?_)) rfl rfl (by omega) (by omega)
      exact w_chain (by omega) (by omega) hn (nm_r (nI_1 i) (hw () (by omega))))
  obtain ⟨k, hk⟩ := key
  rw [pwr_one hn hP] at hk
  exact ⟨k, hk⟩
theorem w_orderM {post : Int32 → Int32 → Int32 → (Nat → Int32) → (Nat → Int32) → (Nat → Int32) → (Nat → Int32) → (Nat → Int32) → Prop} {n R : Nat} {hg od : Int32} {im isIn rows nums todo : Nat → Int32} (hn : n ≤ 7) (hP : isP n R) (h : post (nI (per n R)) hg od im isIn rows nums todo) : ∃ j, L_Mo_order_28 post (nI n) hg od im isIn rows nums todo (0 : Int32) (0 : Int32) (nI R) j (0 : Int32) (0 : Int32) := by
  obtain ⟨h1, h2, h3⟩ := per_spec hn hP
  have hlt : ∀ j, pwr n R j < 2 ^ 21 := fun j => isP_lt hn (isP_pwr hn hP j)
  have hR := isP_lt hn hP
  refine lpU (fun j i => L_Mo_order_28 post (nI n) hg od im isIn rows nums todo (0 : Int32) (0 : Int32) (nI R) j (nI (enc (fun x => x % 8) i)) (nI i)) n ?_ ?_
  rotate_left
  · intro j i hi hw
    refine pk_le n i (fun z => absurd z (by omega)) (fun _ => nm_r (e' := nI (enc (fun x => x % 8) (i + 1))) ?_ (nm_r (nI_1 i) hw))
    have e := zz_encStep (t := fun x => x % 8) (i := i) (fun x => Nat.mod_lt _ (by decide)) (by omega)
    rw [Nat.mod_eq_of_lt (show i < 8 by omega)] at e
    exact e
  intro j
  refine pk_le n n (fun _ => ?_) (fun z => absurd z (by omega))
  have key := lpU (fun j k => L_Mo_order_55 post (nI n) hg od im isIn rows nums todo (nI R) j (nI k) (b2 (decide (k = per n R))) (nI (pwr n R k))) (per n R) ?_ ?_
  · obtain ⟨j, hj⟩ := key
    have e0 : decide (0 = per n R) = false := decide_eq_false (by have := h1.1; omega)
    rw [e0] at hj
    exact ⟨j, hj⟩
  · intro j
    rw [decide_eq_true rfl]
    exact ⟨fun z => absurd z (by decide), fun _ => h⟩
  · intro j k hk hw
    rw [decide_eq_false (by omega)]
    refine ⟨fun _ => ?_, fun z => absurd rfl z⟩
    have ha := hlt k
    refine lpU (fun j2 x => L_Mo_order_67 (L_Mo_order_55 post (nI n) hg od im isIn rows nums todo (nI R) j) (nI n) (nI k) (nI R) (nI (pwr n R k)) j2 (b2 (allB (fun x => it (tg R) (k + 1) x == x) x)) (nI (enc (fun x => tg R (tg (pwr n R k) x)) x)) (nI x)) n ?_ ?_
    · intro j2
      refine pk_le n n (fun _ => nm_r (nI_1 k) ?_) (fun z => absurd z (by omega))
      have e : allB (fun x => it (tg R) (k + 1) x == x) n = decide (k + 1 = per n R) := bool_ext (by
        rw [allB_true, decide_eq_true_eq]
        constructor
        · intro g
          have g2 : isPer n R (k + 1) := ⟨by omega, fun x hx => eq_of_beq (g x hx)⟩
          rcases Nat.lt_or_ge (k + 1) (per n R) with y | y
          · exact absurd g2 (h3 _ y)
          · omega
        · intro g x hx
          rw [g, beq_iff_eq]
          exact h1.2 x hx)
      rw [e]
      exact hw
    · intro j2 x hx hw2
      have e2 : allB (fun x => it (tg R) (k + 1) x == x) (x + 1) = (allB (fun x => it (tg R) (k + 1) x == x) x && (it (tg R) (k + 1) x == x)) := rfl
      have t1 := tg_lt (pwr n R k) x
      have t2 := tg_lt R (tg (pwr n R k) x)
      have e3 : it (tg R) (k + 1) x = tg R (tg (pwr n R k) x) := by show tg R (it (tg R) k x) = _; rw [tg_pwr hn k x hx]
      refine pk_le n x (fun z => absurd z (by omega)) (fun _ => nm_r (e' := nI (tg R (tg (pwr n R k) x))) ?_ (nm_r (e' := nI (enc (fun x => tg R (tg (pwr n R k) x)) (x + 1))) ?_ (b2_c _ (fun g => nm_r (nI_1 x) ?_) (fun g => ?_))))
      · rw [zz_tgS (by omega) (by omega), zz_tgS (by omega) (by omega)]
      · exact zz_encStep (t := fun x => tg R (tg (pwr n R k) x)) (fun x => tg_lt _ _) (by omega)
      · rw [e2, g] at hw2
        exact hw2
      · rw [e2, g, e3, Bool.true_and] at hw2
        refine pk_eq _ _ (fun z => nm_r (nI_1 x) ?_) (fun z => nm_r (nI_1 x) ?_) rfl rfl (by omega) (by omega)
        · rw [z, beq_self_eq_true] at hw2
          exact hw2
        · have : (tg R (tg (pwr n R k) x) == x) = false := by simpa using z
          rw [this] at hw2
          exact hw2
/-- the row of number j -/
noncomputable def gj (n k : Nat) (mv : Nat → Nat) (j : Nat) : Nat := @dite Nat (∃ p, p < 5040 ∧ gi n k mv p = true ∧ ct (gi n k mv) p = j) (Classical.propDecidable _) (fun h => gr n k mv h.choose) (fun _ => 0)
theorem gj_row {n k : Nat} {mv : Nat → Nat} {rows : Nat → Int32} (h : GRows n k mv rows) {j : Nat} (hj : j < ord n k mv) : rows j = nI (gj n k mv j) ∧ InG n k mv (gj n k mv j) := by
  have hx : ∃ p, p < 5040 ∧ gi n k mv p = true ∧ ct (gi n k mv) p = j := ct_hit hj
  unfold gj
  rw [dif_pos hx]
  obtain ⟨_, h2, h3⟩ := hx.choose_spec
  refine ⟨?_, (gr_spec h2).1⟩
  have := h _ h2
  rw [h3] at this
  exact this
theorem ct_uniq {P : Nat → Bool} {p q : Nat} (hp : P p = true) (hq : P q = true) (e : ct P p = ct P q) : p = q := by
  rcases Nat.lt_trichotomy p q with g | g | g
  · have := ct_lt g hp; omega
  · exact g
  · have := ct_lt g hq; omega
theorem gj_of {n k : Nat} {mv : Nat → Nat} (hM : MvOk n k mv) {R : Nat} (h : InG n k mv R) : ct (gi n k mv) (rkR n R) < ord n k mv ∧ gj n k mv (ct (gi n k mv) (rkR n R)) = R := by
  have hg := gi_of h
  have h5 := gi_lt5 hM.1 hg
  refine ⟨ct_lt h5 hg, ?_⟩
  have hx : ∃ p, p < 5040 ∧ gi n k mv p = true ∧ ct (gi n k mv) p = ct (gi n k mv) (rkR n R) := ⟨_, h5, hg, rfl⟩
  unfold gj
  rw [dif_pos hx]
  obtain ⟨_, h2, h3⟩ := hx.choose_spec
  rw [ct_uniq h2 hg h3, gr_of hM h]
def RX (k : Nat) (mv : Nat → Nat) (x y : Nat) : Prop := ∃ l : List Nat, (∀ i ∈ l, i < k) ∧ y = l.foldl (fun y i => tg (mv i) y) x
theorem RX.rf {k : Nat} {mv : Nat → Nat} {x : Nat} : RX k mv x x := ⟨[], fun i h => absurd h List.not_mem_nil, rfl⟩
theorem RX.step {k : Nat} {mv : Nat → Nat} {x y m : Nat} (h : RX k mv x y) (hm : m < k) : RX k mv x (tg (mv m) y) := by
  obtain ⟨l, h1, rfl⟩ := h
  refine ⟨l ++ [m], fun i hi => ?_, by rw [List.foldl_append]; rfl⟩
  rcases List.mem_append.mp hi with q | q
  · exact h1 i q
  · rw [List.mem_singleton.mp q]; exact hm
theorem RX.ind {k : Nat} {mv : Nat → Nat} {x : Nat} {S : Nat → Prop} (h0 : S x) (hs : ∀ y i, S y → i < k → S (tg (mv i) y)) {y : Nat} (h : RX k mv x y) : S y := by
  obtain ⟨l, h1, rfl⟩ := h
  have key : ∀ (l : List Nat) (r : Nat), (∀ i ∈ l, i < k) → S r → S (l.foldl (fun y i => tg (mv i) y) r) := by
    intro l
    induction l with
    | nil => intro r _ hr; exact hr
    | cons a l ih => intro r hl hr; exact ih _ (fun i hi => hl i (List.mem_cons_of_mem _ hi)) (hs r a hr (hl a List.mem_cons_self))
  exact key l _ h1 h0
theorem tg_word {n : Nat} {mv : Nat → Nat} {x : Nat} (hx : x < n) : ∀ (l : List Nat) (r : Nat), tg (l.foldl (fun r i => chn n r (mv i)) r) x = l.foldl (fun y i => tg (mv i) y) (tg r x) := by
  intro l
  induction l with
  | nil => intro r; rfl
  | cons a l ih => intro r; show tg (l.foldl _ (chn n r (mv a))) x = l.foldl _ (tg (mv a) (tg r x)); rw [ih, tg_chn hx]
theorem RX_InG {n k : Nat} {mv : Nat → Nat} (hn : n ≤ 7) {x : Nat} (hx : x < n) {y : Nat} : RX k mv x y ↔ ∃ R, InG n k mv R ∧ tg R x = y := by
  constructor
  · rintro ⟨l, h1, rfl⟩
    exact ⟨_, ⟨l, h1, rfl⟩, by rw [tg_word hx, tg_idR hn hx]⟩
  · rintro ⟨R, ⟨l, h1, rfl⟩, rfl⟩
    exact ⟨l, h1, by rw [tg_word hx, tg_idR hn hx]⟩
noncomputable def lr (k : Nat) (mv : Nat → Nat) (x : Nat) : Nat := (pk_least (fun y => RX k mv x y) ⟨x, RX.rf⟩).choose
theorem lr_r {k : Nat} {mv : Nat → Nat} (x : Nat) : RX k mv x (lr k mv x) := (pk_least (fun y => RX k mv x y) ⟨x, RX.rf⟩).choose_spec.1
theorem lr_m {k : Nat} {mv : Nat → Nat} {x y : Nat} (h : RX k mv x y) : lr k mv x ≤ y := by
  rcases Nat.lt_or_ge y (lr k mv x) with g | g
  · exact absurd h ((pk_least (fun y => RX k mv x y) ⟨x, RX.rf⟩).choose_spec.2 y g)
  · exact g
theorem w_leastTarget {post : Int32 → Prop} {n k x : Nat} {mv : Nat → Nat} {rows : Nat → Int32} (hM : MvOk n k mv) (hG : GRows n k mv rows) (hx : x < n) (h : post (nI (lr k mv x))) : wp_Group_leastTarget post (nI (ord n k mv)) rows (nI x) := by
  have hn := hM.1
  have ho := ord_le n k mv
  refine Exists.elim (pk_loop (σ := Nat) (fun j i m => L_Group_leastTarget_4 post (nI (ord n k mv)) rows (nI x) j (nI m) (nI i)) (fun i m => m < 8 ∧ RX k mv x m ∧ ∀ j, j < i → m ≤ tg (gj n k mv j) x) (ord n k mv) 0 x (Nat.zero_le _) ⟨by omega, RX.rf, fun j hj => absurd hj (by omega)⟩ ?_ ?_) (fun j hj => ⟨j, hj⟩)
  · intro j m ⟨h1, h2, h3⟩
    refine pk_le (ord n k mv) (ord n k mv) (fun _ => ?_) (fun z => absurd z (by omega))
    have e : m = lr k mv x := by
      have a := lr_m h2
      obtain ⟨R, hR, e2⟩ := (RX_InG hn hx).mp (lr_r (k := k) (mv := mv) x)
      obtain ⟨g1, g2⟩ := gj_of hM hR
      have b := h3 _ g1
      rw [g2, e2] at b
      omega
    rw [e]
    exact h
  · intro j i m hi ⟨h1, h2, h3⟩ hw
    obtain ⟨r1, r2⟩ := gj_row hG hi
    have hP := r2.isP hM
    have hlt := isP_lt hn hP
    have ht := tg_lt (gj n k mv i) x
    refine pk_le (ord n k mv) i (fun z => absurd z (by omega)) (fun _ => ⟨pk_in i 5040 (by omega), ?_⟩)
    rw [nI_clamp (by omega), r1]
    refine w_tg (by omega) (by omega) (nm_r (e' := nI (min (tg (gj n k mv i) x) m)) ?_ (nm_r (nI_1 i) (hw _ ⟨by omega, ?_, fun j' hj' => ?_⟩)))
    · by_cases g : tg (gj n k mv i) x < m
      · rw [if_pos (nI_lt g (by omega)), Nat.min_eq_left (by omega)]
      · rw [if_neg (nI_nlt (by omega) (by omega)), Nat.min_eq_right (by omega)]
    · by_cases g : tg (gj n k mv i) x < m
      · rw [Nat.min_eq_left (by omega)]
        exact (RX_InG hn hx).mpr ⟨_, r2, rfl⟩
      · rw [Nat.min_eq_right (by omega)]
        exact h2
    · by_cases e : j' = i
      · rw [e]; exact Nat.min_le_left _ _
      · exact Nat.le_trans (Nat.min_le_right _ _) (h3 j' (by omega))
