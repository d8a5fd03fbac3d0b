/-! cycles -/
def it (t : Nat → Nat) : Nat → Nat → Nat
  | 0, x => x
  | j + 1, x => t (it t j x)
theorem it_add (t : Nat → Nat) (i : Nat) : ∀ j x, it t (i + j) x = it t j (it t i x) := by
  intro j
  induction j with
  | zero => intro x; rfl
  | succ j ih => intro x; show t (it t (i + j) x) = t (it t j (it t i x)); rw [ih]
theorem it_lt {n : Nat} {t : Nat → Nat} (hP : pmt n t) {x : Nat} (hx : x < n) : ∀ j, it t j x < n := by
  intro j
  induction j with
  | zero => exact hx
  | succ j ih => exact hP.1 _ ih
theorem it_inj {n : Nat} {t : Nat → Nat} (hP : pmt n t) {x y : Nat} (hx : x < n) (hy : y < n) : ∀ j, it t j x = it t j y → x = y := by
  intro j
  induction j with
  | zero => exact fun h => h
  | succ j ih => exact fun h => ih (hP.2 _ _ (it_lt hP hx j) (it_lt hP hy j) h)
/-- each point comes back within n steps -/
theorem it_per {n : Nat} {t : Nat → Nat} (hP : pmt n t) {x : Nat} (hx : x < n) : ∃ L, 0 < L ∧ L ≤ n ∧ it t L x = x := by
  have key : ∃ i j, i < j ∧ j ≤ n ∧ it t i x = it t j x := by
    by_cases h : ∀ i j, i < n → j < n → it t i x = it t j x → i = j
    · obtain ⟨i, hi, e⟩ := inj_hit (σ := fun j => it t j x) (fun j _ => it_lt hP hx j) h (it t n x) (it_lt hP hx n)
      exact ⟨i, n, hi, Nat.le_refl n, e⟩
    · have : ∃ i j, i < n ∧ j < n ∧ it t i x = it t j x ∧ i ≠ j := by
        apply Classical.byContradiction
        intro hc
        apply h
        intro i j hi hj e
        apply Classical.byContradiction
        intro hne
        exact hc ⟨i, j, hi, hj, e, hne⟩
      obtain ⟨i, j, hi, hj, e, hne⟩ := this
      rcases Nat.lt_or_ge i j with g | g
      · exact ⟨i, j, g, by omega, e⟩
      · exact ⟨j, i, by omega, by omega, e.symm⟩
  obtain ⟨i, j, h1, h2, e⟩ := key
  refine ⟨j - i, by omega, by omega, ?_⟩
  have e2 : it t j x = it t i (it t (j - i) x) := by rw [← it_add]; congr 1; omega
  rw [e2] at e
  exact (it_inj hP hx (it_lt hP hx _) i e).symm
theorem it_mul {t : Nat → Nat} {L x : Nat} (h : it t L x = x) : ∀ m, it t (L * m) x = x := by
  intro m
  induction m with
  | zero => rfl
  | succ m ih => rw [Nat.mul_succ, it_add, ih, h]
theorem it_mod {t : Nat → Nat} {L x : Nat} (h : it t L x = x) (j : Nat) : it t j x = it t (j % L) x := by
  have e : j = L * (j / L) + j % L := (Nat.div_add_mod j L).symm
  rw [show it t j x = it t (L * (j / L) + j % L) x by rw [← e], it_add, it_mul h]
/-- y lies on the way from x -/
def onW (t : Nat → Nat) (x y : Nat) : Prop := ∃ j, it t j x = y
theorem onW.rf {t : Nat → Nat} {x : Nat} : onW t x x := ⟨0, rfl⟩
theorem onW.trans {t : Nat → Nat} {x y z : Nat} (h1 : onW t x y) (h2 : onW t y z) : onW t x z := by
  obtain ⟨i, rfl⟩ := h1
  obtain ⟨j, rfl⟩ := h2
  exact ⟨i + j, it_add t i j x⟩
theorem onW.symm {n : Nat} {t : Nat → Nat} (hP : pmt n t) {x y : Nat} (hx : x < n) (h : onW t x y) : onW t y x := by
  obtain ⟨j, rfl⟩ := h
  obtain ⟨L, h1, h2, h3⟩ := it_per hP hx
  refine ⟨L * (j + 1) - j, ?_⟩
  rw [← it_add, show j + (L * (j + 1) - j) = L * (j + 1) from ?_]
  · exact it_mul h3 _
  · have : j + 1 ≤ L * (j + 1) := Nat.le_mul_of_pos_left _ h1
    omega
theorem onW.lt {n : Nat} {t : Nat → Nat} (hP : pmt n t) {x y : Nat} (hx : x < n) (h : onW t x y) : y < n := by
  obtain ⟨j, rfl⟩ := h
  exact it_lt hP hx j
theorem onW.short {n : Nat} {t : Nat → Nat} (hP : pmt n t) {x y : Nat} (hx : x < n) (h : onW t x y) : ∃ j, j < n ∧ it t j x = y := by
  obtain ⟨j, rfl⟩ := h
  obtain ⟨L, h1, h2, h3⟩ := it_per hP hx
  exact ⟨j % L, Nat.lt_of_lt_of_le (Nat.mod_lt _ h1) h2, (it_mod h3 j).symm⟩
/-- met before x -/
def metB (t : Nat → Nat) (x v : Nat) : Prop := ∃ x', x' < x ∧ onW t x' v
noncomputable def lst (t : Nat → Nat) (x : Nat) : Bool := @decide (¬ metB t x x) (Classical.propDecidable _)
theorem lst_iff {t : Nat → Nat} {x : Nat} : lst t x = true ↔ ¬ metB t x x := @decide_eq_true_iff _ (Classical.propDecidable _)
noncomputable def cyc (n R : Nat) : Nat := ct (lst (tg R)) n
theorem metB_succ {t : Nat → Nat} {x v : Nat} : metB t (x + 1) v ↔ metB t x v ∨ onW t x v := by
  constructor
  · rintro ⟨x', h1, h2⟩
    by_cases e : x' = x
    · rw [e] at h2; exact Or.inr h2
    · exact Or.inl ⟨x', by omega, h2⟩
  · rintro (⟨x', h1, h2⟩ | h)
    · exact ⟨x', by omega, h2⟩
    · exact ⟨x, by omega, h⟩
theorem metB_skip {t : Nat → Nat} {x v : Nat} (h : metB t x x) : metB t (x + 1) v ↔ metB t x v := by
  rw [metB_succ]
  constructor
  · rintro (g | g)
    · exact g
    · obtain ⟨x', h1, h2⟩ := h
      exact ⟨x', h1, h2.trans g⟩
  · exact Or.inl
theorem w_cycleOf {post : Int32 → Prop} {n R x : Nat} (hn : n ≤ 7) (hP : isP n R) (hx : x < n) (h : post (nI (msk (fun j => it (tg R) j x) n))) : wp_Rows_cycleOf post (nI R) (nI x) (nI n) := by
  have hR := isP_lt hn hP
  exact lpU (fun k i => L_Rows_cycleOf_8 post (nI R) (nI n) k (nI (msk (fun j => it (tg R) j x) i)) (nI (it (tg R) i x)) (nI i)) n
    (fun k => pk_le n n (fun _ => h) (fun z => absurd z (by omega)))
    (fun k i hi hw => by
      have hl := it_lt hP.pmt hx i
      exact pk_le n i (fun z => absurd z (by omega)) (fun _ => nm_r (e' := nI (msk (fun j => it (tg R) j x) (i + 1))) (by rw [zz_1sh (by omega), zz_or]; rfl) (w_tg (by omega) (by omega) (nm_r (nI_1 i) hw))))
theorem w_countCycles {post : Int32 → Prop} {n R : Nat} (hn : n ≤ 7) (hP : isP n R) (h : post (nI (cyc n R))) : wp_Rows_countCycles post (nI R) (nI n) := by
  have hpm := hP.pmt
  refine Exists.elim (pk_loop (σ := Nat) (fun k x M => L_Rows_countCycles_7 post (nI R) (nI n) k (nI M) (nI (ct (lst (tg R)) x)) (nI x)) (fun x M => M < 256 ∧ ∀ v, M.testBit v = true ↔ metB (tg R) x v) n 0 0 (Nat.zero_le _) ⟨by omega, fun v => ?_⟩ ?_ ?_) (fun k hk => ⟨k, hk⟩)
  · rw [Nat.zero_testBit]
    exact ⟨fun z => absurd z (by decide), fun ⟨x', h1, _⟩ => absurd h1 (by omega)⟩
  · intro k M hM
    exact pk_le n n (fun _ => h) (fun z => absurd z (by omega))
  · intro k x M hx hM hw
    have hc : ct (lst (tg R)) x ≤ x := ct_le _ _
    refine pk_le n x (fun z => absurd z (by omega)) (fun _ => ?_)
    rw [zz_ushr (by omega) (by omega), pk_andN (Nat.lt_of_le_of_lt (Nat.div_le_self _ _) (by omega)) 1 (by decide), show M / 2 ^ x % 2 ^ 1 = (M.testBit x).toNat from zz_bit]
    cases eM : M.testBit x with
    | false =>
      have hl : lst (tg R) x = true := lst_iff.mpr (fun z => by rw [(hM.2 x).mpr z] at eM; cases eM)
      refine ⟨fun _ => ?_, fun z => absurd rfl z⟩
      refine w_cycleOf hn hP hx (nm_r (zz_or _ _) (nm_r (nI_1 _) (nm_r (nI_1 x) ?_)))
      have hw' := hw (M ||| msk (fun j => it (tg R) j x) n) ⟨Nat.or_lt_two_pow (n := 8) hM.1 (msk_lt n (fun y _ => by have := it_lt hpm hx y; omega)), fun v => ?_⟩
      · rw [ct_succ, hl] at hw'
        exact hw'
      · rw [Nat.testBit_or, Bool.or_eq_true, hM.2 v, msk_bit, metB_succ]
        constructor
        · rintro (g | ⟨j, _, g⟩)
          · exact Or.inl g
          · exact Or.inr ⟨j, g⟩
        · rintro (g | g)
          · exact Or.inl g
          · exact Or.inr (g.short hpm hx)
    | true =>
      have hm := (hM.2 x).mp eM
      have hl : lst (tg R) x = false := by
        cases e : lst (tg R) x with
        | false => rfl
        | true => exact absurd hm (lst_iff.mp e)
      refine ⟨fun z => absurd z (by decide), fun _ => nm_r (nI_1 x) ?_⟩
      have hw' := hw M ⟨hM.1, fun v => by rw [hM.2 v, metB_skip hm]⟩
      rw [ct_succ, hl] at hw'
      exact hw'
/-- the least way back -/
theorem it_least {n : Nat} {t : Nat → Nat} (hP : pmt n t) {x : Nat} (hx : x < n) : ∃ L, 0 < L ∧ L ≤ n ∧ it t L x = x ∧ ∀ j, 0 < j → j < L → it t j x ≠ x := by
  obtain ⟨L0, h1, h2, h3⟩ := it_per hP hx
  obtain ⟨L, ⟨g1, g2⟩, g3⟩ := pk_least (fun L => 0 < L ∧ it t L x = x) ⟨L0, h1, h3⟩
  refine ⟨L, g1, ?_, g2, fun j hj hjL e => g3 j hjL ⟨hj, e⟩⟩
  rcases Nat.lt_or_ge L0 L with q | q
  · exact absurd ⟨h1, h3⟩ (g3 L0 q)
  · omega
theorem it_apart {n : Nat} {t : Nat → Nat} (hP : pmt n t) {x L : Nat} (hx : x < n) (hL : ∀ j, 0 < j → j < L → it t j x ≠ x) {i j : Nat} (hij : i < j) (hj : j < L) : it t i x ≠ it t j x := by
  intro e
  have e2 : it t j x = it t i (it t (j - i) x) := by rw [← it_add]; congr 1; omega
  rw [e2] at e
  exact hL (j - i) (by omega) (by omega) (it_inj hP hx (it_lt hP hx _) i e).symm
theorem w_cyclesOf {post : Int32 → Prop} {n R i : Nat} {rows : Nat → Int32} (hn : n ≤ 7) (hP : isP n R) (hi : i < 5040) (hr : rows i = nI R) (h : post (nI (cyc n R))) : wp_Mo_cyclesOf post (nI n) rows (nI i) := by
  have hpm := hP.pmt
  have hR := isP_lt hn hP
  unfold wp_Mo_cyclesOf
  rw [nI_clamp (show i < 2 ^ 31 by omega), hr]
  refine ⟨pk_in i 5040 hi, nm_r rfl ?_⟩
  refine Exists.elim (pk_loop (σ := Nat) (fun k x M => L_Mo_cyclesOf_15 post (nI n) (nI R) k (nI M) (nI (ct (lst (tg R)) x)) (nI x)) (fun x M => M < 256 ∧ ∀ v, M.testBit v = true ↔ metB (tg R) x v) n 0 0 (Nat.zero_le _) ⟨by omega, fun v => ?_⟩ ?_ ?_) (fun k hk => ⟨k, hk⟩)
  · rw [Nat.zero_testBit]
    exact ⟨fun z => absurd z (by decide), fun ⟨x', h1, _⟩ => absurd h1 (by omega)⟩
  · intro k M hM
    exact pk_le n n (fun _ => h) (fun z => absurd z (by omega))
  · intro k x M hx hM hw
    refine pk_le n x (fun z => absurd z (by omega)) (fun _ => ?_)
    rw [zz_sbit0 (by omega) (by omega)]
    refine ⟨fun eM => ?_, fun eM => ?_⟩
    · have hnm : ¬ metB (tg R) x x := fun z => by rw [(hM.2 x).mpr z] at eM; cases eM
      have hl : lst (tg R) x = true := lst_iff.mpr hnm
      refine nm_r (nI_1 _) ?_
      obtain ⟨L, l1, l2, l3, l4⟩ := it_least hpm hx
      have hlt8 : ∀ j, it (tg R) j x < 8 := fun j => by have := it_lt hpm hx j; omega
      have hms : ∀ j, M ||| msk (fun j => it (tg R) j x) j < 256 := fun j => Nat.or_lt_two_pow (n := 8) hM.1 (msk_lt j (fun y _ => hlt8 y))
      have key := lpU (fun k' j => L_Mo_cyclesOf_40 (L_Mo_cyclesOf_15 post (nI n) (nI R) k) (nI R) (nI (ct (lst (tg R)) x + 1)) (nI x) k' (nI (M ||| msk (fun j => it (tg R) j x) j)) (nI (it (tg R) j x))) L ?_ ?_
      · obtain ⟨k', hk'⟩ := key
        have e0 : M ||| msk (fun j => it (tg R) j x) 0 = M := Nat.or_zero M
        rw [e0] at hk'
        exact ⟨k', hk'⟩
      · intro k'
        have hb := hms L
        refine ⟨fun z => ?_, fun _ => nm_r (nI_1 x) ?_⟩
        · rw [zz_sbit0 (by omega) (by have := hlt8 L; omega), l3, Nat.testBit_or, (msk_bit _ L x).mpr ⟨0, l1, rfl⟩, Bool.or_true] at z
          cases z
        · have hw' := hw (M ||| msk (fun j => it (tg R) j x) L) ⟨hb, fun v => ?_⟩
          · rw [ct_succ, hl] at hw'
            exact hw'
          · rw [Nat.testBit_or, Bool.or_eq_true, hM.2 v, msk_bit, metB_succ]
            constructor
            · rintro (g | ⟨j, _, g⟩)
              · exact Or.inl g
              · exact Or.inr ⟨j, g⟩
            · rintro (g | ⟨j, g⟩)
              · exact Or.inl g
              · exact Or.inr ⟨j % L, Nat.mod_lt _ l1, by rw [← it_mod l3]; exact g⟩
      · intro k' j hj hw2
        have hb := hms j
        refine ⟨fun _ => nm_r (e' := nI (M ||| msk (fun j => it (tg R) j x) (j + 1))) ?_ (nm_r (zz_tgS (by omega) (by have := hlt8 j; omega)) hw2), fun z => ?_⟩
        · rw [zz_1sh (by have := hlt8 j; omega), zz_or, Nat.or_assoc]
          rfl
        · exfalso
          apply z
          rw [zz_sbit0 (by omega) (by have := hlt8 j; omega), Nat.testBit_or]
          have b1 : M.testBit (it (tg R) j x) = false := by
            cases e : M.testBit (it (tg R) j x) with
            | false => rfl
            | true =>
              obtain ⟨x', g1, g2⟩ := (hM.2 _).mp e
              have : onW (tg R) (it (tg R) j x) x := onW.symm hpm hx ⟨j, rfl⟩
              exact absurd ⟨x', g1, g2.trans this⟩ hnm
          have b3 : (msk (fun j => it (tg R) j x) j).testBit (it (tg R) j x) = false := by
            cases e : (msk (fun j => it (tg R) j x) j).testBit (it (tg R) j x) with
            | false => rfl
            | true =>
              obtain ⟨y, g1, g2⟩ := (msk_bit _ j _).mp e
              exact absurd g2 (it_apart hpm hx l4 g1 hj)
          rw [b1, b3]
          rfl
    · have hm := (hM.2 x).mp (by
        cases e : M.testBit x with
        | true => rfl
        | false => exact absurd e eM)
      have hl : lst (tg R) x = false := by
        cases e : lst (tg R) x with
        | false => rfl
        | true => exact absurd hm (lst_iff.mp e)
      refine nm_r (nI_1 x) ?_
      have hw' := hw M ⟨hM.1, fun v => by rw [hM.2 v, metB_skip hm]⟩
      rw [ct_succ, hl] at hw'
      exact hw'
