/-! the reference's reach -/
theorem pc8_lt {A B : Nat} (hA : A < 256) (hB : B < 256) (hs : ∀ v, A.testBit v = true → B.testBit v = true) (hne : A ≠ B) : pc8 A < pc8 B := by
  have hle : pc8 A ≤ pc8 B := ct_le2 8 (fun v _ h => hs v h)
  rcases Nat.lt_or_ge (pc8 A) (pc8 B) with g | g
  · exact g
  · exfalso
    apply hne
    have heq := sm_eq_all (f := fun v => (A.testBit v).toNat) (g := fun v => (B.testBit v).toNat) 8 (fun v _ => by
      cases e : A.testBit v with
      | false => exact Nat.zero_le _
      | true => rw [hs v e]; exact Nat.le_refl _) (by show pc8 A = pc8 B; omega)
    apply Nat.eq_of_testBit_eq
    intro v
    rcases Nat.lt_or_ge v 8 with q | q
    · have := heq v q
      revert this
      cases A.testBit v <;> cases B.testBit v <;> intro this <;> first | rfl | (exact absurd this (by decide))
    · rw [Nat.testBit_lt_two_pow (Nat.lt_of_lt_of_le hA (Nat.pow_le_pow_right (n := 2) (by decide) q)), Nat.testBit_lt_two_pow (Nat.lt_of_lt_of_le hB (Nat.pow_le_pow_right (n := 2) (by decide) q))]
/-- what the set holds: points reached from x -/
def SX (n k : Nat) (mv : Nat → Nat) (x M : Nat) : Prop := M < 256 ∧ M.testBit x = true ∧ ∀ v, M.testBit v = true → v < n ∧ RX k mv x v
theorem SX.add {n k x M m y : Nat} {mv : Nat → Nat} (hM : MvOk n k mv) (h : SX n k mv x M) (hm : m < k) (hy : M.testBit y = true) : SX n k mv x (M ||| 2 ^ tg (mv m) y) := by
  obtain ⟨h1, h2, h3⟩ := h
  obtain ⟨g1, g2⟩ := h3 y hy
  have ht := (hM.2.2 m hm).2.1 y g1
  have hn := hM.1
  refine ⟨Nat.or_lt_two_pow (n := 8) h1 (Nat.pow_lt_pow_right (by decide) (by omega)), ?_, fun v hv => ?_⟩
  · rw [Nat.testBit_or, h2]; rfl
  · rw [Nat.testBit_or, Bool.or_eq_true, Nat.testBit_two_pow, decide_eq_true_eq] at hv
    rcases hv with q | q
    · exact h3 v q
    · rw [← q]
      exact ⟨ht, g2.step hm⟩
theorem w_reach {post : Int32 → Prop} {n k : Nat} {mv : Nat → Nat} {mr : Nat → Int32} {a : Int32} (hM : MvOk n k mv) (h0n : 0 < n) (hmr : ∀ i, i < k → mr i = nI (mv i)) (h1 : ∀ x, x < n → a = nI x → post (nI (lr k mv x))) (h0 : (∀ x, x < n → a ≠ nI x) → post (-2)) : wp_Mo_reach post (nI n) (nI k) mr a := by
  have hn := hM.1
  have hk := hM.2.1
  unfold wp_Mo_reach
  refine w_within h0n (by omega) (fun x hx ea => ⟨fun z => absurd z (by decide), fun _ => ?_⟩) (fun hno => ⟨fun _ => h0 hno, fun z => absurd rfl z⟩)
  subst ea
  refine nm_r (zz_1sh (by omega)) ?_
  have hS0 : SX n k mv x (2 ^ x) := ⟨Nat.pow_lt_pow_right (n := 8) (by decide) (by omega), by rw [Nat.testBit_two_pow, decide_eq_true rfl], fun v hv => by
    rw [Nat.testBit_two_pow, decide_eq_true_eq] at hv
    rw [← hv]
    exact ⟨hx, RX.rf⟩⟩
  refine Exists.elim (lp2 (L_Mo_reach_23 post (nI n) (nI k) mr) (fun a1 a2 => ∃ (M : Nat) (f : Bool), a1 = nI M ∧ a2 = b2 f ∧ SX n k mv x M ∧ (f = false → ∀ y m, M.testBit y = true → m < k → M.testBit (tg (mv m) y) = true)) (fun a1 a2 => 2 * (8 - pc8 a1.toNatClampNeg) + a2.toNatClampNeg) ?_ (nI (2 ^ x)) (b2 true) ⟨_, true, rfl, rfl, hS0, fun z => by cases z⟩) (fun j hj => ⟨j, hj⟩)
  rintro j a1 a2 ⟨M, f, rfl, rfl, hS, hC⟩ ih
  have hM8 := hS.1
  refine b2_c _ (fun ef => ?_) (fun ef => ?_)
  · -- closed: the least bit
    have hcl := hC ef
    have hall : ∀ y, RX k mv x y → M.testBit y = true := fun y hy => RX.ind (S := fun y => M.testBit y = true) hS.2.1 (fun y i hy hi => hcl y i hy hi) hy
    have hlr := hall _ (lr_r (k := k) (mv := mv) x)
    have hln := (hS.2.2 _ hlr).1
    refine lpU (fun j y => L_Mo_reach_114 post (nI M) j (nI y)) (lr k mv x) ?_ ?_
    · intro j
      refine ⟨fun z => ?_, fun _ => h1 x hx rfl⟩
      rw [zz_sbit0 (by omega) (by omega), hlr] at z
      cases z
    · intro j y hy hw
      refine ⟨fun _ => nm_r (nI_1 y) hw, fun z => ?_⟩
      exfalso
      apply z
      rw [zz_sbit0 (by omega) (by omega)]
      cases e : M.testBit y with
      | false => rfl
      | true => have := lr_m (hS.2.2 y e).2; omega
  · -- one more pass
    refine Exists.elim (pk_loop (σ := Nat) (fun j2 y C => L_Mo_reach_33 (L_Mo_reach_23 post (nI n) (nI k) mr j) (nI n) (nI k) mr (nI M) j2 (nI C) (nI y)) (fun y C => SX n k mv x C ∧ (∀ v, M.testBit v = true → C.testBit v = true) ∧ ∀ y', y' < y → M.testBit y' = true → ∀ m, m < k → C.testBit (tg (mv m) y') = true) n 0 M (Nat.zero_le _) ⟨hS, fun v hv => hv, fun y' hy' => absurd hy' (by omega)⟩ ?_ ?_) (fun j2 hj2 => ⟨j2, hj2⟩)
    · intro j2 C ⟨g1, g2, g3⟩
      have hC8 := g1.1
      have hcl : M = C → ∀ y m, C.testBit y = true → m < k → C.testBit (tg (mv m) y) = true := fun e y m hy hm => by
        rw [← e] at hy
        exact g3 y (hS.2.2 y hy).1 hy m hm
      refine pk_le n n (fun _ => pk_eq C M (fun e => ih _ _ ⟨C, false, rfl, rfl, g1, fun _ => hcl e.symm⟩ ?_) (fun e => ih _ _ ⟨C, true, rfl, rfl, g1, fun z => by cases z⟩ ?_)) (fun z => absurd z (by omega))
      · rw [ef, nI_clamp (by omega), nI_clamp (by omega), e]
        show _ + (0 : Int32).toNatClampNeg < _ + (1 : Int32).toNatClampNeg
        rw [show (0 : Int32).toNatClampNeg = 0 by decide, show (1 : Int32).toNatClampNeg = 1 by decide]
        omega
      · rw [ef, nI_clamp (by omega), nI_clamp (by omega)]
        have := pc8_lt hM8 hC8 g2 (fun z => e z.symm)
        have h8 : pc8 C ≤ 8 := ct_le _ _
        rw [show b2 true = 1 from rfl]
        omega
    · intro j2 y C hy ⟨g1, g2, g3⟩ hw
      refine pk_le n y (fun z => absurd z (by omega)) (fun _ => ?_)
      refine Exists.elim (pk_loop (σ := Nat) (fun j3 m D => L_Mo_reach_45 (L_Mo_reach_33 (L_Mo_reach_23 post (nI n) (nI k) mr j) (nI n) (nI k) mr (nI M) j2) (nI k) mr (nI y) j3 (nI D) (nI m)) (fun m D => SX n k mv x D ∧ (∀ v, C.testBit v = true → D.testBit v = true) ∧ ∀ m', m' < m → M.testBit y = true → D.testBit (tg (mv m') y) = true) k 0 C (Nat.zero_le _) ⟨g1, fun v hv => hv, fun m' hm' => absurd hm' (by omega)⟩ ?_ ?_) (fun j3 hj3 => ⟨j3, hj3⟩)
      · intro j3 D ⟨d1, d2, d3⟩
        refine pk_le k k (fun _ => nm_r (nI_1 y) (hw _ ⟨d1, fun v hv => d2 v (g2 v hv), fun y' hy' hb m hm => ?_⟩)) (fun z => absurd z (by omega))
        by_cases e : y' = y
        · rw [e] at hb ⊢
          exact d3 m hm hb
        · exact d2 _ (g3 y' (by omega) hb m hm)
      · intro j3 m D hm ⟨d1, d2, d3⟩ hw2
        have hD8 := d1.1
        have hmlt := isP_lt hn (hM.2.2 m hm)
        refine pk_le k m (fun z => absurd z (by omega)) (fun _ => ?_)
        rw [zz_sbit (by omega) (by omega)]
        cases eb : D.testBit y with
        | true =>
          refine ⟨fun _ => ⟨pk_in m 5 (by omega), ?_⟩, fun z => absurd rfl z⟩
          rw [nI_clamp (by omega), hmr m hm, zz_tgS (by omega) (by omega)]
          have ht := tg_lt (mv m) y
          refine nm_r (e' := nI (D ||| 2 ^ tg (mv m) y)) (by rw [zz_1sh (by omega), zz_or]) (nm_r (nI_1 m) (hw2 _ ⟨d1.add hM hm eb, fun v hv => by rw [Nat.testBit_or, d2 v hv]; rfl, fun m' hm' hb => ?_⟩))
          by_cases e : m' = m
          · rw [e, Nat.testBit_or, Nat.testBit_two_pow, decide_eq_true rfl, Bool.or_true]
          · rw [Nat.testBit_or, d3 m' (by omega) hb]; rfl
        | false =>
          have hnb : M.testBit y = true → False := fun hb => by rw [d2 y (g2 y hb)] at eb; cases eb
          refine ⟨fun z => absurd z (by decide), fun _ => nm_r (nI_1 y) (hw _ ⟨d1, fun v hv => d2 v (g2 v hv), fun y' hy' hb m' hm' => ?_⟩)⟩
          by_cases e : y' = y
          · rw [e] at hb
            exact absurd hb hnb
          · exact d2 _ (g3 y' (by omega) hb m' hm')
