/-! permutations: masks, ranks -/
theorem sur_inj {σ : Nat → Nat} {n : Nat} (hm : ∀ i, i < n → σ i < n) (hs : ∀ j, j < n → ∃ i, i < n ∧ σ i = j) : ∀ i j, i < n → j < n → σ i = σ j → i = j := by
  have h2 : sm (fun _ => 1) n = sm (fun j => sm (fun i => (σ i == j).toNat) n) n := by
    rw [← sm_swap]
    refine (sm_congr n (fun i hi' => ?_))
    rw [sm_at (hm i hi') (fun j _ hne => by
      have : (σ i == j) = false := by simpa using fun z => hne z.symm
      rw [this]; rfl)]
    simp
  have h1 : ∀ j, j < n → 1 ≤ sm (fun i => (σ i == j).toNat) n := by
    intro j hj
    obtain ⟨i, hi, hij⟩ := hs j hj
    have := sm_pos (f := fun i => (σ i == j).toNat) hi
    simpa [hij] using this
  have h3 := sm_eq_all n h1 h2
  intro i j hi hj hij
  by_cases e : i = j
  · exact e
  · exfalso
    have h4 := h3 (σ i) (hm i hi)
    have key : ∀ m, i < m → j < m → 2 ≤ sm (fun a => (σ a == σ i).toNat) m := by
      intro m
      induction m with
      | zero => intro h; omega
      | succ m ih =>
        intro h5 h6
        show 2 ≤ sm (fun a => (σ a == σ i).toNat) m + (σ m == σ i).toNat
        by_cases e1 : i = m
        · have : 1 ≤ sm (fun a => (σ a == σ i).toNat) m := by
            have := sm_pos (f := fun a => (σ a == σ i).toNat) (show j < m by omega)
            simpa [← hij] using this
          have h7 : (σ m == σ i).toNat = 1 := by rw [← e1]; simp
          omega
        · by_cases e2 : j = m
          · have : 1 ≤ sm (fun a => (σ a == σ i).toNat) m := by
              have := sm_pos (f := fun a => (σ a == σ i).toNat) (show i < m by omega)
              simpa using this
            have h7 : (σ m == σ i).toNat = 1 := by rw [← e2, ← hij]; simp
            omega
          · have := ih (by omega) (by omega)
            omega
    have := key n hi hj
    omega
/-- the set of the first i targets -/
def msk (t : Nat → Nat) : Nat → Nat
  | 0 => 0
  | i + 1 => msk t i ||| 2 ^ t i
theorem msk_bit (t : Nat → Nat) : ∀ i b, (msk t i).testBit b = true ↔ ∃ y, y < i ∧ t y = b := by
  intro i
  induction i with
  | zero => intro b; rw [show msk t 0 = 0 from rfl, Nat.zero_testBit]; exact ⟨fun h => absurd h (by decide), fun ⟨y, hy, _⟩ => absurd hy (by omega)⟩
  | succ i ih =>
    intro b
    show (msk t i ||| 2 ^ t i).testBit b = true ↔ _
    rw [Nat.testBit_or, Nat.testBit_two_pow, Bool.or_eq_true, ih b, decide_eq_true_eq]
    constructor
    · rintro (⟨y, hy, e⟩ | e)
      · exact ⟨y, by omega, e⟩
      · exact ⟨i, by omega, e⟩
    · rintro ⟨y, hy, e⟩
      by_cases ey : y = i
      · exact Or.inr (by rw [← ey]; exact e)
      · exact Or.inl ⟨y, by omega, e⟩
theorem msk_lt {t : Nat → Nat} : ∀ i, (∀ y, y < i → t y < 8) → msk t i < 256 := by
  intro i
  induction i with
  | zero => intro _; exact (by decide : 0 < 256)
  | succ i ih =>
    intro h
    show msk t i ||| 2 ^ t i < 2 ^ 8
    exact Nat.or_lt_two_pow (ih (fun y hy => h y (by omega))) (Nat.pow_lt_pow_right (by decide) (h i (by omega)))
theorem msk_full {t : Nat → Nat} {n : Nat} (hn : n ≤ 7) (h8 : ∀ y, y < n → t y < 8) : msk t n = 2 ^ n - 1 ↔ ((∀ x, x < n → t x < n) ∧ ∀ x y, x < n → y < n → t x = t y → x = y) := by
  constructor
  · intro e
    have hb : ∀ b, (∃ y, y < n ∧ t y = b) ↔ b < n := by
      intro b
      rw [← msk_bit t n b, e, Nat.testBit_two_pow_sub_one, decide_eq_true_eq]
    have h1 : ∀ x, x < n → t x < n := fun x hx => (hb (t x)).mp ⟨x, hx, rfl⟩
    exact ⟨h1, sur_inj h1 (fun j hj => (hb j).mpr hj)⟩
  · intro ⟨h1, h2⟩
    apply Nat.eq_of_testBit_eq
    intro b
    rw [Nat.testBit_two_pow_sub_one]
    by_cases hb : b < n
    · rw [decide_eq_true hb]
      exact (msk_bit t n b).mpr (inj_hit h1 h2 b hb)
    · rw [decide_eq_false hb]
      cases e : (msk t n).testBit b with
      | false => rfl
      | true =>
        obtain ⟨y, hy, e2⟩ := (msk_bit t n b).mp e
        have := h1 y hy
        omega
theorem w_isPerm {post : Int32 → Prop} {R n : Nat} (hR : R < 2 ^ 32) (hn : n ≤ 7) (h1 : isP n R → post 1) (h0 : ¬ isP n R → post 0) : wp_Rows_isPermutation post (nI R) (nI n) := by
  unfold wp_Rows_isPermutation
  rw [show (3 : Int32) * nI n = nI (3 * n) from pk_mul 3 n, zz_ushr hR (by omega), zz_pow8]
  have hp : 0 < 8 ^ n := Nat.pow_pos (by decide)
  have hd : R / 8 ^ n < 2 ^ 32 := Nat.lt_of_le_of_lt (Nat.div_le_self _ _) hR
  have e0 : nI (R / 8 ^ n) = 0 ↔ R < 8 ^ n := by
    constructor
    · intro e
      have e1 : (nI (R / 8 ^ n)).toBitVec.toNat = (nI 0).toBitVec.toNat := by rw [e]; rfl
      rw [pk_tn hd, pk_tn (by decide)] at e1
      exact (Nat.div_eq_zero_iff_lt hp).mp e1
    · intro e
      rw [Nat.div_eq_of_lt e]
      rfl
  rw [e0]
  refine ⟨fun hlt => ?_, fun hge => h0 (fun z => hge z.1)⟩
  have h8 : ∀ y, y < n → tg R y < 8 := fun y _ => tg_lt R y
  refine lpU (fun k i => L_Rows_isPermutation_14 post (nI R) (nI n) k (nI (msk (tg R) i)) (nI i)) n ?_ ?_
  · intro k
    refine pk_le n n (fun _ => ?_) (fun z => absurd z (by omega))
    rw [zz_1sh (by omega), show nI (2 ^ n) - 1 = nI (2 ^ n - 1) from pk_sub (b := 1) (Nat.pow_pos (by decide))]
    have h2 : 2 ^ n ≤ 2 ^ 7 := Nat.pow_le_pow_right (by decide) hn
    have h3 := msk_lt n h8
    refine pk_eq _ _ (fun e => ?_) (fun e => ?_) rfl rfl (by omega) (by omega)
    · exact h1 ⟨hlt, ((msk_full hn h8).mp e).1, ((msk_full hn h8).mp e).2⟩
    · exact h0 (fun z => e ((msk_full hn h8).mpr ⟨z.2.1, z.2.2⟩))
  · intro k i hi hw
    refine pk_le n i (fun z => absurd z (by omega)) (fun _ => w_tg hR (by omega) (nm_r ?_ (nm_r (nI_1 i) hw)))
    rw [zz_1sh (by have := tg_lt R i; omega), zz_or]
    rfl
theorem zz_sbit {M y : Nat} (hM : M < 2 ^ 31) (hy : y < 31) : (nI M >>> (nI y &&& 31)) &&& (1 : Int32) = nI (M.testBit y).toNat := by
  rw [pk_shrN hM _ y (zz_l y (by omega)), pk_andN (Nat.lt_of_le_of_lt (Nat.div_le_self _ _) (by omega)) 1 (by decide)]
  congr 1
  exact zz_bit
theorem zz_sbit0 {M y : Nat} (hM : M < 2 ^ 31) (hy : y < 31) : (nI M >>> (nI y &&& 31)) &&& (1 : Int32) = 0 ↔ M.testBit y = false := by
  rw [zz_sbit hM hy]
  cases M.testBit y with
  | false => exact ⟨fun _ => rfl, fun _ => rfl⟩
  | true => exact ⟨fun z => absurd z (by decide), fun z => by cases z⟩
/-- the reference's reads -/
theorem w_reads {post : Int32 → (Nat → Int32) → Prop} {R n : Nat} {im : Nat → Int32} (hR : R < 2 ^ 32) (hn : n ≤ 7) (h1 : isP n R → ∀ f : Nat → Int32, (∀ x, x < n → f x = nI (tg R x)) → post 1 f) (h0 : ¬ isP n R → ∀ f, post 0 f) : wp_Mo_reads post (nI n) im (nI R) := by
  have bad : ¬ isP n R → ∀ (f : Nat → Int32) (i : Nat) (v2 : Int32), ∃ k, L_Mo_reads_26 post (nI n) (nI R) k f v2 (0 : Int32) (nI i) := by
    intro hb f i v2
    exact ⟨1, ⟨fun _ => ⟨Or.inl rfl, h0 hb f⟩, fun _ => ⟨fun _ => ⟨Or.inl rfl, h0 hb f⟩, fun z => absurd rfl z⟩⟩⟩
  have hp8 : 8 ^ n ≤ 8 ^ 7 := Nat.pow_le_pow_right (by decide) hn
  have h87 : (8 : Nat) ^ 7 = 2 ^ 21 := by decide
  have hpos : 0 < 8 ^ n := Nat.pow_pos (by decide)
  unfold wp_Mo_reads
  by_cases hneg : nI R < 0
  · refine ⟨fun _ => bad (fun z => ?_) im 0 0, fun z => absurd hneg z⟩
    exact absurd hneg (nI_pos (by have := z.1; omega))
  · have hR31 : R < 2 ^ 31 := by
      rcases Nat.lt_or_ge R (2 ^ 31) with g | g
      · exact g
      · exfalso
        apply hneg
        apply Int32.lt_iff_toInt_lt.mpr
        have : (nI R).toInt = (R : Int) - 2 ^ 32 := by
          show (BitVec.ofNat 32 R).toInt = _
          rw [BitVec.toInt_eq_toNat_cond, BitVec.toNat_ofNat, Nat.mod_eq_of_lt hR, if_neg (by omega)]
          rfl
        rw [this]
        have a3 : (0 : Int32).toInt = 0 := by decide
        omega
    refine ⟨fun z => absurd z hneg, fun _ => ?_⟩
    rw [show (3 : Int32) * nI n = nI (3 * n) from pk_mul 3 n, pk_shrN hR31 _ (3 * n) (zz_l _ (by omega)), zz_pow8]
    refine pk_eq (y := 0) (R / 8 ^ n) 0 (fun e => ?_) (fun e => bad (fun z => e (Nat.div_eq_of_lt z.1)) im 0 0) rfl rfl (Nat.lt_of_le_of_lt (Nat.div_le_self _ _) hR31) (by omega)
    have hlt : R < 8 ^ n := (Nat.div_eq_zero_iff_lt hpos).mp e
    refine Exists.elim (pk_loop (fun k i (s : Nat → Int32) => ((∀ x, x < i → tg R x < n) ∧ (∀ x y, x < i → y < i → tg R x = tg R y → x = y)) → L_Mo_reads_26 post (nI n) (nI R) (k + 1) s (nI (msk (tg R) i)) (1 : Int32) (nI i)) (fun i s => ∀ x, x < i → s x = nI (tg R x)) n 0 im (Nat.zero_le _) (fun x hx => absurd hx (by omega)) ?_ ?_) (fun k hk => ⟨k + 1, hk ⟨fun x hx => absurd hx (by omega), fun x y hx => absurd hx (by omega)⟩⟩)
    · intro k s hs hg
      exact pk_le n n (fun _ => ⟨Or.inr rfl, h1 ⟨hlt, hg.1, hg.2⟩ s hs⟩) (fun z => absurd z (by omega))
    · intro k i s hi hs hw hg
      have ht := tg_lt R i
      have hm := msk_lt (t := tg R) i (fun y _ => tg_lt R y)
      have hs' : ∀ x, x < i + 1 → upd s i (nI (tg R i)) x = nI (tg R x) := zz_fill (f := fun x => nI (tg R x)) rfl hs rfl
      have fin : ∀ q : Int32, nI (msk (tg R) i) ||| ((1 : Int32) <<< (nI (tg R i) &&& 31)) = nI (msk (tg R) (i + 1)) := fun _ => by
        rw [zz_1sh (by omega), zz_or]; rfl
      have fail : ¬ isP n R → J_Mo_reads_88 (L_Mo_reads_26 post (nI n) (nI R) (k + 1)) (upd s i (nI (tg R i))) (nI (msk (tg R) i)) (nI i) 0 := by
        intro hb
        refine ⟨pk_in i 7 (by omega), nm_e (nm_e ?_)⟩
        exact ⟨fun _ => ⟨Or.inl rfl, h0 hb _⟩, fun _ => ⟨fun _ => ⟨Or.inl rfl, h0 hb _⟩, fun z => absurd rfl z⟩⟩
      refine pk_le n i (fun z => absurd z (by omega)) (fun _ => ⟨fun z => absurd z (by decide), fun _ => ?_⟩)
      rw [zz_tgS hR31 (by omega)]
      refine nm_r rfl ⟨pk_in i 7 (by omega), pk_in i 7 (by omega), ?_⟩
      rw [nI_clamp (show i < 2 ^ 31 by omega), pk_us]
      refine pk_le n (tg R i) (fun z => fail (fun q => absurd (q.2.1 i hi) (by omega))) (fun hin => ⟨pk_in i 7 (by omega), ?_⟩)
      rw [zz_sbit0 (by omega) (by omega)]
      refine ⟨fun g => ?_, fun g => fail (fun q => ?_)⟩
      · refine ⟨pk_in i 7 (by omega), nm_r (e' := nI (msk (tg R) (i + 1))) (by rw [nI_clamp (show i < 2 ^ 31 by omega), pk_us]; exact fin 0) (nm_r (nI_1 i) (hw _ hs' ⟨fun x hx => ?_, fun x y hx hy hxy => ?_⟩))⟩
        · by_cases ex : x = i
          · rw [ex]; exact hin
          · exact hg.1 x (by omega)
        · have nob : ∀ y, y < i → tg R y ≠ tg R i := fun y hy z => by
            rw [(msk_bit (tg R) i (tg R i)).mpr ⟨y, hy, z⟩] at g
            cases g
          by_cases ex : x = i
          · by_cases ey : y = i
            · omega
            · rw [ex] at hxy
              exact absurd hxy.symm (nob y (by omega))
          · by_cases ey : y = i
            · rw [ey] at hxy
              exact absurd hxy (nob x (by omega))
            · exact hg.2 x y (by omega) (by omega) hxy
      · apply g
        cases e2 : (msk (tg R) i).testBit (tg R i) with
        | false => rfl
        | true =>
          obtain ⟨y, hy, hyi⟩ := (msk_bit (tg R) i (tg R i)).mp e2
          have := q.2.2 y i (by omega) hi hyi
          omega
