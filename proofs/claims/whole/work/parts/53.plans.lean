/-! plans: digits to the base c, and their spread form to the base 4 -/
theorem lpU (W : Nat → Nat → Prop) (e : Nat) (hx : ∀ n, W (n + 1) e) (hs : ∀ n i, i < e → W n (i + 1) → W (n + 1) i) : ∃ n, W n 0 :=
  pk_loop (σ := Unit) (fun n i _ => W n i) (fun _ _ => True) e 0 () (Nat.zero_le _) trivial (fun n _ _ => hx n) (fun n i _ hi _ hw => hs n i hi (hw () trivial))
def col (n c p x : Nat) : Nat := p / c ^ (n - 1 - x) % c
/-- digits from i on, m of them, to the base 4 -/
def lf (t : Nat → Nat) : Nat → Nat → Nat
  | _, 0 => 0
  | i, m + 1 => t i * 4 ^ i + lf t (i + 1) m
theorem lf_mul (t : Nat → Nat) : ∀ m i, ∃ q, lf t i m = q * 4 ^ i := by
  intro m
  induction m with
  | zero => intro i; exact ⟨0, by rw [Nat.zero_mul]; rfl⟩
  | succ m ih =>
    intro i
    obtain ⟨q, hq⟩ := ih (i + 1)
    refine ⟨t i + 4 * q, ?_⟩
    show t i * 4 ^ i + lf t (i + 1) m = _
    rw [hq, Nat.pow_succ, Nat.add_mul]
    congr 1
    rw [Nat.mul_comm (4 ^ i) 4, ← Nat.mul_assoc, Nat.mul_comm q 4]
theorem lf_lt {t : Nat → Nat} (ht : ∀ x, t x < 4) : ∀ m i, lf t i m + 4 ^ i ≤ 4 ^ (i + m) := by
  intro m
  induction m with
  | zero => intro i; show 0 + 4 ^ i ≤ 4 ^ (i + 0); rw [Nat.zero_add, Nat.add_zero]; exact Nat.le_refl _
  | succ m ih =>
    intro i
    have h1 := ih (i + 1)
    have h2 : t i * 4 ^ i ≤ 3 * 4 ^ i := Nat.mul_le_mul_right _ (by have := ht i; omega)
    rw [Nat.pow_succ] at h1
    show t i * 4 ^ i + lf t (i + 1) m + 4 ^ i ≤ 4 ^ (i + (m + 1))
    rw [show i + (m + 1) = i + 1 + m by omega]
    omega
theorem lf_dig {t : Nat → Nat} (ht : ∀ x, t x < 4) : ∀ m i x, lf t i m / 4 ^ x % 4 = if i ≤ x ∧ x < i + m then t x else 0 := by
  intro m
  induction m with
  | zero =>
    intro i x
    rw [if_neg (by omega)]
    show 0 / 4 ^ x % 4 = 0
    rw [Nat.zero_div]
  | succ m ih =>
    intro i x
    show (t i * 4 ^ i + lf t (i + 1) m) / 4 ^ x % 4 = _
    obtain ⟨q, hq⟩ := lf_mul t m (i + 1)
    rcases Nat.lt_trichotomy x i with h | h | h
    · rw [if_neg (by omega), hq]
      have e1 : 4 ^ i = 4 ^ (i - x - 1) * 4 * 4 ^ x := by
        rw [← Nat.pow_succ, ← Nat.pow_add]; congr 1; omega
      have e2 : 4 ^ (i + 1) = 4 ^ (i - x - 1) * 4 * 4 * 4 ^ x := by
        rw [Nat.pow_succ, e1]; rw [Nat.mul_assoc, Nat.mul_comm (4 ^ x) 4, ← Nat.mul_assoc]
      rw [e1, e2, ← Nat.mul_assoc, ← Nat.mul_assoc (q), ← Nat.add_mul, Nat.mul_div_cancel _ (Nat.pow_pos (by decide)), ← Nat.mul_assoc, ← Nat.mul_assoc, ← Nat.add_mul, Nat.mul_mod_left]
    · subst h
      rw [if_pos (by omega), hq, Nat.pow_succ, Nat.mul_comm (4 ^ x) 4, ← Nat.mul_assoc, ← Nat.add_mul, Nat.mul_div_cancel _ (Nat.pow_pos (by decide)), Nat.add_mul_mod_self_right, Nat.mod_eq_of_lt (ht x)]
    · have hl : t i * 4 ^ i < 4 ^ x := by
        have h1 : t i * 4 ^ i ≤ 3 * 4 ^ i := Nat.mul_le_mul_right _ (by have := ht i; omega)
        have h2 : 4 ^ (i + 1) ≤ 4 ^ x := Nat.pow_le_pow_right (by decide) h
        have h3 : 0 < 4 ^ i := Nat.pow_pos (by decide)
        rw [Nat.pow_succ] at h2
        omega
      have e3 : (t i * 4 ^ i + lf t (i + 1) m) / 4 ^ x % 4 = lf t (i + 1) m / 4 ^ x % 4 := by
        congr 1
        have hl2 : t i * 4 ^ i < 4 ^ (i + 1) := by
          have h1 : t i * 4 ^ i ≤ 3 * 4 ^ i := Nat.mul_le_mul_right _ (by have := ht i; omega)
          have h3 : 0 < 4 ^ i := Nat.pow_pos (by decide)
          rw [Nat.pow_succ]; omega
        have e4 : 4 ^ x = 4 ^ (i + 1) * 4 ^ (x - (i + 1)) := by rw [← Nat.pow_add]; congr 1; omega
        rw [hq, e4, ← Nat.div_div_eq_div_mul, ← Nat.div_div_eq_div_mul, Nat.add_mul_div_right _ _ (Nat.pow_pos (by decide)), Nat.div_eq_of_lt hl2, Nat.zero_add, Nat.mul_div_cancel _ (Nat.pow_pos (by decide))]
      rw [e3, ih (i + 1) x]
      by_cases hc : i + 1 ≤ x ∧ x < i + 1 + m
      · rw [if_pos hc, if_pos (by omega)]
      · rw [if_neg hc, if_neg (by omega)]
theorem zz_m1 (x : Int32) : x + (-1) = x - 1 := (Int32.sub_eq_add_neg x 1).symm
/-- Plans.colourAt -/
theorem w_colAt {post : Int32 → Prop} {Z x : Nat} (hZ : Z < 2 ^ 32) (hx : x ≤ 15) (h : post (nI (Z / 4 ^ x % 4))) : wp_Plans_colourAt post (nI Z) (nI x) := by
  unfold wp_Plans_colourAt
  rw [show (2 : Int32) * nI x = nI (2 * x) from pk_mul 2 x, zz_ushr hZ (by omega), zz_pow4, pk_andN (Nat.lt_of_le_of_lt (Nat.div_le_self _ _) hZ) 2 (by decide)]
  exact h
def spd (n c p : Nat) : Nat := lf (col n c p) 0 n
theorem col_lt {n c p x : Nat} (hc : 0 < c) : col n c p x < c := Nat.mod_lt _ hc
theorem spd_lt {n c p : Nat} (hn : n ≤ 7) (hc : 0 < c) (hc4 : c ≤ 4) : spd n c p < 2 ^ 14 := by
  have h := lf_lt (t := col n c p) (fun x => by have := col_lt (n := n) (p := p) (x := x) hc; omega) n 0
  have h2 : 4 ^ (0 + n) ≤ 4 ^ 7 := Nat.pow_le_pow_right (by decide) (by omega)
  unfold spd
  have : (4 : Nat) ^ 7 = 2 ^ 14 := by decide
  omega
theorem spd_dig {n c p x : Nat} (hc : 0 < c) (hc4 : c ≤ 4) (hx : x < n) : spd n c p / 4 ^ x % 4 = col n c p x := by
  unfold spd
  rw [lf_dig (fun x => by have := col_lt (n := n) (p := p) (x := x) hc; omega), if_pos (by omega)]
theorem spd_dig0 {n c p x : Nat} (hc : 0 < c) (hc4 : c ≤ 4) (hx : n ≤ x) : spd n c p / 4 ^ x % 4 = 0 := by
  unfold spd
  rw [lf_dig (fun x => by have := col_lt (n := n) (p := p) (x := x) hc; omega), if_neg (by omega)]
theorem w_colPlan {post : Int32 → Prop} {n c p x : Nat} (hn : n ≤ 7) (hc : 0 < c) (hc4 : c ≤ 4) (hx : x < n) (h : post (nI (col n c p x))) : wp_Plans_colourAt post (nI (spd n c p)) (nI x) :=
  w_colAt (Nat.lt_of_lt_of_le (spd_lt hn hc hc4) (by decide)) (by omega) (by rw [spd_dig hc hc4 hx]; exact h)
/-- Plans.spread -/
theorem w_spread {post : Int32 → Prop} {n c p : Nat} (hn : n ≤ 7) (hc : 0 < c) (hc4 : c ≤ 4) (hp : p < 2 ^ 31) (h : post (nI (spd n c p))) : wp_Plans_spread post (nI n) (nI c) (nI p) := by
  unfold wp_Plans_spread
  intro x4 e4
  subst e4
  have ht : ∀ x, col n c p x < 4 := fun x => by have := col_lt (n := n) (p := p) (x := x) hc; omega
  have key := pk_loopD (σ := Unit) (fun k i _ => L_Plans_spread_12 post (nI c) k (nI (lf (col n c p) i (n - i))) (nI (p / c ^ (n - i))) (nI i - 1)) (fun i _ => i ≤ n)
    (fun k _ _ => by
      refine ⟨fun _ => ?_, fun z => absurd (show nI 0 - 1 < 0 by decide) z⟩
      exact h)
    (fun k i _ hi hw => by
      have hw' := hw () (by omega)
      rw [nI_pred]
      refine ⟨fun z => absurd z (nI_pos (by omega)), fun _ => ?_⟩
      refine ⟨fun z => absurd z (nI_nle hc (by omega)), fun _ => ⟨nI_ne0 hc (by omega), ?_⟩⟩
      refine nm_r (e' := nI (lf (col n c p) i (n - i))) ?_ ⟨nI_ne0 hc (by omega), nm_r (e' := nI (p / c ^ (n - i))) ?_ (nm_r (e' := nI i - 1) (zz_m1 _) hw')⟩
      · have hq : p / c ^ (n - (i + 1)) < 2 ^ 31 := Nat.lt_of_le_of_lt (Nat.div_le_self _ _) hp
        rw [pk_rem hq hc (by omega), show (2 : Int32) * nI i = nI (2 * i) from pk_mul 2 i]
        have e1 : n - (i + 1) = n - 1 - i := by omega
        have e2 : n - i = (n - (i + 1)) + 1 := by omega
        have hd : p / c ^ (n - (i + 1)) % c = col n c p i := by rw [e1]; rfl
        rw [hd, zz_shl (by omega) ?_, zz_pow4, zz_or, e2]
        · obtain ⟨q, hq2⟩ := lf_mul (col n c p) (n - (i + 1)) (i + 1)
          show _ = nI (col n c p i * 4 ^ i + lf (col n c p) (i + 1) (n - (i + 1)))
          rw [hq2]
          have hlt : col n c p i * 4 ^ i < 2 ^ (2 * (i + 1)) := by
            rw [zz_pow4, Nat.pow_succ]
            have h1 : col n c p i * 4 ^ i ≤ 3 * 4 ^ i := Nat.mul_le_mul_right _ (by have := ht i; omega)
            have h3 : 0 < 4 ^ i := Nat.pow_pos (by decide)
            omega
          have := zz_orAdd hlt q
          rw [zz_pow4] at this
          rw [Nat.or_comm, this]
        · rw [zz_pow4]
          have h1 : col n c p i * 4 ^ i ≤ 3 * 4 ^ 7 := Nat.mul_le_mul (by have := ht i; omega) (Nat.pow_le_pow_right (by decide) (by omega))
          exact Nat.lt_of_le_of_lt h1 (by decide)
      · have hq : p / c ^ (n - (i + 1)) < 2 ^ 31 := Nat.lt_of_le_of_lt (Nat.div_le_self _ _) hp
        rw [pk_div hq hc (by omega), Nat.div_div_eq_div_mul, ← Nat.pow_succ]
        congr 3
        omega)
    n () (Nat.le_refl n)
  refine ⟨n + 1, ?_⟩
  have key' : L_Plans_spread_12 post (nI c) (n + 1) (nI (lf (col n c p) n (n - n))) (nI (p / c ^ (n - n))) (nI n - 1) := key
  rw [Nat.sub_self, Nat.pow_zero, Nat.div_one] at key'
  exact key'
