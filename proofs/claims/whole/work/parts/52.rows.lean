/-! rows: the digits of a number to the base 8 -/
def tg (R x : Nat) : Nat := R / 8 ^ x % 8
def enc (t : Nat → Nat) : Nat → Nat
  | 0 => 0
  | x + 1 => enc t x + t x * 8 ^ x
theorem tg_lt (R x : Nat) : tg R x < 8 := Nat.mod_lt _ (by decide)
theorem enc_lt {t : Nat → Nat} : ∀ n, (∀ x, x < n → t x < 8) → enc t n < 8 ^ n := by
  intro n
  induction n with
  | zero => intro _; exact Nat.one_pos
  | succ n ih =>
    intro h
    have h1 := ih (fun x hx => h x (by omega))
    have h2 := h n (by omega)
    have h3 : t n * 8 ^ n ≤ 7 * 8 ^ n := Nat.mul_le_mul_right _ (by omega)
    show enc t n + t n * 8 ^ n < 8 ^ (n + 1)
    rw [Nat.pow_succ]
    omega
theorem enc_congr {t u : Nat → Nat} : ∀ n, (∀ x, x < n → t x = u x) → enc t n = enc u n := by
  intro n
  induction n with
  | zero => intro _; rfl
  | succ n ih =>
    intro h
    show enc t n + t n * 8 ^ n = enc u n + u n * 8 ^ n
    rw [ih (fun x hx => h x (by omega)), h n (by omega)]
theorem tg_enc {t : Nat → Nat} : ∀ n, (∀ x, x < n → t x < 8) → ∀ x, x < n → tg (enc t n) x = t x := by
  intro n
  induction n with
  | zero => intro _ x hx; omega
  | succ n ih =>
    intro h x hx
    have hl := enc_lt n (fun x hx => h x (by omega))
    by_cases e : x = n
    · subst e
      show (enc t x + t x * 8 ^ x) / 8 ^ x % 8 = t x
      rw [Nat.add_mul_div_right _ _ (Nat.pow_pos (by decide)), Nat.div_eq_of_lt hl, Nat.zero_add, Nat.mod_eq_of_lt (h x (by omega))]
    · have hx' : x < n := by omega
      have e2 : 8 ^ n = 8 ^ (n - x - 1) * 8 * 8 ^ x := by
        rw [← Nat.pow_succ, ← Nat.pow_add]
        congr 1
        omega
      show (enc t n + t n * 8 ^ n) / 8 ^ x % 8 = t x
      rw [e2, ← Nat.mul_assoc, Nat.add_mul_div_right _ _ (Nat.pow_pos (by decide)), ← Nat.mul_assoc, Nat.add_mul_mod_self_right]
      exact ih (fun x hx => h x (by omega)) x hx'
theorem enc_tg : ∀ (n R : Nat), enc (tg R) n = R % 8 ^ n := by
  intro n
  induction n with
  | zero => intro R; show 0 = R % 1; omega
  | succ n ih =>
    intro R
    show enc (tg R) n + tg R n * 8 ^ n = R % 8 ^ (n + 1)
    rw [ih R, Nat.pow_succ, Nat.mod_mul, Nat.mul_comm (8 ^ n)]
    rfl
theorem enc_or {t : Nat → Nat} {n d : Nat} (h : ∀ x, x < n → t x < 8) : enc t n ||| d * 8 ^ n = enc t n + d * 8 ^ n := by
  have := zz_orAdd (k := 3 * n) (by rw [zz_pow8]; exact enc_lt n h) d
  rwa [zz_pow8] at this
/-- Rows.target -/
theorem w_tg {post : Int32 → Prop} {R x : Nat} (hR : R < 2 ^ 32) (hx : x ≤ 10) (h : post (nI (tg R x))) : wp_Rows_target post (nI R) (nI x) := by
  unfold wp_Rows_target
  rw [show (3 : Int32) * nI x = nI (3 * x) from pk_mul 3 x, zz_ushr hR (by omega), zz_pow8, pk_andN (Nat.lt_of_le_of_lt (Nat.div_le_self _ _) hR) 3 (by decide)]
  exact h
theorem zz_dig {d i : Nat} (hd : d < 8) (hi : i ≤ 7) : nI d <<< (((3 : Int32) * nI i) &&& 31) = nI (d * 8 ^ i) := by
  rw [show (3 : Int32) * nI i = nI (3 * i) from pk_mul 3 i, zz_shl (by omega) ?_, zz_pow8]
  rw [zz_pow8]
  have h1 : 8 ^ i ≤ 8 ^ 7 := zz_up hi 8 (by decide)
  have h2 : d * 8 ^ i ≤ 7 * 8 ^ 7 := Nat.mul_le_mul (by omega) h1
  exact Nat.lt_of_le_of_lt h2 (by decide)
theorem zz_encStep {t : Nat → Nat} {i : Nat} (ht : ∀ x, t x < 8) (hi : i ≤ 7) : nI (enc t i) ||| (nI (t i) <<< (((3 : Int32) * nI i) &&& 31)) = nI (enc t (i + 1)) := by
  rw [zz_dig (ht i) hi, zz_or, enc_or (fun x _ => ht x)]
  rfl
theorem w_identity {post : Int32 → Prop} {N : Nat} (hN : N ≤ 7) (h : post (nI (enc (fun x => x % 8) N))) : wp_Rows_identity post (nI N) :=
  pk_loop (σ := Unit) (fun n i _ => L_Rows_identity_4 post (nI N) n (nI (enc (fun x => x % 8) i)) (nI i)) (fun _ _ => True) N 0 () (Nat.zero_le _) trivial
    (fun n _ _ => pk_le N N (fun _ => h) (fun z => absurd z (by omega)))
    (fun n i _ hi _ hw => pk_le N i (fun z => absurd z (by omega)) (fun _ => nm_r (by
      have e := zz_encStep (t := fun x => x % 8) (i := i) (fun x => Nat.mod_lt _ (by decide)) (by omega)
      rw [Nat.mod_eq_of_lt (show i < 8 by omega)] at e
      exact e) (nm_r (nI_1 i) (hw () trivial))))
theorem w_chain {post : Int32 → Prop} {F S N : Nat} (hF : F < 2 ^ 32) (hS : S < 2 ^ 32) (hN : N ≤ 7) (h : post (nI (enc (fun x => tg S (tg F x)) N))) : wp_Rows_chain post (nI F) (nI S) (nI N) :=
  pk_loop (σ := Unit) (fun n i _ => L_Rows_chain_5 post (nI F) (nI S) (nI N) n (nI (enc (fun x => tg S (tg F x)) i)) (nI i)) (fun _ _ => True) N 0 () (Nat.zero_le _) trivial
    (fun n _ _ => pk_le N N (fun _ => h) (fun z => absurd z (by omega)))
    (fun n i _ hi _ hw => pk_le N i (fun z => absurd z (by omega)) (fun _ => w_tg hF (by omega) (w_tg hS (by have := tg_lt F i; omega) (nm_r (zz_encStep (t := fun x => tg S (tg F x)) (fun x => tg_lt _ _) (by omega)) (nm_r (nI_1 i) (hw () trivial))))))
