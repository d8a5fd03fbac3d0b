/-! how many plans a permutation keeps -/
theorem sm_split (f : Nat → Nat) (b : Nat) : ∀ a, sm f (a * b) = sm (fun i => sm (fun j => f (i * b + j)) b) a := by
  have app : ∀ a k, sm f (a + k) = sm f a + sm (fun j => f (a + j)) k := by
    intro a k
    induction k with
    | zero => rfl
    | succ k ih => show sm f (a + k) + f (a + k) = sm f a + (sm (fun j => f (a + j)) k + f (a + k)); rw [ih, Nat.add_assoc]
  intro a
  induction a with
  | zero => rw [Nat.zero_mul]; rfl
  | succ a ih => rw [Nat.succ_mul, app, ih]; rfl
theorem col_hi {m c p d x : Nat} (hc : 0 < c) (hd : d < c) (hx : x < m) : col (m + 1) c (p * c + d) x = col m c p x := by
  unfold col
  rw [show m + 1 - 1 - x = (m - 1 - x) + 1 by omega, Nat.pow_succ, Nat.mul_comm (c ^ (m - 1 - x)) c, ← Nat.div_div_eq_div_mul, Nat.mul_comm p c, Nat.mul_add_div hc, Nat.div_eq_of_lt hd, Nat.add_zero]
theorem col_lo {m c p d : Nat} (hd : d < c) : col (m + 1) c (p * c + d) m = d := by
  unfold col
  rw [show m + 1 - 1 - m = 0 by omega, Nat.pow_zero, Nat.div_one, Nat.mul_comm, Nat.mul_add_mod, Nat.mod_eq_of_lt hd]
theorem keep_count {c : Nat} {rp : Nat → Nat} (hc : 0 < c) : ∀ m, (∀ x, x < m → rp x ≤ x) → ct (fun p => allB (fun x => col m c p x == col m c p (rp x)) m) (c ^ m) = c ^ ct (fun x => rp x == x) m := by
  intro m
  induction m with
  | zero => intro _; rfl
  | succ m ih =>
    intro hrp
    have ih' := ih (fun x hx => hrp x (by omega))
    have hF : ∀ p d, d < c → allB (fun x => col (m + 1) c (p * c + d) x == col (m + 1) c (p * c + d) (rp x)) (m + 1) = (allB (fun x => col m c p x == col m c p (rp x)) m && (d == col (m + 1) c (p * c + d) (rp m))) := by
      intro p d hd
      show (allB _ m && _) = _
      congr 1
      · exact allB_congr (fun x hx => by rw [col_hi hc hd hx, col_hi hc hd (by have := hrp x (by omega); omega)])
      · show (col (m + 1) c (p * c + d) m == col (m + 1) c (p * c + d) (rp m)) = _
        rw [col_lo hd]
    have e1 : ct (fun p => allB (fun x => col (m + 1) c p x == col (m + 1) c p (rp x)) (m + 1)) (c ^ (m + 1)) = sm (fun p => sm (fun d => (allB (fun x => col m c p x == col m c p (rp x)) m && (d == col (m + 1) c (p * c + d) (rp m))).toNat) c) (c ^ m) := by
      unfold ct
      rw [Nat.pow_succ, sm_split]
      exact sm_congr _ (fun p _ => sm_congr _ (fun d hd => congrArg Bool.toNat (hF p d hd)))
    rw [e1, ct_succ]
    by_cases e : rp m = m
    · rw [show (rp m == m) = true from beq_iff_eq.mpr e]
      have e2 : ∀ p, sm (fun d => (allB (fun x => col m c p x == col m c p (rp x)) m && (d == col (m + 1) c (p * c + d) (rp m))).toNat) c = c * (allB (fun x => col m c p x == col m c p (rp x)) m).toNat := fun p => by
        rw [sm_congr c (g := fun _ => (allB (fun x => col m c p x == col m c p (rp x)) m).toNat) (fun d hd => by rw [e, col_lo hd, beq_self_eq_true, Bool.and_true]), sm_const]
      rw [sm_congr _ (fun p _ => e2 p), sm_mul]
      show c * ct _ _ = _
      rw [ih']
      show c * c ^ _ = c ^ (_ + 1)
      rw [Nat.pow_succ, Nat.mul_comm]
    · have hlt : rp m < m := by have := hrp m (by omega); omega
      rw [show (rp m == m) = false by simpa using e]
      have e2 : ∀ p, sm (fun d => (allB (fun x => col m c p x == col m c p (rp x)) m && (d == col (m + 1) c (p * c + d) (rp m))).toNat) c = (allB (fun x => col m c p x == col m c p (rp x)) m).toNat := fun p => by
        rw [sm_congr c (g := fun d => (allB (fun x => col m c p x == col m c p (rp x)) m && (d == col m c p (rp m))).toNat) (fun d hd => by rw [col_hi hc hd hlt])]
        rw [sm_at (f := fun d => (allB (fun x => col m c p x == col m c p (rp x)) m && (d == col m c p (rp m))).toNat) (k := col m c p (rp m)) (col_lt hc) (fun d _ hne => by
          have : (d == col m c p (rp m)) = false := by simpa using hne
          rw [this, Bool.and_false]; rfl), beq_self_eq_true, Bool.and_true]
      rw [sm_congr _ (fun p _ => e2 p)]
      show ct _ _ = _
      rw [ih']
      rfl
noncomputable def rp (t : Nat → Nat) (x : Nat) : Nat := (pk_least (fun y => onW t y x) ⟨x, onW.rf⟩).choose
theorem rp_w {t : Nat → Nat} (x : Nat) : onW t (rp t x) x := (pk_least (fun y => onW t y x) ⟨x, onW.rf⟩).choose_spec.1
theorem rp_m {t : Nat → Nat} {x y : Nat} (h : onW t y x) : rp t x ≤ y := by
  rcases Nat.lt_or_ge y (rp t x) with g | g
  · exact absurd h ((pk_least (fun y => onW t y x) ⟨x, onW.rf⟩).choose_spec.2 y g)
  · exact g
theorem rp_le {t : Nat → Nat} (x : Nat) : rp t x ≤ x := rp_m onW.rf
theorem rp_lst {t : Nat → Nat} (x : Nat) : (rp t x == x) = lst t x := bool_ext (by
  rw [beq_iff_eq, lst_iff]
  constructor
  · rintro e ⟨x', h1, h2⟩
    have := rp_m h2
    omega
  · intro h
    have := rp_le (t := t) x
    rcases Nat.lt_or_ge (rp t x) x with g | g
    · exact absurd ⟨rp t x, g, rp_w x⟩ h
    · omega)
theorem kpt_rp {n c R p : Nat} (hP : isP n R) : kpt n c R p = allB (fun x => col n c p x == col n c p (rp (tg R) x)) n := bool_ext (by
  unfold kpt
  rw [allB_true, allB_true]
  constructor
  · intro h x hx
    obtain ⟨j, hj⟩ := rp_w (t := tg R) x
    have hr : rp (tg R) x < n := Nat.lt_of_le_of_lt (rp_le x) hx
    have key : ∀ j, col n c p (it (tg R) j (rp (tg R) x)) = col n c p (rp (tg R) x) := by
      intro j
      induction j with
      | zero => rfl
      | succ j ih =>
        have := eq_of_beq (h _ (it_lt hP.pmt hr j))
        show col n c p (tg R (it (tg R) j (rp (tg R) x))) = _
        rw [← this, ih]
    rw [beq_iff_eq, ← key j, hj]
  · intro h x hx
    have ht := hP.2.1 x hx
    have e : rp (tg R) (tg R x) = rp (tg R) x := by
      have a1 := rp_m ((rp_w (t := tg R) x).trans ⟨1, rfl⟩ : onW (tg R) (rp (tg R) x) (tg R x))
      have hr : rp (tg R) (tg R x) < n := Nat.lt_of_le_of_lt (rp_le _) ht
      have a2 : onW (tg R) (tg R x) x := onW.symm hP.pmt hx ⟨1, rfl⟩
      have a3 := rp_m ((rp_w (t := tg R) (tg R x)).trans a2)
      omega
    have h1 := eq_of_beq (h x hx)
    have h2 := eq_of_beq (h _ ht)
    rw [beq_iff_eq, h1, h2, e])
theorem keep_cyc {n c R : Nat} (hc : 0 < c) (hP : isP n R) : ct (kpt n c R) (c ^ n) = c ^ cyc n R := by
  rw [ct_congr _ (fun p _ => kpt_rp hP), keep_count hc n (fun x _ => rp_le x)]
  unfold cyc
  rw [ct_congr n (fun x _ => rp_lst x)]
/-- one plan on -/
theorem w_looksOn {post : (Nat → Int32) → Prop} {n c p : Nat} {f : Nat → Int32} (hn : n ≤ 7) (hc : 0 < c) (hc4 : c ≤ 4) (hp : p + 1 < c ^ n) (hf : Col n c p f) (h : ∀ g, Col n c (p + 1) g → post g) : wp_Mo_looksOn post (nI n) (nI c) f := by
  unfold wp_Mo_looksOn
  intro x1 e1
  subst e1
  have step : ∀ q, (p + 1) % c ^ q = 0 → (p + 1) / c ^ q = p / c ^ q + 1 := by
    intro q hq
    have hpos : 0 < c ^ q := Nat.pow_pos hc
    obtain ⟨m, hm⟩ := Nat.dvd_of_mod_eq_zero hq
    have hm0 : 0 < m := by
      rcases Nat.eq_zero_or_pos m with z | z
      · rw [z, Nat.mul_zero] at hm; omega
      · exact z
    obtain ⟨m', rfl⟩ : ∃ m', m = m' + 1 := ⟨m - 1, by omega⟩
    have hp2 : p = c ^ q * m' + (c ^ q - 1) := by rw [Nat.mul_add, Nat.mul_one] at hm; omega
    rw [hm, Nat.mul_div_cancel_left _ hpos]
    have : p / c ^ q = m' := by
      rw [hp2, Nat.mul_add_div hpos, Nat.div_eq_of_lt (by omega), Nat.add_zero]
    omega
  have key := pk_loopD (fun k i (s : Nat → Int32) => L_Mo_looksOn_7 post (nI c) k s (nI i - 1)) (fun i s => i ≤ n ∧ (p + 1) % c ^ (n - i) = 0 ∧ (∀ y, y < i → s y = nI (col n c p y)) ∧ ∀ y, i ≤ y → y < n → s y = 0)
    (fun k s hs => by
      exfalso
      have h1 := hs.2.1
      rw [Nat.sub_zero, Nat.mod_eq_of_lt hp] at h1
      omega)
    (fun k i s hs hw => by
      obtain ⟨g1, g2, g3, g4⟩ := hs
      rw [nI_pred]
      refine ⟨pk_in i 7 (by omega), ?_⟩
      rw [nI_clamp (show i < 2 ^ 31 by omega), g3 i (by omega), show nI c - 1 = nI (c - 1) from pk_sub (b := 1) hc]
      have hcl := col_lt (n := n) (p := p) (x := i) hc
      have hst := step _ g2
      have hcol : col n c p i = p / c ^ (n - (i + 1)) % c := by unfold col; rw [show n - 1 - i = n - (i + 1) by omega]
      have hge : ∀ y, i + 1 ≤ y → y < n → col n c (p + 1) y = 0 := fun y h1 h2 => by
        unfold col
        have e : n - (i + 1) = (n - 1 - y) + 1 + (y - (i + 1)) := by omega
        rw [e, Nat.pow_add, Nat.pow_succ] at g2
        have hd : c ^ (n - 1 - y) * c ∣ p + 1 := Nat.dvd_trans (Nat.dvd_mul_right _ _) (Nat.dvd_of_mod_eq_zero g2)
        obtain ⟨w, hw2⟩ := hd
        rw [hw2, Nat.mul_assoc, Nat.mul_div_cancel_left _ (Nat.pow_pos hc), Nat.mul_mod_right]
      refine pk_eq _ _ (fun e => ⟨pk_in i 7 (by omega), nm_r (e' := nI i - 1) (zz_m1 _) (hw _ ⟨by omega, ?_, fun y hy => ?_, fun y h1 h2 => ?_⟩)⟩) (fun e => ⟨pk_in i 7 (by omega), nm_r (nI_1 _) ⟨pk_in i 7 (by omega), h _ (fun y hy => ?_)⟩⟩) rfl rfl (by omega) (by omega)
      · have e2 : n - i = (n - (i + 1)) + 1 := by omega
        obtain ⟨m, hm⟩ := Nat.dvd_of_mod_eq_zero g2
        have hpos : 0 < c ^ (n - (i + 1)) := Nat.pow_pos hc
        have hm2 : m = p / c ^ (n - (i + 1)) + 1 := by rw [← hst, hm, Nat.mul_div_cancel_left _ hpos]
        have hm3 : c ∣ m := by
          rw [hm2]
          apply Nat.dvd_of_mod_eq_zero
          rw [Nat.add_mod, ← hcol, e]
          by_cases c1 : c = 1
          · rw [c1]
          · rw [Nat.mod_eq_of_lt (show 1 < c by omega), show c - 1 + 1 = c by omega, Nat.mod_self]
        obtain ⟨w, hw2⟩ := hm3
        rw [e2, hm, hw2, Nat.pow_succ, ← Nat.mul_assoc, Nat.mul_mod_right]
      · rw [pk_un (by omega)]
        exact g3 y (by omega)
      · by_cases ey : y = i
        · rw [ey, pk_us]
        · rw [pk_un ey]
          exact g4 y (by omega) h2
      · rcases Nat.lt_trichotomy y i with q | q | q
        · rw [pk_un (by omega), g3 y (by omega)]
          congr 1
          unfold col
          have e3 : c ^ (n - 1 - y) = c ^ (n - (i + 1)) * (c * c ^ (i - y - 1)) := by
            rw [← Nat.pow_succ', ← Nat.pow_add]
            congr 1
            omega
          rw [e3, ← Nat.div_div_eq_div_mul, ← Nat.div_div_eq_div_mul, ← Nat.div_div_eq_div_mul, ← Nat.div_div_eq_div_mul, hst]
          have e4 : (p / c ^ (n - (i + 1)) + 1) / c = p / c ^ (n - (i + 1)) / c := by
            have hm := Nat.div_add_mod (p / c ^ (n - (i + 1))) c
            rw [← hcol] at hm
            have hlt : col n c p i + 1 < c := by omega
            rw [← hm, Nat.add_assoc, Nat.mul_add_div hc, Nat.mul_add_div hc, Nat.div_eq_of_lt hlt, Nat.div_eq_of_lt (show col n c p i < c by omega)]
          rw [e4]
        · subst q
          rw [pk_us]
          congr 1
          unfold col at hcl e ⊢
          rw [show n - 1 - y = n - (y + 1) by omega] at hcl e ⊢
          rw [hst]
          have hm := Nat.div_add_mod (p / c ^ (n - (y + 1))) c
          rw [← hm, Nat.add_assoc, Nat.mul_add_mod, Nat.mul_add_mod, Nat.mod_mod, Nat.mod_eq_of_lt (show p / c ^ (n - (y + 1)) % c + 1 < c by omega)]
        · rw [pk_un (by omega), g4 y (by omega) hy, hge y (by omega) hy]
          rfl)
    n f ⟨Nat.le_refl n, by rw [Nat.sub_self, Nat.pow_zero, Nat.mod_one], hf, fun y h1 h2 => absurd h2 (by omega)⟩
  exact ⟨n + 1, key⟩
