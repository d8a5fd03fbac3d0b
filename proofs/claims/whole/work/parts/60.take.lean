/-! from a rank back to the permutation -/
theorem fr_eq {n : Nat} {t : Nat → Nat} (hn : n ≤ 7) (hP : pmt n t) {x : Nat} (hx : x < n) : ct (fun v => !(msk t x).testBit v) (t x) = lh n t x := by
  have h1 := lh_eq hP hx
  have h2 := msk_ct (t := t) (a := t x) x (fun y hy => by have := hP.1 y (by omega); omega) (fun a b ha hb => hP.2 a b (by omega) (by omega))
  rw [ct_and_lt _ (by have := hP.1 x hx; omega)] at h2
  have h2 : ct (fun v => (msk t x).testBit v) (t x) = ct (fun y => decide (t y < t x)) x := h2
  have h3 : ct (fun v => (msk t x).testBit v) (t x) + ct (fun v => !(msk t x).testBit v) (t x) = t x := by
    unfold ct
    rw [← sm_add, sm_congr (t x) (g := fun _ => 1) (fun v _ => by
      show ((msk t x).testBit v).toNat + (!(msk t x).testBit v).toNat = 1
      cases (msk t x).testBit v <;> rfl), sm_const, Nat.mul_one]
  omega
theorem msk_self {n : Nat} {t : Nat → Nat} (hP : pmt n t) {x : Nat} (hx : x < n) : (msk t x).testBit (t x) = false := by
  cases e : (msk t x).testBit (t x) with
  | false => rfl
  | true =>
    obtain ⟨y, hy, hyi⟩ := (msk_bit t x (t x)).mp e
    have := hP.2 y x (by omega) hx hyi
    omega
theorem w_take {post : (Nat → Int32) → Prop} {im fa : Nat → Int32} {t : Nat → Nat} {n : Nat} (hn : n ≤ 7) (hF : Fac fa) (hP : pmt n t) (h : ∀ f, Img n t f → post f) : wp_Mo_take post (nI n) im fa (nI (rk n t)) := by
  have h8 : ∀ x, x < n → t x < 8 := fun x hx => by have := hP.1 x hx; omega
  have key := pk_loop (fun k x (s : Nat → Int32) => L_Mo_take_7 post (nI n) fa k s (nI (tlr n t (n - x))) (nI (msk t x)) (nI x)) (fun x s => ∀ y, y < x → s y = nI (t y)) n 0 im (Nat.zero_le _) (fun y hy => absurd hy (by omega)) ?_ ?_
  · obtain ⟨k, hk⟩ := key
    exact ⟨k, hk⟩
  · intro k s hs
    exact pk_le n n (fun _ => h s hs) (fun z => absurd z (by omega))
  · intro k x s hx hs hw
    refine pk_le n x (fun z => absurd z (by omega)) (fun _ => w_fac hF hn hx ?_)
    obtain ⟨m, hm⟩ : ∃ m, n - x = m + 1 := ⟨n - x - 1, by omega⟩
    have hf5 := fc_le7 m (by omega)
    have hfp := fc_pos m
    have htl : tlr n t (n - x) = lh n t x * fc m + tlr n t m := by
      rw [hm]
      show lh n t (n - 1 - m) * fc m + tlr n t m = _
      rw [show n - 1 - m = x by omega]
    have htm := tlr_lt (n := n) (t := t) m (by omega)
    have htb := tlr_lt (n := n) (t := t) (n - x) (by omega)
    have hfb := fc_le7 (n - x) (by omega)
    have hd1 : tlr n t (n - x) / fc m = lh n t x := by
      rw [htl, Nat.mul_comm, Nat.mul_add_div hfp, Nat.div_eq_of_lt htm, Nat.add_zero]
    have hd2 : tlr n t (n - x) % fc m = tlr n t m := by
      rw [htl, Nat.mul_comm, Nat.mul_add_mod, Nat.mod_eq_of_lt htm]
    rw [show n - 1 - x = m by omega]
    have hmk := msk_lt (t := t) x (fun y hy => h8 y (by omega))
    refine ⟨nI_ne0 hfp (by omega), nm_r (e' := nI (lh n t x)) (by rw [pk_div (by omega) hfp (by omega), hd1]) ⟨nI_ne0 hfp (by omega), nm_r (e' := nI (tlr n t m)) (by rw [pk_rem (by omega) hfp (by omega), hd2]) ?_⟩⟩
    have hlh := lh_le n t hx
    have htx := hP.1 x hx
    have hfr := fr_eq hn hP hx
    have hself := msk_self hP hx
    have key2 := lpU (fun k' y => L_Mo_take_45 (L_Mo_take_7 post (nI n) fa k) s (nI (tlr n t m)) (nI (msk t x)) (nI x) k' (nI (lh n t x - ct (fun v => !(msk t x).testBit v) y)) (nI y)) (t x) ?_ ?_
    · obtain ⟨k', hk'⟩ := key2
      exact ⟨k', hk'⟩
    · intro k'
      refine ⟨fun z => ?_, fun _ => ⟨fun _ => ⟨pk_in x 7 (by omega), ?_⟩, fun z => ?_⟩⟩
      · rw [zz_sbit (by omega) (by omega), hself] at z
        exact absurd z (by decide)
      · refine nm_r (e' := nI (msk t (x + 1))) (by rw [zz_1sh (by omega), zz_or]; rfl) (nm_r (nI_1 x) ?_)
        have hw' := hw (upd s x (nI (t x))) (zz_fill (f := fun y => nI (t y)) rfl hs rfl)
        rw [show n - (x + 1) = m by omega] at hw'
        rw [nI_clamp (by omega)]
        exact hw'
      · rw [hfr, Nat.sub_self] at z
        exact absurd (show nI 0 ≤ 0 by decide) z
    · intro k' y hy hw2
      rw [ct_succ] at hw2
      refine ⟨fun z => ⟨fun _ => ?_, fun q => absurd z q⟩, fun z => ?_⟩
      · rw [zz_sbit (by omega) (by omega)] at z
        have hb : (msk t x).testBit y = true := by
          cases e : (msk t x).testBit y with
          | true => rfl
          | false => rw [e] at z; exact absurd z (by decide)
        rw [hb] at hw2
        exact nm_r (e' := nI (lh n t x - ct (fun v => !(msk t x).testBit v) y)) (pk_sub (b := 0) (Nat.zero_le _)) (nm_r (nI_1 y) hw2)
      · have hb : (msk t x).testBit y = false := by
          cases e : (msk t x).testBit y with
          | false => rfl
          | true =>
            rw [zz_sbit (by omega) (by omega), e] at z
            exact absurd rfl z
        have hlt : ct (fun v => !(msk t x).testBit v) y < lh n t x := by
          rw [← hfr]
          exact ct_lt hy (by rw [hb]; rfl)
        refine ⟨fun q => absurd q (nI_nle (by omega) (by omega)), fun _ => ⟨fun q => absurd q z, fun _ => ?_⟩⟩
        rw [hb] at hw2
        refine nm_r (e' := nI (lh n t x - (ct (fun v => !(msk t x).testBit v) y + 1))) ?_ (nm_r (nI_1 y) hw2)
        rw [show (1 : Int32) = nI 1 from rfl, pk_sub (by omega)]
        congr 1
/-- two permutations of one rank are one -/
theorem rk_lh {n : Nat} {t u : Nat → Nat} : ∀ m, m ≤ n → tlr n t m = tlr n u m → ∀ j, j < m → lh n t (n - 1 - j) = lh n u (n - 1 - j) := by
  intro m
  induction m with
  | zero => intro _ _ j hj; omega
  | succ m ih =>
    intro hm e j hj
    have h1 := tlr_lt (n := n) (t := t) m (by omega)
    have h2 := tlr_lt (n := n) (t := u) m (by omega)
    have hfp := fc_pos m
    have e' : lh n t (n - 1 - m) * fc m + tlr n t m = lh n u (n - 1 - m) * fc m + tlr n u m := e
    have d1 : (lh n t (n - 1 - m) * fc m + tlr n t m) / fc m = lh n t (n - 1 - m) := by
      rw [Nat.mul_comm, Nat.mul_add_div hfp, Nat.div_eq_of_lt h1, Nat.add_zero]
    have d2 : (lh n u (n - 1 - m) * fc m + tlr n u m) / fc m = lh n u (n - 1 - m) := by
      rw [Nat.mul_comm, Nat.mul_add_div hfp, Nat.div_eq_of_lt h2, Nat.add_zero]
    have el : lh n t (n - 1 - m) = lh n u (n - 1 - m) := by rw [← d1, ← d2, e']
    have et : tlr n t m = tlr n u m := by rw [el] at e'; omega
    by_cases ej : j = m
    · rw [ej]; exact el
    · exact ih (by omega) et j (by omega)
theorem rk_inj {n : Nat} {t u : Nat → Nat} (hn : n ≤ 7) (ht : pmt n t) (hu : pmt n u) (e : rk n t = rk n u) : ∀ x, x < n → t x = u x := by
  have hl : ∀ x, x < n → lh n t x = lh n u x := fun x hx => by
    have := rk_lh (t := t) (u := u) n (Nat.le_refl n) e (n - 1 - x) (by omega)
    rw [show n - 1 - (n - 1 - x) = x by omega] at this
    exact this
  intro x
  induction x using Nat.strongRecOn with
  | ind x ih =>
    intro hx
    have hmask : msk t x = msk u x := by
      have : ∀ i, i ≤ x → msk t i = msk u i := by
        intro i
        induction i with
        | zero => intro _; rfl
        | succ i ih2 =>
          intro hi
          show msk t i ||| 2 ^ t i = msk u i ||| 2 ^ u i
          rw [ih2 (by omega), ih i (by omega) (by omega)]
      exact this x (Nat.le_refl x)
    have f1 := fr_eq hn ht hx
    have f2 := fr_eq hn hu hx
    rw [← hl x hx, ← hmask] at f2
    have s1 := msk_self ht hx
    have s2 := msk_self hu hx
    rw [← hmask] at s2
    rcases Nat.lt_trichotomy (t x) (u x) with g | g | g
    · have := ct_lt (P := fun v => !(msk t x).testBit v) g (by rw [s1]; rfl)
      omega
    · exact g
    · have := ct_lt (P := fun v => !(msk t x).testBit v) g (by rw [s2]; rfl)
      omega
theorem isP_inj {n R S : Nat} (hn : n ≤ 7) (hR : isP n R) (hS : isP n S) (e : rk n (tg R) = rk n (tg S)) : R = S := by
  have h := rk_inj hn hR.pmt hS.pmt e
  have e1 := enc_tg n R
  have e2 := enc_tg n S
  rw [Nat.mod_eq_of_lt hR.1] at e1
  rw [Nat.mod_eq_of_lt hS.1] at e2
  rw [← e1, ← e2]
  exact enc_congr n h
