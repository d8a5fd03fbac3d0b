/-! the reference's group -/
theorem lh_congr {n : Nat} {t u : Nat → Nat} (h : ∀ x, x < n → t x = u x) {x : Nat} (hx : x < n) : lh n t x = lh n u x := ct_congr n (fun y hy => by rw [h y hy, h x hx])
theorem rk_congr {n : Nat} {t u : Nat → Nat} (h : ∀ x, x < n → t x = u x) : rk n t = rk n u := by
  have : ∀ m, m ≤ n → tlr n t m = tlr n u m := by
    intro m
    induction m with
    | zero => intro _; rfl
    | succ m ih =>
      intro hm
      show lh n t (n - 1 - m) * fc m + tlr n t m = lh n u (n - 1 - m) * fc m + tlr n u m
      rw [ih (by omega), lh_congr h (by omega)]
  exact this n (Nat.le_refl n)
theorem rk_id {n : Nat} (hn : n ≤ 7) : rkR n (idR n) = 0 := by
  have h0 : ∀ x, x < n → lh n (tg (idR n)) x = 0 := fun x hx => by
    rw [lh_congr (u := fun y => y) (fun y hy => tg_idR hn hy) hx]
    exact (ct_congr n (Q := fun _ => false) (fun y _ => by
      by_cases g : x < y
      · rw [decide_eq_false (show ¬ y < x by omega), Bool.and_false]
      · rw [decide_eq_false g]; rfl)).trans (sm_zero n)
  have : ∀ m, m ≤ n → tlr n (tg (idR n)) m = 0 := by
    intro m
    induction m with
    | zero => intro _; rfl
    | succ m ih =>
      intro hm
      show lh n _ (n - 1 - m) * fc m + tlr n _ m = 0
      rw [ih (by omega), h0 _ (by omega), Nat.zero_mul]
  exact this n (Nat.le_refl n)
theorem ct_tail {P : Nat → Bool} {a : Nat} : ∀ {b : Nat}, a ≤ b → (∀ q, a ≤ q → q < b → P q = false) → ct P b = ct P a := by
  intro b
  induction b with
  | zero => intro h _; rw [show a = 0 by omega]
  | succ b ih =>
    intro h hP
    by_cases e : a = b + 1
    · rw [e]
    · rw [ct_succ, ih (by omega) (fun q h1 h2 => hP q h1 (by omega)), hP b (by omega) (by omega)]
      rfl
def GIn (n k : Nat) (mv : Nat → Nat) (f : Nat → Int32) : Prop := ∀ p, p < 5040 → f p = b2 (gi n k mv p)
def GNumM (n k : Nat) (mv : Nat → Nat) (f : Nat → Int32) : Prop := ∀ p, gi n k mv p = true → f p = nI (ct (gi n k mv) p)
def sO (f : Nat → Int32) (p : Nat) : Bool := !(f p == 0)
theorem ct_sO {f : Nat → Int32} {S : Nat → Bool} {N : Nat} (h : ∀ p, p < N → f p = b2 (S p)) : ct (sO f) N = ct S N := ct_congr N (fun p hp => by
  unfold sO
  rw [h p hp]
  cases S p <;> decide)
def MI (n k : Nat) (mv : Nat → Nat) (S : Nat → Bool) (l : Nat) (isIn todo : Nat → Int32) : Prop :=
  (∀ p, p < 5040 → isIn p = b2 (S p)) ∧ (∀ p, S p = true → gi n k mv p = true) ∧ (∀ i, i < l → ∃ p, S p = true ∧ todo i = nI p) ∧ l ≤ ct S 5040 ∧ S (rkR n (idR n)) = true
def MC (n k : Nat) (mv : Nat → Nat) (S : Nat → Bool) (p : Nat) : Prop := ∀ m, m < k → S (nx n k mv p m) = true
theorem nar_1 : vp_nar .boolean (1 : Int32) = 1 := by decide
theorem nar_0 : vp_nar .boolean (0 : Int32) = 0 := by decide
theorem Img.of {n R : Nat} {f : Nat → Int32} (h : Img n (tg R) f) : ∀ x, x < n → f x = nI (tg R x) := h
theorem w_lastLoop {post : Int32 → Int32 → (Nat → Int32) → (Nat → Int32) → (Nat → Int32) → (Nat → Int32) → (Nat → Int32) → Prop} {n k : Nat} {mv : Nat → Nat} {hg : Int32} {fa isIn todo im rows nums : Nat → Int32} (hM : MvOk n k mv) (hF : Fac fa) (hI : GIn n k mv isIn)
    (h : ∀ im' rows' nums', GRows n k mv rows' → GNumM n k mv nums' → post hg (nI (ord n k mv)) im' isIn rows' nums' todo) : ∃ j, L_Mo_findGroup_175 post (nI n) hg fa isIn todo j (0 : Int32) im rows nums (0 : Int32) := by
  have hn := hM.1
  have hf := fc_le7 n hn
  have fac : ∀ {P : Int32 → Prop}, P (nI (fc n)) → wp_Mo_factorial P fa (nI n) := fun hp => by
    unfold wp_Mo_factorial
    rw [nI_clamp (by omega), hF n (by omega)]
    exact ⟨pk_in n 8 (by omega), hp⟩
  have key := pk_loop (σ := (Nat → Int32) × (Nat → Int32) × (Nat → Int32)) (fun j p s => L_Mo_findGroup_175 post (nI n) hg fa isIn todo j (nI (ct (gi n k mv) p)) s.1 s.2.1 s.2.2 (nI p)) (fun p s => (∀ q, q < p → gi n k mv q = true → s.2.1 (ct (gi n k mv) q) = nI (gr n k mv q)) ∧ ∀ q, q < p → gi n k mv q = true → s.2.2 q = nI (ct (gi n k mv) q)) (fc n) 0 (im, rows, nums) (Nat.zero_le _) ⟨fun q hq => absurd hq (by omega), fun q hq => absurd hq (by omega)⟩ ?_ ?_
  · obtain ⟨j, hj⟩ := key
    exact ⟨j, hj⟩
  · intro j s hs
    show L_Mo_findGroup_175b post (nI n) hg fa isIn todo (L_Mo_findGroup_175 post (nI n) hg fa isIn todo j) (nI (ct (gi n k mv) (fc n))) s.1 s.2.1 s.2.2 (nI (fc n))
    unfold L_Mo_findGroup_175b
    refine fac ?_
    refine pk_le (fc n) (fc n) (fun _ => ?_) (fun z => absurd z (by omega))
    have e : ct (gi n k mv) (fc n) = ord n k mv := (ct_tail hf (fun q h1 _ => by
      cases eg : gi n k mv q with
      | false => rfl
      | true => have := gi_lt eg; omega)).symm
    rw [e]
    exact h _ _ _ (fun p hp => hs.1 p (gi_lt hp) hp) (fun p hp => hs.2 p (gi_lt hp) hp)
  · rintro j p ⟨im1, rows1, nums1⟩ hp hs hw
    dsimp only at hs
    have hc : ct (gi n k mv) p ≤ p := ct_le _ _
    show L_Mo_findGroup_175b post (nI n) hg fa isIn todo (L_Mo_findGroup_175 post (nI n) hg fa isIn todo j) (nI (ct (gi n k mv) p)) im1 rows1 nums1 (nI p)
    unfold L_Mo_findGroup_175b
    refine fac ?_
    refine pk_le (fc n) p (fun z => absurd z (by omega)) (fun _ => ⟨pk_in p 5040 (by omega), ?_⟩)
    rw [nI_clamp (show p < 2 ^ 31 by omega), hI p (by omega)]
    refine b2_c _ (fun g => nm_r (nI_1 p) ?_) (fun g => ?_)
    · have hw' := hw (im1, rows1, nums1) ⟨fun q hq hgq => ?_, fun q hq hgq => ?_⟩
      · rw [ct_succ, g] at hw'
        exact hw'
      · by_cases e : q = p
        · rw [e, g] at hgq; cases hgq
        · exact hs.1 q (by omega) hgq
      · by_cases e : q = p
        · rw [e, g] at hgq; cases hgq
        · exact hs.2 q (by omega) hgq
    · have hsp := gr_spec g
      have hP := hsp.1.isP hM
      have ep : nI p = nI (rk n (tg (gr n k mv p))) := congrArg nI hsp.2.symm
      rw [ep]
      refine w_take hn hF hP.pmt (fun f hf2 => w_rowAtHand hn hf2 (fun x _ => tg_lt _ _) ?_)
      rw [← ep, enc_tg, Nat.mod_eq_of_lt hP.1, nI_clamp (show ct (gi n k mv) p < 2 ^ 31 by omega)]
      refine ⟨pk_in (ct (gi n k mv) p) 5040 (by omega), pk_in p 5040 (by omega), nm_r (nI_1 _) (nm_r (nI_1 p) ?_)⟩
      have hw' := hw (f, upd rows1 (ct (gi n k mv) p) (nI (gr n k mv p)), upd nums1 p (nI (ct (gi n k mv) p))) ⟨fun q hq hgq => ?_, fun q hq hgq => ?_⟩
      · rw [ct_succ, g] at hw'
        exact hw'
      · show upd rows1 _ _ _ = _
        by_cases e : q = p
        · rw [e, pk_us]
        · rw [pk_un (by have := ct_lt (show q < p by omega) hgq; omega)]
          exact hs.1 q (by omega) hgq
      · show upd nums1 _ _ _ = _
        by_cases e : q = p
        · rw [e, pk_us]
        · rw [pk_un e]
          exact hs.2 q (by omega) hgq
theorem w_findGroup {post : Int32 → Int32 → (Nat → Int32) → (Nat → Int32) → (Nat → Int32) → (Nat → Int32) → (Nat → Int32) → Prop} {n k : Nat} {mv : Nat → Nat} {hg od : Int32} {mr im fa isIn rows nums todo : Nat → Int32} (hM : MvOk n k mv) (hmr : ∀ i, i < k → mr i = nI (mv i)) (hF : Fac fa)
    (hh : hg = 0 ∨ (hg = 1 ∧ od = nI (ord n k mv) ∧ GIn n k mv isIn ∧ GRows n k mv rows ∧ GNumM n k mv nums))
    (h : ∀ im' isIn' rows' nums' todo', GIn n k mv isIn' → GRows n k mv rows' → GNumM n k mv nums' → post 1 (nI (ord n k mv)) im' isIn' rows' nums' todo') : wp_Mo_findGroup post (nI n) (nI k) hg od mr im fa isIn rows nums todo := by
  have hn := hM.1
  have hk := hM.2.1
  unfold wp_Mo_findGroup
  rcases hh with e | ⟨e, e2, q1, q2, q3⟩
  rotate_left
  · subst e e2
    exact ⟨fun z => absurd z (by decide), fun _ => h _ _ _ _ _ q1 q2 q3⟩
  subst e
  refine ⟨fun _ => ?_, fun z => absurd rfl z⟩
  refine Exists.elim (pk_loop (fun j p (s : Nat → Int32) => L_Mo_findGroup_15 post (nI n) (nI k) (1 : Int32) mr im fa rows nums todo j s (nI p)) (fun p s => ∀ q, q < p → s q = 0) 5040 0 isIn (Nat.zero_le _) (fun q hq => absurd hq (by omega)) ?_ ?_) (fun j hj => ⟨j, hj⟩)
  rotate_left
  · intro j p s hp hs hw
    refine pk_le 5040 p (fun z => absurd z (by omega)) (fun _ => ⟨pk_in p 5040 hp, nm_r (nI_1 p) (hw _ ?_)⟩)
    rw [nar_0]
    exact zz_fill (f := fun _ => 0) (nI_clamp (by omega)) hs rfl
  intro j s0 hs0
  refine pk_le 5040 5040 (fun _ => ⟨pk_in 0 16384 (by omega), pk_in 0 5040 (by omega), ?_⟩) (fun z => absurd z (by omega))
  rw [nar_1, sb_cl0]
  have hS1 : MI n k mv (ins (fun _ => false) (rkR n (idR n))) 1 (upd s0 0 1) (upd todo 0 0) := by
    refine ⟨fun p hp => ?_, fun p hp => ?_, fun i hi => ?_, ?_, ins_self _ _⟩
    · by_cases e : p = 0
      · rw [e, pk_us, rk_id hn, ins_self]; rfl
      · rw [pk_un e, hs0 p hp, ins_ne (by rw [rk_id hn]; exact e)]; rfl
    · by_cases e : p = rkR n (idR n)
      · rw [e]; exact gi_id
      · rw [ins_ne e] at hp; cases hp
    · rw [show i = 0 by omega]
      exact ⟨rkR n (idR n), ins_self _ _, by rw [pk_us, rk_id hn]; rfl⟩
    · rw [ct_ins (by rw [rk_id hn]; omega) rfl]
      omega
  have hC1 : ∀ p, ins (fun _ => false) (rkR n (idR n)) p = true → (∃ i, i < 1 ∧ (upd todo 0 0) i = nI p) ∨ MC n k mv (ins (fun _ => false) (rkR n (idR n))) p := by
    intro p hp
    by_cases e : p = rkR n (idR n)
    · exact Or.inl ⟨0, by omega, by rw [pk_us, e, rk_id hn]; rfl⟩
    · rw [ins_ne e] at hp; cases hp
  refine Exists.elim (lp4 (L_Mo_findGroup_51 post (nI n) (nI k) (1 : Int32) mr fa rows nums) (fun _ a2 a3 a4 => ∃ (S : Nat → Bool) (l : Nat), a4 = nI l ∧ MI n k mv S l a2 a3 ∧ ∀ p, S p = true → (∃ i, i < l ∧ a3 i = nI p) ∨ MC n k mv S p) (fun _ a2 _ a4 => 2 * (5040 - ct (sO a2) 5040) + a4.toNatClampNeg) ?_ im (upd s0 0 1) (upd todo 0 0) (nI 1) ⟨_, 1, rfl, hS1, hC1⟩) (fun j hj => ⟨j, hj⟩)
  rintro j a1 a2 a3 a4 ⟨S, l, rfl, hI, hC⟩ ih
  obtain ⟨i1, i2, i3, i4, i5⟩ := hI
  have hl5 : l ≤ 5040 := Nat.le_trans i4 (ct_le _ _)
  refine pk_le l 0 (fun z => ?_) (fun z => ?_)
  · have hall : ∀ p, S p = gi n k mv p := by
      intro p
      cases eg : gi n k mv p with
      | true => exact gi_closed hM i5 (fun q m hq _ hm => by
          rcases hC q hq with ⟨i, hi, _⟩ | hc
          · omega
          · exact hc m hm) eg
      | false =>
        cases eS : S p with
        | false => rfl
        | true => rw [i2 p eS] at eg; cases eg
    exact w_lastLoop hM hF (fun p hp => by rw [i1 p hp, hall p]) (fun im' rows' nums' g1 g2 => h _ _ _ _ _ (fun p hp => by rw [i1 p hp, hall p]) g1 g2)
  · obtain ⟨l', rfl⟩ : ∃ l', l = l' + 1 := ⟨l - 1, by omega⟩
    refine nm_r (e' := nI l') (pk_m1 l') ⟨pk_in l' 16384 (by omega), ?_⟩
    rw [nI_clamp (show l' < 2 ^ 31 by omega)]
    obtain ⟨p0, hp0, e0⟩ := i3 l' (by omega)
    rw [e0]
    refine nm_r rfl ?_
    have hg0 := i2 p0 hp0
    have hsp := gr_spec hg0
    have hP0 := hsp.1.isP hM
    have hp5 := gi_lt5 hn hg0
    have ep : nI p0 = nI (rk n (tg (gr n k mv p0))) := congrArg nI hsp.2.symm
    refine Exists.elim (pk_loop (σ := (Nat → Bool) × (Nat → Int32) × (Nat → Int32) × (Nat → Int32) × Nat) (fun j2 m st => L_Mo_findGroup_67 (L_Mo_findGroup_51 post (nI n) (nI k) (1 : Int32) mr fa rows nums j) (nI n) (nI k) mr fa (nI p0) j2 st.2.1 st.2.2.1 st.2.2.2.1 (nI st.2.2.2.2) (nI m))
      (fun m st => MI n k mv st.1 st.2.2.2.2 st.2.2.1 st.2.2.2.1 ∧ (∀ p, st.1 p = true → p = p0 ∨ (∃ i, i < st.2.2.2.2 ∧ st.2.2.2.1 i = nI p) ∨ MC n k mv st.1 p) ∧ (∀ m', m' < m → st.1 (nx n k mv p0 m') = true) ∧ 2 * (5040 - ct st.1 5040) + st.2.2.2.2 ≤ 2 * (5040 - ct S 5040) + l') k 0 (S, a1, a2, a3, l') (Nat.zero_le _) ⟨⟨i1, i2, fun i (hi : i < l') => i3 i (by omega), by show l' ≤ ct S 5040; omega, i5⟩, fun p hp => ?_, fun m' hm' => absurd hm' (by omega), Nat.le_refl _⟩ ?_ ?_) (fun j2 hj2 => ⟨j2, hj2⟩)
    · rcases hC p hp with ⟨i, hi, e⟩ | hc
      · by_cases ei : i = l'
        · left
          rw [ei, e0] at e
          exact ((nI_eq (by omega) (by have := gi_lt5 hn (i2 p hp); omega)).mp e).symm
        · exact Or.inr (Or.inl ⟨i, by show i < l'; omega, e⟩)
      · exact Or.inr (Or.inr hc)
    · rintro j2 ⟨S2, im2, is2, td2, l2⟩ ⟨g1, g2, g3, g4⟩
      dsimp only at g1 g2 g3 g4
      refine pk_le k k (fun _ => ih _ _ _ _ ⟨S2, l2, rfl, g1, fun p hp => ?_⟩ ?_) (fun q => absurd q (by omega))
      · rcases g2 p hp with e | e | e
        · exact Or.inr (fun m hm => by rw [e]; exact g3 m hm)
        · exact Or.inl e
        · exact Or.inr e
      · show 2 * (5040 - ct (sO is2) 5040) + (nI l2).toNatClampNeg < 2 * (5040 - ct (sO a2) 5040) + (nI (l' + 1)).toNatClampNeg
        rw [ct_sO g1.1, ct_sO i1]
        have hl2 : l2 ≤ 5040 := Nat.le_trans g1.2.2.2.1 (ct_le _ _)
        rw [nI_clamp (by omega), nI_clamp (by omega)]
        omega
    · rintro j2 m ⟨S2, im2, is2, td2, l2⟩ hm ⟨g1, g2, g3, g4⟩ hw
      dsimp only at g1 g2 g3 g4
      have hl2 : l2 ≤ 5040 := Nat.le_trans g1.2.2.2.1 (ct_le _ _)
      have hPm := hM.2.2 m hm
      have hmlt := isP_lt hn hPm
      refine pk_le k m (fun q => absurd q (by omega)) (fun _ => ?_)
      rw [ep]
      refine w_take hn hF hP0.pmt (fun f hf => ?_)
      rw [← ep]
      refine Exists.elim (pk_loop (fun j3 x (s : Nat → Int32) => L_Mo_findGroup_83 (L_Mo_findGroup_67 (L_Mo_findGroup_51 post (nI n) (nI k) (1 : Int32) mr fa rows nums j) (nI n) (nI k) mr fa (nI p0) j2) (nI n) mr fa is2 td2 (nI l2) (nI m) j3 s (nI x)) (fun x s => (∀ y, y < x → s y = nI (tg (mv m) (tg (gr n k mv p0) y))) ∧ ∀ y, x ≤ y → y < n → s y = nI (tg (gr n k mv p0) y)) n 0 f (Nat.zero_le _) ⟨fun y hy => absurd hy (by omega), fun y _ hy => hf y hy⟩ ?_ ?_) (fun j3 hj3 => ⟨j3, hj3⟩)
      · intro j3 s hs
        refine pk_le n n (fun _ => ?_) (fun q => absurd q (by omega))
        refine w_placeAtHand (t := fun y => tg (mv m) (tg (gr n k mv p0) y)) hn hF hs.1 (fun x _ => tg_lt _ _) ?_
        have en : rk n (fun y => tg (mv m) (tg (gr n k mv p0) y)) = nx n k mv p0 m := rk_congr (fun x hx => (tg_chn hx).symm)
        rw [en]
        have hgn := gi_nx hg0 hm
        have hn5 := gi_lt5 hn hgn
        refine ⟨pk_in (nx n k mv p0 m) 5040 hn5, ?_⟩
        rw [nI_clamp (show nx n k mv p0 m < 2 ^ 31 by omega), g1.1 _ hn5]
        refine b2_c _ (fun q => ?_) (fun q => nm_r (nI_1 m) ?_)
        · have hroom := ct_room hn5 q
          have hlt : l2 < 5040 := Nat.lt_of_le_of_lt g1.2.2.2.1 hroom
          refine ⟨pk_in (nx n k mv p0 m) 5040 hn5, pk_in l2 16384 (by omega), nm_r (nI_1 l2) (nm_r (nI_1 m) ?_)⟩
          rw [nar_1, nI_clamp (show l2 < 2 ^ 31 by omega)]
          refine hw (ins S2 (nx n k mv p0 m), s, upd is2 (nx n k mv p0 m) 1, upd td2 l2 (nI (nx n k mv p0 m)), l2 + 1) ⟨⟨fun p hp => ?_, fun p hp => ?_, fun i hi => ?_, ?_, ins_old g1.2.2.2.2⟩, fun p hp => ?_, fun m' hm' => ?_, ?_⟩
          · show upd is2 (nx n k mv p0 m) 1 p = b2 (ins S2 (nx n k mv p0 m) p)
            by_cases e : p = nx n k mv p0 m
            · rw [e, pk_us, ins_self]; rfl
            · rw [pk_un e, ins_ne e, g1.1 p hp]
          · by_cases e : p = nx n k mv p0 m
            · rw [e]; exact hgn
            · have hp2 : ins S2 (nx n k mv p0 m) p = true := hp
              rw [ins_ne e] at hp2
              exact g1.2.1 p hp2
          · show ∃ p, ins S2 _ p = true ∧ upd td2 l2 _ i = nI p
            by_cases e : i = l2
            · rw [e, pk_us]
              exact ⟨_, ins_self _ _, rfl⟩
            · rw [pk_un e]
              obtain ⟨p, z1, z2⟩ := g1.2.2.1 i (by have : i < l2 + 1 := hi; omega)
              exact ⟨p, ins_old z1, z2⟩
          · show l2 + 1 ≤ ct (ins S2 _) 5040
            rw [ct_ins hn5 q]
            have := g1.2.2.2.1
            omega
          · show p = p0 ∨ (∃ i, i < l2 + 1 ∧ upd td2 l2 _ i = nI p) ∨ _
            by_cases e : p = nx n k mv p0 m
            · exact Or.inr (Or.inl ⟨l2, by omega, by rw [pk_us, e]⟩)
            · have hp2 : ins S2 (nx n k mv p0 m) p = true := hp
              rw [ins_ne e] at hp2
              rcases g2 p hp2 with z1 | ⟨i, z1, z2⟩ | z1
              · exact Or.inl z1
              · exact Or.inr (Or.inl ⟨i, by omega, by rw [pk_un (by omega)]; exact z2⟩)
              · exact Or.inr (Or.inr (fun m' hm' => ins_old (z1 m' hm')))
          · by_cases e : m' = m
            · rw [e]; exact ins_self _ _
            · exact ins_old (g3 m' (by omega))
          · show 2 * (5040 - ct (ins S2 _) 5040) + (l2 + 1) ≤ _
            rw [ct_ins hn5 q]
            omega
        · refine hw (S2, s, is2, td2, l2) ⟨g1, g2, fun m' hm' => ?_, g4⟩
          by_cases e : m' = m
          · rw [e]; exact q
          · exact g3 m' (by omega)
      · intro j3 x s hx hs hw3
        refine pk_le n x (fun q => absurd q (by omega)) (fun _ => ⟨pk_in m 5 (by omega), pk_in x 7 (by omega), ?_⟩)
        rw [nI_clamp (show m < 2 ^ 31 by omega), nI_clamp (show x < 2 ^ 31 by omega), hmr m hm, hs.2 x (Nat.le_refl _) hx]
        have ht := tg_lt (gr n k mv p0) x
        rw [zz_tgS (by omega) (by omega)]
        refine nm_r rfl ⟨pk_in x 7 (by omega), nm_r (nI_1 x) (hw3 _ ⟨zz_fill (f := fun y => nI (tg (mv m) (tg (gr n k mv p0) y))) rfl hs.1 rfl, fun y h1 h2 => ?_⟩)⟩
        rw [pk_un (by omega)]
        exact hs.2 y (by omega) h2
