/-! by, fit, made, orbitsOf of the class -/
noncomputable def aBy (n c k : Nat) (mv : Nat → Nat) (p q : Nat) : Int32 := @dite _ (∃ i, i < ord n k mv ∧ act n c (gj n k mv i) p = q ∧ ∀ j, j < i → act n c (gj n k mv j) p ≠ q) (Classical.propDecidable _) (fun h => nI h.choose) (fun _ => -1)
theorem aBy_in {n c k : Nat} {mv : Nat → Nat} {p q i : Nat} (hi : i < ord n k mv) (h : act n c (gj n k mv i) p = q) (hm : ∀ j, j < i → act n c (gj n k mv j) p ≠ q) : aBy n c k mv p q = nI i := by
  have hx : ∃ i, i < ord n k mv ∧ act n c (gj n k mv i) p = q ∧ ∀ j, j < i → act n c (gj n k mv j) p ≠ q := ⟨i, hi, h, hm⟩
  unfold aBy
  rw [dif_pos hx]
  obtain ⟨_, a2, a3⟩ := hx.choose_spec
  have : hx.choose = i := by
    rcases Nat.lt_trichotomy hx.choose i with z | z | z
    · exact absurd a2 (hm _ z)
    · exact z
    · exact absurd h (a3 _ z)
  rw [this]
theorem aBy_out {n c k : Nat} {mv : Nat → Nat} {p q : Nat} (h : ∀ j, j < ord n k mv → act n c (gj n k mv j) p ≠ q) : aBy n c k mv p q = -1 := by
  unfold aBy
  rw [dif_neg (fun ⟨i, h1, h2, _⟩ => h i h1 h2)]
/-- a search from 0 up: it ends at the first hit, or at the end -/
theorem lpF (W : Nat → Nat → Prop) (P : Nat → Prop) (e : Nat) (hx : (∀ i, i < e → ¬ P i) → ∀ n, W (n + 1) e) (hs : ∀ n i, i < e → (∀ j, j < i → ¬ P j) → (¬ P i → W n (i + 1)) → W (n + 1) i) : ∃ n, W n 0 := by
  have key : ∀ d i, i + d = e → (∀ j, j < i → ¬ P j) → W (d + 1) i := by
    intro d
    induction d with
    | zero =>
      intro i hi hp
      have : i = e := by omega
      rw [this] at hp ⊢
      exact hx hp 0
    | succ d ih =>
      intro i hi hp
      refine hs (d + 1) i (by omega) hp (fun hq => ih (i + 1) (by omega) (fun j hj => ?_))
      rcases Nat.lt_succ_iff_lt_or_eq.mp hj with z | z
      · exact hp j z
      · rw [z]; exact hq
  exact ⟨e + 1, key e 0 (by omega) (fun j hj => absurd hj (by omega))⟩
noncomputable def aBy2 (n c k : Nat) (mv : Nat → Nat) (a b : Int32) : Int32 := atI (c ^ n) a (fun p => atI (c ^ n) b (fun q => aBy n c k mv p q) (-2)) (-2)
theorem so_by {post : Int32 → Int32 → Int32 → Int32 → (Nat → Int32) → (Nat → Int32) → (Nat → Int32) → Prop} {n c k : Nat} {mv : Nat → Nat} {gk gp gs a b : Int32} {mr u gr gb gn : Nat → Int32} (hk : Pk n c k mv) (hu : Un n c u) (hmr : ∀ i, i < k → mr i = nI (mv i)) (hG : CG n k mv gk gp gs gr gn)
    (h : ∀ gk' gp' gs' gr' gb' gn', CG n k mv gk' gp' gs' gr' gn' → post (aBy2 n c k mv a b) gk' gp' gs' gr' gb' gn') : wp_SO_by post gk (nI k) mr (nI n) (nI c) (nI (c ^ n)) u gp gs gr gb gn a b := by
  have hN := hk.N
  have ho := ord_le n k mv
  obtain ⟨hn0, hc, hc4, hM⟩ := id hk
  unfold wp_SO_by
  unfold aBy2 at h
  refine w_has (by omega) (fun p hp e => y1 ?_) (fun q => y0 ?_)
  · rw [e, atI_in (by omega) hp] at h
    rw [e]
    refine w_has (by omega) (fun q hq e2 => y1 ?_) (fun q => y0 ?_)
    · rw [e2, atI_in (by omega) hq] at h
      rw [e2]
      refine w_knownGroup hM hmr hG (fun r b m g g1 _ => w_spread hM.1 hc hc4 (by omega) ?_)
      have h' := h _ _ _ _ b _ g
      refine lpF (fun f i => L_SO_by_43 post 1 (nI n) u (nI n) (nI (ord n k mv)) r b m (nI q) (nI (spd n c p)) f (nI i)) (fun i => act n c (gj n k mv i) p = q) (ord n k mv) (fun hno f => ?_) (fun f i hi hno hw => ?_)
      · rw [aBy_out hno] at h'
        exact pk_le (ord n k mv) (ord n k mv) (fun _ => h') (fun z => absurd z (by omega))
      · have hP := (gj_row g1 hi).2.isP hM
        have hl := isP_lt hM.1 hP
        have ha := act_lt (n := n) (p := p) hc hP
        refine pk_le (ord n k mv) i (fun z => absurd z (by omega)) (fun _ => w_rowAt g1 (fun j hj ej => ?_) (fun z => absurd rfl (z i hi)))
        have ej' := (nI_eq (show i < 2 ^ 31 by omega) (show j < 2 ^ 31 by omega)).mp ej
        rw [← ej']
        refine w_moved hM.1 hc hc4 hu (by omega) (pk_eq _ _ (fun z => ?_) (fun z => nm_r (nI_1 i) (hw z)) rfl rfl (by omega) (by omega))
        rw [aBy_in hi z hno] at h'
        exact h'
    · rw [atI_out q] at h
      exact h _ _ _ _ _ _ hG
  · rw [atI_out q] at h
    exact h _ _ _ _ _ _ hG
theorem so_fit {post : Int32 → Prop} {n c k : Nat} {mv : Nat → Nat} {ed : Nat → Nat → Bool} {a : Int32} {en : Nat → Int32} (hk : Pk n c k mv) (hE : EdC en ed) (hO : EdOk n ed) (h : post (atI (c ^ n) a (fun p => b2 (fitB n ed (col n c p))) (-2))) : wp_SO_fit post en (nI n) (nI c) (nI (c ^ n)) a := by
  have hN := hk.N
  obtain ⟨hn0, hc, hc4, hM⟩ := id hk
  unfold wp_SO_fit
  refine w_has (by omega) (fun p hp e => y1 ?_) (fun q => y0 ?_)
  · rw [e, atI_in (by omega) hp] at h
    rw [e]
    refine w_spread hM.1 hc hc4 (by omega) (w_allow hE hO hM.1 hc hc4 (b2_c _ (fun z => ?_) (fun z => ?_)))
    · rw [z] at h; exact h
    · rw [z] at h; exact h
  · rw [atI_out q] at h
    exact h
noncomputable def aMade (n c : Nat) (a : Int32) (R : Nat) : Int32 := atI (c ^ n) a (fun p => onP n R (nI (act n c R p)) (-2)) (-2)
theorem so_made {post : Int32 → Prop} {n c k R : Nat} {mv : Nat → Nat} {a : Int32} {u : Nat → Int32} (hk : Pk n c k mv) (hu : Un n c u) (hR : R < 2 ^ 32) (h : post (aMade n c a R)) : wp_SO_made post (nI n) (nI c) (nI (c ^ n)) u a (nI R) := by
  have hN := hk.N
  obtain ⟨hn0, hc, hc4, hM⟩ := id hk
  unfold wp_SO_made
  unfold aMade at h
  refine w_has (by omega) (fun p hp e => y1 ?_) (fun q => y0 ?_)
  · rw [e, atI_in (by omega) hp] at h
    rw [e]
    refine w_isRow hR hM.1 (fun q => y1 ?_) (fun q => y0 ?_)
    · rw [onP_in q] at h
      have hl := isP_lt hM.1 q
      exact w_spread hM.1 hc hc4 (by omega) (w_moved hM.1 hc hc4 hu (by omega) h)
    · rw [onP_out q] at h
      exact h
  · rw [atI_out q] at h
    exact h
/-! shares of colours -/
def cc (n c p v : Nat) : Nat := ct (fun x => col n c p x == v) n
theorem tl_cc (f : Nat → Nat) (hf : ∀ x, f x < 4) : ∀ n, sm (fun x => 16 ^ f x) n = ct (fun x => f x == 0) n + 16 * ct (fun x => f x == 1) n + 256 * ct (fun x => f x == 2) n + 4096 * ct (fun x => f x == 3) n ∧ ct (fun x => f x == 0) n + ct (fun x => f x == 1) n + ct (fun x => f x == 2) n + ct (fun x => f x == 3) n = n
  | 0 => ⟨rfl, rfl⟩
  | n + 1 => by
    obtain ⟨h1, h2⟩ := tl_cc f hf n
    have e : sm (fun x => 16 ^ f x) (n + 1) = sm (fun x => 16 ^ f x) n + 16 ^ f n := rfl
    rw [e, ct_succ, ct_succ, ct_succ, ct_succ, h1]
    have := hf n
    have q : f n = 0 ∨ f n = 1 ∨ f n = 2 ∨ f n = 3 := by omega
    rcases q with q | q | q | q <;> rw [q]
    · show _ + 1 = (_ + 1) + 16 * (_ + 0) + 256 * (_ + 0) + 4096 * (_ + 0) ∧ (_ + 1) + (_ + 0) + (_ + 0) + (_ + 0) = _
      omega
    · show _ + 16 = (_ + 0) + 16 * (_ + 1) + 256 * (_ + 0) + 4096 * (_ + 0) ∧ (_ + 0) + (_ + 1) + (_ + 0) + (_ + 0) = _
      omega
    · show _ + 256 = (_ + 0) + 16 * (_ + 0) + 256 * (_ + 1) + 4096 * (_ + 0) ∧ (_ + 0) + (_ + 0) + (_ + 1) + (_ + 0) = _
      omega
    · show _ + 4096 = (_ + 0) + 16 * (_ + 0) + 256 * (_ + 0) + 4096 * (_ + 1) ∧ (_ + 0) + (_ + 0) + (_ + 0) + (_ + 1) = _
      omega
theorem dig {A B C D : Nat} (hA : A < 16) (hB : B < 16) (hC : C < 16) : (A + 16 * B + 256 * C + 4096 * D) % 16 = A ∧ (A + 16 * B + 256 * C + 4096 * D) / 16 % 16 = B ∧ (A + 16 * B + 256 * C + 4096 * D) / 256 % 16 = C := by
  refine ⟨by omega, ?_, ?_⟩
  · have : (A + 16 * B + 256 * C + 4096 * D) / 16 = B + 16 * (C + 16 * D) := by omega
    rw [this]
    omega
  · have : (A + 16 * B + 256 * C + 4096 * D) / 256 = C + 16 * D := by omega
    rw [this]
    omega
theorem tl_iff {n c p i j l : Nat} (hn : n ≤ 7) (hc : 0 < c) (hc4 : c ≤ 4) (h : i + j + l ≤ n) : sm (fun x => 16 ^ col n c p x) n = i + j * 16 + l * 256 + (n - i - j - l) * 4096 ↔ (cc n c p 0 == i && (cc n c p 1 == j && cc n c p 2 == l)) = true := by
  obtain ⟨h1, h2⟩ := tl_cc (col n c p) (fun x => Nat.lt_of_lt_of_le (col_lt hc) hc4) n
  rw [Bool.and_eq_true, Bool.and_eq_true, beq_iff_eq, beq_iff_eq, beq_iff_eq, h1]
  have e0 : ct (fun x => col n c p x == 0) n = cc n c p 0 := rfl
  have e1 : ct (fun x => col n c p x == 1) n = cc n c p 1 := rfl
  have e2 : ct (fun x => col n c p x == 2) n = cc n c p 2 := rfl
  rw [e0, e1, e2] at h1 h2 ⊢
  generalize cc n c p 0 = A at h1 h2 ⊢
  generalize cc n c p 1 = B at h1 h2 ⊢
  generalize cc n c p 2 = C at h1 h2 ⊢
  generalize ct (fun x => col n c p x == 3) n = D at h1 h2 ⊢
  clear h1 e0 e1 e2
  obtain ⟨r, hr⟩ : ∃ r, r = n - i - j - l := ⟨_, rfl⟩
  rw [← hr]
  have hr2 : i + j + l + r = n := by omega
  constructor
  · intro q
    have q' : A + 16 * B + 256 * C + 4096 * D = i + 16 * j + 256 * l + 4096 * r := by omega
    obtain ⟨x1, x2, x3⟩ := dig (A := A) (B := B) (C := C) (D := D) (by omega) (by omega) (by omega)
    obtain ⟨z1, z2, z3⟩ := dig (A := i) (B := j) (C := l) (D := r) (by omega) (by omega) (by omega)
    rw [q'] at x1 x2 x3
    exact ⟨x1.symm.trans z1, x2.symm.trans z2, x3.symm.trans z3⟩
  · rintro ⟨rfl, rfl, rfl⟩
    have : D = r := by omega
    rw [this]
    omega
theorem tl_le {n c p : Nat} (hn : n ≤ 7) (hc : 0 < c) (hc4 : c ≤ 4) : sm (fun x => 16 ^ col n c p x) n ≤ 28672 := by
  obtain ⟨h1, h2⟩ := tl_cc (col n c p) (fun x => Nat.lt_of_lt_of_le (col_lt hc) hc4) n
  omega
theorem w_tallyOf {post : Int32 → Prop} {i j l r : Nat} (hi : i < 8) (hj : j < 8) (hl : l < 8) (hr : r < 8) (h : post (nI (i + j * 16 + l * 256 + r * 4096))) : wp_Plans_tallyOf post (nI i) (nI j) (nI l) (nI r) := by
  unfold wp_Plans_tallyOf
  have e1 : nI j <<< ((4 : Int32) &&& 31) = nI (j * 2 ^ 4) := zz_shl (k := 4) (by omega) (by omega)
  have e2 : nI l <<< ((8 : Int32) &&& 31) = nI (l * 2 ^ 8) := zz_shl (k := 8) (by omega) (by omega)
  have e3 : nI r <<< ((12 : Int32) &&& 31) = nI (r * 2 ^ 12) := zz_shl (k := 12) (by omega) (by omega)
  rw [e1, e2, e3, zz_or, zz_or, zz_or, zz_orAdd (k := 4) (by omega), zz_orAdd (k := 8) (by omega), zz_orAdd (k := 12) (by omega)]
  exact h
def ooC (n c : Nat) (a b d : Int32) (i j l : Nat) : Prop := i + j + l ≤ n ∧ a = nI i ∧ b = nI j ∧ d = nI l ∧ (j = 0 ∨ 1 < c) ∧ (l = 0 ∨ 2 < c) ∧ (i + j + l = n ∨ 3 < c)
noncomputable def aOO (n c k : Nat) (mv : Nat → Nat) (a b d : Int32) : Int32 := @ite _ (∃ i j l, ooC n c a b d i j l) (Classical.propDecidable _) (nI (ct (fun J => cc n c (hj n c k mv J) 0 == a.toNatClampNeg && (cc n c (hj n c k mv J) 1 == b.toNatClampNeg && cc n c (hj n c k mv J) 2 == d.toNatClampNeg)) (hN n c k mv))) (-2)
theorem aOO_in {n c k : Nat} {mv : Nat → Nat} {i j l : Nat} (hn : n ≤ 7) (h : ooC n c (nI i) (nI j) (nI l) i j l) : aOO n c k mv (nI i) (nI j) (nI l) = nI (ct (fun J => cc n c (hj n c k mv J) 0 == i && (cc n c (hj n c k mv J) 1 == j && cc n c (hj n c k mv J) 2 == l)) (hN n c k mv)) := by
  have h0 := h.1
  unfold aOO
  rw [if_pos ⟨i, j, l, h⟩, nI_clamp (show i < 2 ^ 31 by omega), nI_clamp (show j < 2 ^ 31 by omega), nI_clamp (show l < 2 ^ 31 by omega)]
theorem aOO_out {n c k : Nat} {mv : Nat → Nat} {a b d : Int32} (h : ∀ i j l, ¬ ooC n c a b d i j l) : aOO n c k mv a b d = -2 := by
  unfold aOO
  rw [if_neg (fun ⟨i, j, l, q⟩ => h i j l q)]
theorem w_mayHave {post : Int32 → Prop} {c v j : Nat} (hc : c < 2 ^ 31) (hv : v < 2 ^ 31) (hj : j < 2 ^ 31) (h1 : (j = 0 ∨ v < c) → post 1) (h0 : ¬ (j = 0 ∨ v < c) → post 0) : wp_SO_mayHave post (nI c) (nI v) (nI j) := by
  unfold wp_SO_mayHave
  refine pk_eq (y := 0) j 0 (fun z => h1 (Or.inl z)) (fun z => pk_le c v (fun q => h0 (by omega)) (fun q => h1 (Or.inr q)) rfl rfl hc hv) rfl rfl hj (by omega)
theorem so_countHeads {post : Int32 → Int32 → Int32 → Int32 → (Nat → Int32) → (Nat → Int32) → (Nat → Int32) → (Nat → Int32) → Prop} {n c k T : Nat} {mv : Nat → Nat} {tk tf tc : Int32} {mr u tr th ts td : Nat → Int32} (hk : Pk n c k mv) (hu : Un n c u) (hmr : ∀ i, i < k → mr i = nI (mv i)) (hT : CT n c k mv tk tc tr th ts) (hTT : T < 2 ^ 31)
    (h : ∀ tk' tf' tc' tr' th' ts' td', CT n c k mv tk' tc' tr' th' ts' → post (nI (ct (fun J => sm (fun x => 16 ^ col n c (hj n c k mv J) x) n == T) (hN n c k mv))) tk' tf' tc' tr' th' ts' td') : wp_SO_countHeadsOf post tk (nI k) mr (nI n) (nI c) (nI (c ^ n)) u tf tc tr th ts td (nI T) := by
  have hN0 := hN_le hk
  have hNn := hk.N
  obtain ⟨hn0, hc, hc4, hM⟩ := id hk
  unfold wp_SO_countHeadsOf
  refine w_knownTable hk hu hmr hT (fun x r a s d g g1 g2 g3 => ?_)
  have h' := h _ x _ _ _ _ d g
  refine lpU (fun f j => L_SO_countHeadsOf_10 post 1 (nI n) (nI c) x (nI (hN n c k mv)) r a s d (nI T) f (nI (ct (fun J => sm (fun x => 16 ^ col n c (hj n c k mv J) x) n == T) j)) (nI j)) (hN n c k mv) ?_ ?_
  · intro f
    exact pk_le (hN n c k mv) (hN n c k mv) (fun _ => h') (fun z => absurd z (by omega))
  · intro f j hj0 hw
    have hb := (hj_spec hj0).1
    have ht := tl_le (p := hj n c k mv j) hM.1 hc hc4
    refine pk_le (hN n c k mv) j (fun z => absurd z (by omega)) (fun _ => w_headJ hk g2 hj0 (w_spread hM.1 hc hc4 (by omega) (w_tally hM.1 hc hc4 (pk_eq _ _ (fun q => nm_r (ct_y (P := fun J => sm (fun x => 16 ^ col n c (hj n c k mv J) x) n == T) (beq_iff_eq.mpr q)) (nm_r (nI_1 j) hw)) (fun q => nm_r (nI_1 j) ?_) rfl rfl (by omega) hTT))))
    rw [ct_n (P := fun J => sm (fun x => 16 ^ col n c (hj n c k mv J) x) n == T) (beq_eq_false_iff_ne.mpr q)] at hw
    exact hw
theorem so_orbitsOf {post : Int32 → Int32 → Int32 → Int32 → (Nat → Int32) → (Nat → Int32) → (Nat → Int32) → (Nat → Int32) → Prop} {n c k : Nat} {mv : Nat → Nat} {tk tf tc a b d : Int32} {mr u tr th ts td : Nat → Int32} (hk : Pk n c k mv) (hu : Un n c u) (hmr : ∀ i, i < k → mr i = nI (mv i)) (hT : CT n c k mv tk tc tr th ts)
    (h : ∀ tk' tf' tc' tr' th' ts' td', CT n c k mv tk' tc' tr' th' ts' → post (aOO n c k mv a b d) tk' tf' tc' tr' th' ts' td') : wp_SO_orbitsOf post tk (nI k) mr (nI n) (nI c) (nI (c ^ n)) u tf tc tr th ts td a b d := by
  obtain ⟨hn0, hc, hc4, hM⟩ := id hk
  have hn := hM.1
  have hout : (∀ i j l, ¬ ooC n c a b d i j l) → post (-2) tk tf tc tr th ts td := fun q => by
    rw [aOO_out q] at h
    exact h _ _ _ _ _ _ _ hT
  unfold wp_SO_orbitsOf
  refine w_isShare (by omega) (fun i hi e => y1 ?_) (fun q => y0 (hout (fun i j l z => q i (by have := z.1; omega) z.2.1)))
  refine w_isShare (by omega) (fun j hjn e2 => y1 ?_) (fun q => y0 (hout (fun i j l z => q j (by have := z.1; omega) z.2.2.1)))
  refine w_isShare (by omega) (fun l hl e3 => y1 ?_) (fun q => y0 (hout (fun i j l z => q l (by have := z.1; omega) z.2.2.2.1)))
  subst e e2 e3
  have inj : ∀ i' j' l', ooC n c (nI i) (nI j) (nI l) i' j' l' → i' = i ∧ j' = j ∧ l' = l := by
    intro i' j' l' ⟨z0, z1, z2, z3, _⟩
    exact ⟨((nI_eq (by omega) (by omega)).mp z1).symm, ((nI_eq (by omega) (by omega)).mp z2).symm, ((nI_eq (by omega) (by omega)).mp z3).symm⟩
  intro x4 hx4
  rw [pk_sub hi] at hx4
  by_cases hs : i + j + l ≤ n
  · rw [pk_sub (show j ≤ n - i by omega), pk_sub (show l ≤ n - i - j by omega)] at hx4
    rw [hx4]
    refine ⟨fun z => absurd z (nI_pos (by omega)), fun _ => ?_⟩
    refine w_mayHave (v := 1) (by omega) (by omega) (by omega) (fun m1 => y1 ?_) (fun m1 => y0 (hout (fun i' j' l' z => ?_)))
    · refine w_mayHave (v := 2) (by omega) (by omega) (by omega) (fun m2 => y1 ?_) (fun m2 => y0 (hout (fun i' j' l' z => ?_)))
      · refine w_mayHave (v := 3) (by omega) (by omega) (by omega) (fun m3 => y1 ?_) (fun m3 => y0 (hout (fun i' j' l' z => ?_)))
        · have hC : ooC n c (nI i) (nI j) (nI l) i j l := ⟨hs, rfl, rfl, rfl, m1, m2, by omega⟩
          rw [aOO_in hn hC] at h
          refine w_tallyOf (by omega) (by omega) (by omega) (by omega) (so_countHeads hk hu hmr hT (by omega) (fun a1 a2 a3 a4 a5 a6 a7 g => ?_))
          have e : ct (fun J => sm (fun x => 16 ^ col n c (hj n c k mv J) x) n == i + j * 16 + l * 256 + (n - i - j - l) * 4096) (hN n c k mv) = ct (fun J => cc n c (hj n c k mv J) 0 == i && (cc n c (hj n c k mv J) 1 == j && cc n c (hj n c k mv J) 2 == l)) (hN n c k mv) := by
            apply ct_congr
            intro J hJ
            rw [Bool.eq_iff_iff, ← tl_iff hn hc hc4 hs, beq_iff_eq]
          rw [e]
          exact h _ _ _ _ _ _ _ g
        · obtain ⟨e1, e2, e3⟩ := inj _ _ _ z
          obtain ⟨_, _, _, _, _, _, z6⟩ := z
          omega
      · obtain ⟨e1, e2, e3⟩ := inj _ _ _ z
        obtain ⟨_, _, _, _, _, z6, _⟩ := z
        omega
    · obtain ⟨e1, e2, e3⟩ := inj _ _ _ z
      obtain ⟨_, _, _, _, z6, _⟩ := z
      omega
  · have hneg : x4 < 0 := by
      rw [hx4]
      have t : (nI (n - i) - nI j - nI l) = nI (n - i) - nI (j + l) := by
        rw [← nI_add]
        apply Int32.toBitVec_inj.1
        simp only [Int32.toBitVec_sub, Int32.toBitVec_add]
        generalize (nI (n - i)).toBitVec = u0
        generalize (nI j).toBitVec = u1
        generalize (nI l).toBitVec = u2
        rw [BitVec.sub_eq_add_neg, BitVec.sub_eq_add_neg, BitVec.sub_eq_add_neg, BitVec.neg_add, BitVec.add_assoc, BitVec.sub_eq_add_neg]
      rw [t]
      exact pk_sneg (by omega) (by omega)
    refine ⟨fun _ => hout (fun i' j' l' z => ?_), fun z => absurd hneg z⟩
    obtain ⟨e1, e2, e3⟩ := inj _ _ _ z
    have := z.1
    omega
