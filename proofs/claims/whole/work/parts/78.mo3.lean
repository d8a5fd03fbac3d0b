/-! orbitsOf of the reference -/
theorem mo_share {K : (Nat → Int32) → Int32 → Int32 → Prop} {n c p i j l : Nat} {cf : Nat → Int32} {m v : Nat} (hn : n ≤ 7) (hc : 0 < c) (hc4 : c ≤ 4) (hcf : Col n c p cf) (hs : i + j + l ≤ n) (h : ∀ b : Bool, (cc n c p 0 == i && (cc n c p 1 == j && cc n c p 2 == l)) = b → K cf (nI m + b2 b) (nI (v + 1))) : ∃ f, L_Mo_orbitsOf_168 K (nI n) cf (nI i) (nI j) (nI l) (nI m) (nI v) f (0 : Int32) (0 : Int32) (0 : Int32) (0 : Int32) := by
  refine lpU (fun f x => L_Mo_orbitsOf_168 K (nI n) cf (nI i) (nI j) (nI l) (nI m) (nI v) f (nI (ct (fun x => col n c p x == 0) x)) (nI (ct (fun x => col n c p x == 1) x)) (nI (ct (fun x => col n c p x == 2) x)) (nI x)) n ?_ ?_
  · intro f
    have c0 : cc n c p 0 ≤ n := ct_le _ _
    have c1 : cc n c p 1 ≤ n := ct_le _ _
    have c2 : cc n c p 2 ≤ n := ct_le _ _
    have no : (cc n c p 0 == i && (cc n c p 1 == j && cc n c p 2 == l)) = false → ∀ x6 : Int32, x6 = nI m + 0 → ∀ x7 : Int32, x7 = nI v + 1 → K cf x6 x7 := fun q => nm_r rfl (nm_r (nI_1 v) (h false q))
    refine pk_le n n (fun _ => ?_) (fun z => absurd z (by omega))
    refine pk_eq (cc n c p 0) i (fun z0 => pk_eq (cc n c p 1) j (fun z1 => pk_eq (cc n c p 2) l (fun z2 => nm_r rfl (nm_r (nI_1 v) (h true ?_))) (fun z => no ?_) rfl rfl (by omega) (by omega)) (fun z => no ?_) rfl rfl (by omega) (by omega)) (fun z => no ?_) rfl rfl (by omega) (by omega)
    · rw [z0, z1, z2, beq_self_eq_true, beq_self_eq_true, beq_self_eq_true]; rfl
    · rw [beq_eq_false_iff_ne.mpr z, Bool.and_false, Bool.and_false]
    · rw [beq_eq_false_iff_ne.mpr z, Bool.false_and, Bool.and_false]
    · rw [beq_eq_false_iff_ne.mpr z, Bool.false_and]
  · intro f x hx hw
    have hcl := col_lt (n := n) (p := p) (x := x) hc
    have key2 : ∀ x9 : Int32, x9 = nI (ct (fun x => col n c p x == 1) (x + 1)) → vp_in (nI x) 7 ∧ (((cf (nI x).toNatClampNeg) = 2 → ∀ x10 : Int32, x10 = nI (ct (fun x => col n c p x == 2) x) + 1 → ∀ x11 : Int32, x11 = nI x + 1 → L_Mo_orbitsOf_168 K (nI n) cf (nI i) (nI j) (nI l) (nI m) (nI v) f (nI (ct (fun x => col n c p x == 0) (x + 1))) x9 x10 x11) ∧ (¬ (cf (nI x).toNatClampNeg) = 2 → ∀ x10 : Int32, x10 = nI (ct (fun x => col n c p x == 2) x) + 0 → ∀ x11 : Int32, x11 = nI x + 1 → L_Mo_orbitsOf_168 K (nI n) cf (nI i) (nI j) (nI l) (nI m) (nI v) f (nI (ct (fun x => col n c p x == 0) (x + 1))) x9 x10 x11)) := by
      intro x9 e9
      rw [e9, nI_clamp (by omega), hcf x hx]
      exact ⟨pk_in x 7 (by omega), pk_eq (y := 2) (col n c p x) 2 (fun z => nm_r (ct_y (P := fun x => col n c p x == 2) (beq_iff_eq.mpr z)) (nm_r (nI_1 x) hw)) (fun z => nm_r (ct_n0 (P := fun x => col n c p x == 2) (beq_eq_false_iff_ne.mpr z)) (nm_r (nI_1 x) hw)) rfl rfl (by omega) (by omega)⟩
    have key1 : ∀ k0 : Int32, nI (ct (fun x => col n c p x == 0) x) + k0 = nI (ct (fun x => col n c p x == 0) (x + 1)) → J_Mo_orbitsOf_194 (L_Mo_orbitsOf_168 K (nI n) cf (nI i) (nI j) (nI l) (nI m) (nI v) f) cf (nI (ct (fun x => col n c p x == 1) x)) (nI (ct (fun x => col n c p x == 2) x)) (nI x) k0 (nI (ct (fun x => col n c p x == 0) x)) := by
      intro k0 ek
      unfold J_Mo_orbitsOf_194
      refine nm_r ek ⟨pk_in x 7 (by omega), ?_⟩
      have ec : cf (nI x).toNatClampNeg = nI (col n c p x) := by rw [nI_clamp (by omega), hcf x hx]
      rw [ec]
      refine pk_eq (y := 1) (col n c p x) 1 (fun z => ?_) (fun z => ?_) rfl rfl (by omega) (by omega)
      · unfold J_Mo_orbitsOf_215
        intro x9 e9
        exact key2 x9 (e9.trans (ct_y (P := fun x => col n c p x == 1) (beq_iff_eq.mpr z)))
      · unfold J_Mo_orbitsOf_215
        intro x9 e9
        exact key2 x9 (e9.trans (ct_n0 (P := fun x => col n c p x == 1) (beq_eq_false_iff_ne.mpr z)))
    refine pk_le n x (fun z => absurd z (by omega)) (fun _ => ⟨pk_in x 7 (by omega), ?_⟩)
    have ec : cf (nI x).toNatClampNeg = nI (col n c p x) := by rw [nI_clamp (by omega), hcf x hx]
    rw [ec]
    exact pk_eq (y := 0) (col n c p x) 0 (fun z => key1 1 (ct_y (P := fun x => col n c p x == 0) (beq_iff_eq.mpr z))) (fun z => key1 0 (ct_n0 (P := fun x => col n c p x == 0) (beq_eq_false_iff_ne.mpr z))) rfl rfl (by omega) (by omega)
theorem mo_orbitsOf {post : Int32 → Int32 → Int32 → (Nat → Int32) → (Nat → Int32) → (Nat → Int32) → (Nat → Int32) → (Nat → Int32) → (Nat → Int32) → (Nat → Int32) → Prop} {n c k : Nat} {mv : Nat → Nat} {ho hm a b d : Int32} {mr todo cf tn heads mates hl ranks : Nat → Int32} (hk : Pk n c k mv) (hmr : ∀ i, i < k → mr i = nI (mv i)) (hT : MT n c k mv ho hm heads mates hl ranks)
    (h : ∀ ho' hm' todo' cf' tn' heads' mates' hl' ranks', MT n c k mv ho' hm' heads' mates' hl' ranks' → post (aOO n c k mv a b d) ho' hm' todo' cf' tn' heads' mates' hl' ranks') : wp_Mo_orbitsOf post (nI n) (nI c) (nI (c ^ n)) (nI k) ho hm mr todo cf tn heads mates hl ranks a b d := by
  have hN0 := hN_le hk
  have hNn := hk.N
  obtain ⟨hn0, hc, hc4, hM⟩ := id hk
  have hn := hM.1
  have hout : (∀ i j l, ¬ ooC n c a b d i j l) → J_Mo_orbitsOf_115 post (nI n) (nI c) (nI (c ^ n)) (nI k) mr ho hm todo cf tn heads mates hl ranks a b d := fun q => by
    rw [aOO_out q] at h
    unfold J_Mo_orbitsOf_115 J_Mo_orbitsOf_116
    exact y0 (h _ _ _ _ _ _ _ _ _ hT)
  have h40 : (∀ i j l, ¬ ooC n c a b d i j l) → J_Mo_orbitsOf_40 post (nI n) (nI c) (nI (c ^ n)) (nI k) mr ho hm todo cf tn heads mates hl ranks a b d := fun q => by
    unfold J_Mo_orbitsOf_40 J_Mo_orbitsOf_41 J_Mo_orbitsOf_62
    exact y0 (y0 (hout q))
  unfold wp_Mo_orbitsOf
  refine w_within0 (by omega) (fun i hi e => y1 ?_) (fun q => y0 (h40 (fun i j l z => q i (by have := z.1; omega) z.2.1)))
  refine w_within0 (by omega) (fun j hjn e2 => y1 ?_) (fun q => y0 (h40 (fun i j l z => q j (by have := z.1; omega) z.2.2.1)))
  refine w_within0 (by omega) (fun l hl0 e3 => y1 ?_) (fun q => y0 (h40 (fun i j l z => q l (by have := z.1; omega) z.2.2.2.1)))
  clear h40
  subst e e2 e3
  have inj : ∀ i' j' l', ooC n c (nI i) (nI j) (nI l) i' j' l' → i' = i ∧ j' = j ∧ l' = l := by
    intro i' j' l' ⟨z0, z1, z2, z3, _⟩
    exact ⟨((nI_eq (by omega) (by omega)).mp z1).symm, ((nI_eq (by omega) (by omega)).mp z2).symm, ((nI_eq (by omega) (by omega)).mp z3).symm⟩
  unfold J_Mo_orbitsOf_41
  refine y1 ?_
  unfold J_Mo_orbitsOf_62
  refine y1 ?_
  rw [pk_sub hi]
  by_cases hs : i + j + l ≤ n
  · rw [pk_sub (show j ≤ n - i by omega), pk_sub (show l ≤ n - i - j by omega)]
    refine ⟨fun z => absurd z (nI_pos (by omega)), fun _ => ?_⟩
    have in111 : (j = 0 ∨ 1 < c) → (l = 0 ∨ 2 < c) → (n - i - j - l = 0 ∨ 3 < c) → J_Mo_orbitsOf_111 post (nI n) (nI c) (nI (c ^ n)) (nI k) mr ho hm todo cf tn heads mates hl ranks (nI i) (nI j) (nI l) := fun m1 m2 m3 => by
      have hC : ooC n c (nI i) (nI j) (nI l) i j l := ⟨hs, rfl, rfl, rfl, m1, m2, by omega⟩
      rw [aOO_in hn hC] at h
      unfold J_Mo_orbitsOf_111 J_Mo_orbitsOf_116
      refine y1 (w_findO hk hmr hT (fun t1 b d e f g r g0 _ g2 g3 _ => ?_))
      have h' := fun cf' => h _ _ t1 cf' d _ _ _ _ g0
      refine Exists.elim (pk_loop (fun z J (s : Nat → Int32) => L_Mo_orbitsOf_136 post (nI n) (nI c) 1 (nI (hN n c k mv)) t1 d e f g r (nI i) (nI j) (nI l) z s (nI (ct (fun J => cc n c (hj n c k mv J) 0 == i && (cc n c (hj n c k mv J) 1 == j && cc n c (hj n c k mv J) 2 == l)) J)) (nI J)) (fun _ _ => True) (hN n c k mv) 0 b (Nat.zero_le _) trivial ?_ ?_) (fun z hz => ⟨z, hz⟩)
      · intro z s _
        exact pk_le (hN n c k mv) (hN n c k mv) (fun _ => h' s) (fun z => absurd z (by omega))
      · intro z J s hJ _ hw
        have hb := (hj_spec hJ).1
        refine pk_le (hN n c k mv) J (fun z => absurd z (by omega)) (fun _ => ⟨pk_in J 16384 (by omega), ?_⟩)
        rw [nI_clamp (show J < 2 ^ 31 by omega), hj_row g3 hJ]
        refine w_look hM.1 hc hc4 (by omega) (fun cf' hcf => mo_share hn hc hc4 hcf hs (fun bb hbb => ?_))
        have := hw cf' trivial
        rw [ct_step (P := fun J => cc n c (hj n c k mv J) 0 == i && (cc n c (hj n c k mv J) 1 == j && cc n c (hj n c k mv J) 2 == l)) bb hbb] at this
        exact this
    have in98 : (j = 0 ∨ 1 < c) → (l = 0 ∨ 2 < c) → J_Mo_orbitsOf_98 post (nI n) (nI c) (nI (c ^ n)) (nI k) mr ho hm todo cf tn heads mates hl ranks (nI i) (nI j) (nI l) (nI (n - i - j - l)) := fun m1 m2 => by
      unfold J_Mo_orbitsOf_98
      refine pk_eq (y := 0) (n - i - j - l) 0 (fun z => in111 m1 m2 (Or.inl z)) (fun z => pk_le (y := 3) c 3 (fun q => hout (fun i' j' l' w => ?_)) (fun q => in111 m1 m2 (Or.inr q)) rfl rfl (by omega) (by omega)) rfl rfl (by omega) (by omega)
      obtain ⟨e1, e2, e3⟩ := inj _ _ _ w
      obtain ⟨_, _, _, _, _, _, z6⟩ := w
      omega
    have in86 : (j = 0 ∨ 1 < c) → J_Mo_orbitsOf_86 post (nI n) (nI c) (nI (c ^ n)) (nI k) mr ho hm todo cf tn heads mates hl ranks (nI i) (nI j) (nI l) (nI (n - i - j - l)) := fun m1 => by
      unfold J_Mo_orbitsOf_86
      refine pk_eq (y := 0) l 0 (fun z => in98 m1 (Or.inl z)) (fun z => pk_le (y := 2) c 2 (fun q => hout (fun i' j' l' w => ?_)) (fun q => in98 m1 (Or.inr q)) rfl rfl (by omega) (by omega)) rfl rfl (by omega) (by omega)
      obtain ⟨e1, e2, e3⟩ := inj _ _ _ w
      obtain ⟨_, _, _, _, _, z6, _⟩ := w
      omega
    refine pk_eq (y := 0) j 0 (fun z => in86 (Or.inl z)) (fun z => pk_le (y := 1) c 1 (fun q => hout (fun i' j' l' w => ?_)) (fun q => in86 (Or.inr q)) rfl rfl (by omega) (by omega)) rfl rfl (by omega) (by omega)
    obtain ⟨e1, e2, e3⟩ := inj _ _ _ w
    obtain ⟨_, _, _, _, z6, _⟩ := w
    omega
  · have hneg : nI (n - i) - nI j - nI l < 0 := by
      have t : (nI (n - i) - nI j - nI l) = nI (n - i) - nI (j + l) := by
        rw [← nI_add]
        apply Int32.toBitVec_inj.1
        simp only [Int32.toBitVec_sub, Int32.toBitVec_add]
        generalize (nI (n - i)).toBitVec = u0
        generalize (nI j).toBitVec = u1
        generalize (nI l).toBitVec = u2
        rw [BitVec.sub_eq_add_neg, BitVec.sub_eq_add_neg, BitVec.sub_eq_add_neg, BitVec.neg_add, BitVec.add_assoc, BitVec.sub_eq_add_neg]
      rw [t]
      exact pk_sneg (by omega) (by omega)
    refine ⟨fun _ => hout (fun i' j' l' z => ?_), fun z => absurd hneg z⟩
    obtain ⟨e1, e2, e3⟩ := inj _ _ _ z
    have := z.1
    omega
