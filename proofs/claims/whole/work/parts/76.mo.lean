/-! the reference's queries of the group -/
theorem mo_edges {post : Int32 → Int32 → Int32 → (Nat → Int32) → (Nat → Int32) → (Nat → Int32) → (Nat → Int32) → (Nat → Int32) → Prop} {n : Nat} {ed : Nat → Nat → Bool} {hg od : Int32} {e im isIn rows nums todo : Nat → Int32} (hn : n ≤ 7) (hE : EdM e ed) (hO : EdOk n ed) (h : post (nI (ends ed / 2)) hg od im isIn rows nums todo) : ∃ j, L_Mo_told_50 post hg od e im isIn rows nums todo j (0 : Int32) (0 : Int32) := by
  have e7 : ∀ x y, (7 ≤ x ∨ 7 ≤ y) → ed x y = false := fun x y q => by
    cases hc : ed x y with
    | false => rfl
    | true =>
      have := hO.1 x y hc
      omega
  have hsum : ends ed = ct (fun i => ed (i / 7) (i % 7)) 49 := by
    unfold ends ct
    rw [show (49 : Nat) = 7 * 7 from rfl, sm_split]
    show sm (fun x => sm (fun y => (ed x y).toNat) 8) 7 + sm (fun y => (ed 7 y).toNat) 8 = _
    have z : sm (fun y => (ed 7 y).toNat) 8 = 0 := by
      rw [sm_congr (g := fun _ => 0) 8 (fun y _ => by rw [e7 7 y (Or.inl (Nat.le_refl _))]; rfl), sm_zero]
    rw [z, Nat.add_zero]
    apply sm_congr
    intro x hx
    show sm (fun y => (ed x y).toNat) 7 + (ed x 7).toNat = _
    rw [e7 x 7 (Or.inr (Nat.le_refl _))]
    show sm (fun y => (ed x y).toNat) 7 + 0 = _
    rw [Nat.add_zero]
    apply sm_congr
    intro y hy
    show _ = (ed ((x * 7 + y) / 7) ((x * 7 + y) % 7)).toNat
    rw [show (x * 7 + y) / 7 = x by omega, show (x * 7 + y) % 7 = y by omega]
  have hle : ct (fun i => ed (i / 7) (i % 7)) 49 ≤ 49 := ct_le _ _
  rw [hsum] at h
  refine lpU (fun f j => L_Mo_told_50 post hg od e im isIn rows nums todo f (nI (ct (fun i => ed (i / 7) (i % 7)) j)) (nI j)) 49 ?_ ?_
  · intro f
    refine pk_le (x := 49) 49 49 (fun _ => ⟨by decide, ?_⟩) (fun z => absurd z (by omega))
    have := pk_div (a := ct (fun i => ed (i / 7) (i % 7)) 49) (d := 2) (by omega) (by omega) (by omega)
    rw [show (2 : Int32) = nI 2 from rfl, this]
    exact h
  · intro f j hj0 hw
    refine pk_le (x := 49) 49 j (fun z => absurd z (by omega)) (fun _ => ⟨pk_in j 49 (by omega), ?_⟩)
    have ej : e j = b2 (ed (j / 7) (j % 7)) := by
      have := hE (j / 7) (j % 7) (by omega) (by omega)
      rw [show 7 * (j / 7) + j % 7 = j by omega] at this
      exact this
    rw [nI_clamp (by omega), ej]
    exact b2_c _ (fun q => nm_r (ct_n0 (P := fun i => ed (i / 7) (i % 7)) q) (nm_r (nI_1 j) hw)) (fun q => nm_r (ct_y (P := fun i => ed (i / 7) (i % 7)) q) (nm_r (nI_1 j) hw))
theorem mo_told {post : Int32 → Int32 → Int32 → (Nat → Int32) → (Nat → Int32) → (Nat → Int32) → (Nat → Int32) → (Nat → Int32) → Prop} {n c k : Nat} {mv : Nat → Nat} {ed : Nat → Nat → Bool} {hg od a : Int32} {mr e im fa isIn rows nums todo : Nat → Int32} (hM : MvOk n k mv) (hmr : ∀ i, i < k → mr i = nI (mv i)) (hE : EdM e ed) (hO : EdOk n ed) (hF : Fac fa) (hG : MG n k mv hg od isIn rows nums)
    (h : ∀ hg' od' im' isIn' rows' nums' todo', MG n k mv hg' od' isIn' rows' nums' → post (aTold n c k mv ed a) hg' od' im' isIn' rows' nums' todo') : wp_Mo_told post (nI n) (nI c) (nI k) hg od mr e im fa isIn rows nums todo a := by
  have ho := ord_le n k mv
  unfold wp_Mo_told
  refine w_within0 (n := 5) (by omega) (fun j hj0 ea => y1 ⟨fun z => ?_, fun z0 => ⟨fun z => ?_, fun z1 => ⟨fun z => ?_, fun z2 => ⟨fun z => ?_, fun z3 => ?_⟩⟩⟩⟩) (fun q => y0 ?_)
  · subst z
    exact h _ _ _ _ _ _ _ hG
  · subst z
    exact h _ _ _ _ _ _ _ hG
  · subst z
    exact h _ _ _ _ _ _ _ hG
  · subst z
    exact mo_edges hM.1 hE hO (h _ _ _ _ _ _ _ hG)
  · refine w_findG hM hmr hF hG (fun i s r m t g _ g2 _ => ⟨fun z => ?_, fun z4 => ?_⟩)
    · subst z
      exact h _ _ _ _ _ _ _ g
    · have e5 : a = 5 := by
        have : j = 5 := by
          rcases (show j = 0 ∨ j = 1 ∨ j = 2 ∨ j = 3 ∨ j = 4 ∨ j = 5 by omega) with w | w | w | w | w | w
          · exact absurd (ea.trans (by rw [w]; rfl)) z0
          · exact absurd (ea.trans (by rw [w]; rfl)) z1
          · exact absurd (ea.trans (by rw [w]; rfl)) z2
          · exact absurd (ea.trans (by rw [w]; rfl)) z3
          · exact absurd (ea.trans (by rw [w]; rfl)) z4
          · exact w
        rw [ea, this]
        rfl
      subst e5
      have h' : post (nI (sm (fun j => cyc n (gj n k mv j)) (ord n k mv))) 1 (nI (ord n k mv)) i s r m t := h _ _ _ _ _ _ _ g
      refine lpU (fun f j => L_Mo_told_99 post (nI n) 1 (nI (ord n k mv)) i s r m t f (nI (sm (fun j => cyc n (gj n k mv j)) j)) (nI j)) (ord n k mv) ?_ ?_
      · intro f
        exact pk_le (ord n k mv) (ord n k mv) (fun _ => h') (fun z => absurd z (by omega))
      · intro f j hj0 hw
        obtain ⟨r1, r2⟩ := gj_row g2 hj0
        exact pk_le (ord n k mv) j (fun z => absurd z (by omega)) (fun _ => w_cyclesOf hM.1 (r2.isP hM) (by omega) r1 (nm_r (nI_add _ _) (nm_r (nI_1 j) hw)))
  · have e : aTold n c k mv ed a = -2 := by
      unfold aTold
      rw [if_neg (show ¬ a = 0 from q 0 (by omega)), if_neg (show ¬ a = 1 from q 1 (by omega)), if_neg (show ¬ a = 2 from q 2 (by omega)), if_neg (show ¬ a = 3 from q 3 (by omega)), if_neg (show ¬ a = 4 from q 4 (by omega)), if_neg (show ¬ a = 5 from q 5 (by omega))]
    rw [e] at h
    exact h _ _ _ _ _ _ _ hG
theorem mo_number {post : Int32 → Int32 → Int32 → (Nat → Int32) → (Nat → Int32) → (Nat → Int32) → (Nat → Int32) → (Nat → Int32) → Prop} {n k R : Nat} {mv : Nat → Nat} {hg od : Int32} {mr im fa isIn rows nums todo : Nat → Int32} (hM : MvOk n k mv) (hmr : ∀ i, i < k → mr i = nI (mv i)) (hF : Fac fa) (hG : MG n k mv hg od isIn rows nums) (hR : R < 2 ^ 32)
    (h : ∀ hg' od' im' isIn' rows' nums' todo', MG n k mv hg' od' isIn' rows' nums' → post (aNum n k mv R) hg' od' im' isIn' rows' nums' todo') : wp_Mo_number post (nI n) (nI k) hg od mr im fa isIn rows nums todo (nI R) := by
  have hn := hM.1
  unfold wp_Mo_number
  unfold aNum at h
  refine w_reads hR hn (fun q f hf => y1 ?_) (fun q f => y0 ?_)
  · rw [onP_in q] at h
    have hp5 : rkR n R < 5040 := rk_lt hn
    refine w_placeAtHand (t := tg R) hn hF hf (fun x hx => by have := q.2.1 x hx; omega) (w_findG hM hmr hF hG (fun i s r m t g g1 g2 g3 => ⟨pk_in (rkR n R) 5040 hp5, ?_⟩))
    have ek : (nI (rk n (tg R))).toNatClampNeg = rkR n R := nI_clamp (show rkR n R < 2 ^ 31 by omega)
    rw [ek, g1 _ hp5]
    have h' := h _ _ i _ _ _ t g
    refine b2_c _ (fun z => ?_) (fun z => ⟨pk_in (rkR n R) 5040 hp5, ?_⟩)
    · rw [z] at h'
      exact h'
    · rw [z, if_pos rfl] at h'
      rw [g3 _ z]
      exact h'
  · rw [onP_out q] at h
    exact h _ _ _ _ _ _ _ hG
theorem mo_element {post : Int32 → Int32 → Int32 → (Nat → Int32) → (Nat → Int32) → (Nat → Int32) → (Nat → Int32) → (Nat → Int32) → Prop} {n k : Nat} {mv : Nat → Nat} {hg od a : Int32} {mr im fa isIn rows nums todo : Nat → Int32} (hM : MvOk n k mv) (hmr : ∀ i, i < k → mr i = nI (mv i)) (hF : Fac fa) (hG : MG n k mv hg od isIn rows nums)
    (h : ∀ hg' od' im' isIn' rows' nums' todo', MG n k mv hg' od' isIn' rows' nums' → post (atI (ord n k mv) a (fun j => nI (gj n k mv j)) (-1)) hg' od' im' isIn' rows' nums' todo') : wp_Mo_element post (nI n) (nI k) hg od mr im fa isIn rows nums todo a := by
  have ho := ord_le n k mv
  unfold wp_Mo_element
  refine w_isNumber hM hmr hF hG (fun j hj0 e i s r m t g g2 => y1 ?_) (fun q i s r m t g => y0 ?_)
  · rw [e, atI_in (by omega) hj0] at h
    rw [e]
    refine ⟨pk_in j 5040 (by omega), ?_⟩
    rw [nI_clamp (by omega), (gj_row g2 hj0).1]
    exact h _ _ _ _ _ _ _ g
  · rw [atI_out q] at h
    exact h _ _ _ _ _ _ _ g
theorem mo_cycles {post : Int32 → Int32 → Int32 → (Nat → Int32) → (Nat → Int32) → (Nat → Int32) → (Nat → Int32) → (Nat → Int32) → Prop} {n k : Nat} {mv : Nat → Nat} {hg od a : Int32} {mr im fa isIn rows nums todo : Nat → Int32} (hM : MvOk n k mv) (hmr : ∀ i, i < k → mr i = nI (mv i)) (hF : Fac fa) (hG : MG n k mv hg od isIn rows nums)
    (h : ∀ hg' od' im' isIn' rows' nums' todo', MG n k mv hg' od' isIn' rows' nums' → post (atI (ord n k mv) a (fun j => nI (cyc n (gj n k mv j))) (-1)) hg' od' im' isIn' rows' nums' todo') : wp_Mo_cycles post (nI n) (nI k) hg od mr im fa isIn rows nums todo a := by
  have ho := ord_le n k mv
  unfold wp_Mo_cycles
  refine w_isNumber hM hmr hF hG (fun j hj0 e i s r m t g g2 => y1 ?_) (fun q i s r m t g => y0 ?_)
  · rw [e, atI_in (by omega) hj0] at h
    rw [e]
    obtain ⟨r1, r2⟩ := gj_row g2 hj0
    exact w_cyclesOf hM.1 (r2.isP hM) (by omega) r1 (h _ _ _ _ _ _ _ g)
  · rw [atI_out q] at h
    exact h _ _ _ _ _ _ _ g
theorem mo_order {post : Int32 → Int32 → Int32 → (Nat → Int32) → (Nat → Int32) → (Nat → Int32) → (Nat → Int32) → (Nat → Int32) → Prop} {n k : Nat} {mv : Nat → Nat} {hg od a : Int32} {mr im fa isIn rows nums todo : Nat → Int32} (hM : MvOk n k mv) (hmr : ∀ i, i < k → mr i = nI (mv i)) (hF : Fac fa) (hG : MG n k mv hg od isIn rows nums)
    (h : ∀ hg' od' im' isIn' rows' nums' todo', MG n k mv hg' od' isIn' rows' nums' → post (atI (ord n k mv) a (fun j => nI (per n (gj n k mv j))) (-1)) hg' od' im' isIn' rows' nums' todo') : wp_Mo_order post (nI n) (nI k) hg od mr im fa isIn rows nums todo a := by
  have ho := ord_le n k mv
  unfold wp_Mo_order
  refine w_isNumber hM hmr hF hG (fun j hj0 e i s r m t g g2 => y1 ?_) (fun q i s r m t g => y0 ?_)
  · rw [e, atI_in (by omega) hj0] at h
    rw [e]
    obtain ⟨r1, r2⟩ := gj_row g2 hj0
    refine ⟨pk_in j 5040 (by omega), ?_⟩
    rw [nI_clamp (by omega), r1]
    exact nm_r rfl (w_orderM hM.1 (r2.isP hM) (h _ _ _ _ _ _ _ g))
  · rw [atI_out q] at h
    exact h _ _ _ _ _ _ _ g
theorem mo_reach {post : Int32 → Prop} {n k : Nat} {mv : Nat → Nat} {mr : Nat → Int32} {a : Int32} (hM : MvOk n k mv) (h0n : 0 < n) (hmr : ∀ i, i < k → mr i = nI (mv i)) (h : post (atI n a (fun x => nI (lr k mv x)) (-2))) : wp_Mo_reach post (nI n) (nI k) mr a := by
  have hn := hM.1
  refine w_reach hM h0n hmr (fun x hx e => ?_) (fun q => ?_)
  · rw [e, atI_in (by omega) hx] at h
    exact h
  · rw [atI_out q] at h
    exact h
theorem mo_keeps {post : Int32 → Int32 → Int32 → (Nat → Int32) → (Nat → Int32) → (Nat → Int32) → (Nat → Int32) → (Nat → Int32) → (Nat → Int32) → Prop} {n c k : Nat} {mv : Nat → Nat} {ed : Nat → Nat → Bool} {hg od a : Int32} {mr ee im fa isIn rows nums todo cf : Nat → Int32} (hk : Pk n c k mv) (hmr : ∀ i, i < k → mr i = nI (mv i)) (hE : EdM ee ed) (hF : Fac fa) (hG : MG n k mv hg od isIn rows nums)
    (h : ∀ hg' od' im' isIn' rows' nums' todo' cf', MG n k mv hg' od' isIn' rows' nums' → post (atI (ord n k mv) a (fun j => nI (c ^ cyc n (gj n k mv j))) (-1)) hg' od' im' isIn' rows' nums' todo' cf') : wp_Mo_keeps post (nI n) (nI c) (nI (c ^ n)) (nI k) hg od mr ee im fa isIn rows nums todo cf a := by
  have ho := ord_le n k mv
  obtain ⟨hn0, hc, hc4, hM⟩ := id hk
  unfold wp_Mo_keeps
  refine w_isNumber hM hmr hF hG (fun j hj0 e i s r m t g g2 => y1 ?_) (fun q i s r m t g => y0 ?_)
  · rw [e, atI_in (by omega) hj0] at h
    rw [e]
    obtain ⟨r1, r2⟩ := gj_row g2 hj0
    refine w_keptByM (fl := false) hM.1 hc hc4 hk.N hE (by omega) r1 (r2.isP hM) (fun cf' => ?_)
    have e2 : ct (fun p => kpt n c (gj n k mv j) p && (!false || fitB n ed (col n c p))) (c ^ n) = c ^ cyc n (gj n k mv j) := by
      rw [← keep_cyc hc (r2.isP hM)]
      apply ct_congr
      intro p _
      show (kpt n c (gj n k mv j) p && true) = _
      rw [Bool.and_true]
    rw [e2]
    exact h _ _ _ _ _ _ _ _ g
  · rw [atI_out q] at h
    exact h _ _ _ _ _ _ _ _ g
theorem mo_keepsFit {post : Int32 → Int32 → Int32 → (Nat → Int32) → (Nat → Int32) → (Nat → Int32) → (Nat → Int32) → (Nat → Int32) → (Nat → Int32) → Prop} {n c k : Nat} {mv : Nat → Nat} {ed : Nat → Nat → Bool} {hg od a : Int32} {mr ee im fa isIn rows nums todo cf : Nat → Int32} (hk : Pk n c k mv) (hmr : ∀ i, i < k → mr i = nI (mv i)) (hE : EdM ee ed) (hF : Fac fa) (hG : MG n k mv hg od isIn rows nums)
    (h : ∀ hg' od' im' isIn' rows' nums' todo' cf', MG n k mv hg' od' isIn' rows' nums' → post (aKF n c k mv ed a) hg' od' im' isIn' rows' nums' todo' cf') : wp_Mo_keepsFit post (nI n) (nI c) (nI (c ^ n)) (nI k) hg od mr ee im fa isIn rows nums todo cf a := by
  have ho := ord_le n k mv
  obtain ⟨hn0, hc, hc4, hM⟩ := id hk
  unfold wp_Mo_keepsFit
  unfold aKF at h
  refine w_areKept hE hM.1 hM.2.1 (fun m hm => ⟨hmr m hm, by have := isP_lt hM.1 (hM.2.2 m hm); omega⟩) (fun m hm => (hM.2.2 m hm).2.1) (b2_c _ (fun z => ?_) (fun z => ?_))
  · rw [z] at h
    exact h _ _ _ _ _ _ _ _ hG
  · rw [z, if_pos rfl] at h
    refine w_isNumber hM hmr hF hG (fun j hj0 e i s r m t g g2 => y1 ?_) (fun q i s r m t g => y0 ?_)
    · rw [e, atI_in (by omega) hj0] at h
      rw [e]
      obtain ⟨r1, r2⟩ := gj_row g2 hj0
      exact w_keptByM (fl := true) hM.1 hc hc4 hk.N hE (by omega) r1 (r2.isP hM) (fun cf' => h _ _ _ _ _ _ _ _ g)
    · rw [atI_out q] at h
      exact h _ _ _ _ _ _ _ _ g
theorem mo_by {post : Int32 → Int32 → Int32 → (Nat → Int32) → (Nat → Int32) → (Nat → Int32) → (Nat → Int32) → (Nat → Int32) → (Nat → Int32) → (Nat → Int32) → Prop} {n c k : Nat} {mv : Nat → Nat} {hg od a b : Int32} {mr im fa isIn rows nums todo cf tn : Nat → Int32} (hk : Pk n c k mv) (hmr : ∀ i, i < k → mr i = nI (mv i)) (hF : Fac fa) (hG : MG n k mv hg od isIn rows nums)
    (h : ∀ hg' od' im' isIn' rows' nums' todo' cf' tn', MG n k mv hg' od' isIn' rows' nums' → post (aBy2 n c k mv a b) hg' od' im' isIn' rows' nums' todo' cf' tn') : wp_Mo_by post (nI n) (nI c) (nI (c ^ n)) (nI k) hg od mr im fa isIn rows nums todo cf tn a b := by
  have ho := ord_le n k mv
  have hN := hk.N
  have hN0 := hk.N0
  obtain ⟨hn0, hc, hc4, hM⟩ := id hk
  unfold wp_Mo_by
  unfold aBy2 at h
  refine w_isPlan hN0 (by omega) (fun p hp e => y1 ?_) (fun q => y0 ?_)
  · rw [e, atI_in (by omega) hp] at h
    rw [e]
    refine w_isPlan hN0 (by omega) (fun q hq e2 => y1 ?_) (fun q => y0 ?_)
    · rw [e2, atI_in (by omega) hq] at h
      rw [e2]
      refine w_findG hM hmr hF hG (fun i s r m t g _ g2 _ => w_look hM.1 hc hc4 (by omega) (fun cf' hcf => ?_))
      have h' := fun tn' => h _ _ i _ _ _ t cf' tn' g
      have key : ∀ d v, v + d = ord n k mv → (∀ j, j < v → act n c (gj n k mv j) p ≠ q) → ∀ tn', L_Mo_by_30 post (nI n) (nI c) 1 (nI (ord n k mv)) i s r m t cf' (nI q) (d + 1) tn' (nI v) := by
        intro d
        induction d with
        | zero =>
          intro v hv hno tn'
          have ev : v = ord n k mv := by omega
          rw [ev] at hno ⊢
          rw [aBy_out hno] at h'
          exact pk_le (ord n k mv) (ord n k mv) (fun _ => h' tn') (fun z => absurd z (by omega))
        | succ d ih =>
          intro v hv hno tn'
          have hi : v < ord n k mv := by omega
          obtain ⟨r1, r2⟩ := gj_row g2 hi
          have hP := r2.isP hM
          have ha := act_lt (n := n) (p := p) hc hP
          refine pk_le (ord n k mv) v (fun z => absurd z (by omega)) (fun _ => ⟨pk_in v 5040 (by omega), ?_⟩)
          rw [nI_clamp (by omega), r1]
          refine w_makes hM.1 hP hcf (fun tn2 => pk_eq _ _ (fun z => ?_) (fun z => nm_r (nI_1 v) (ih (v + 1) (by omega) (fun j hj1 => ?_) tn2)) rfl rfl (by omega) (by omega))
          · rw [aBy_in hi z hno] at h'
            exact h' tn2
          · rcases Nat.lt_succ_iff_lt_or_eq.mp hj1 with w | w
            · exact hno j w
            · rw [w]; exact z
      exact ⟨ord n k mv + 1, key (ord n k mv) 0 (by omega) (fun j hj1 => absurd hj1 (by omega)) tn⟩
    · rw [atI_out q] at h
      exact h _ _ _ _ _ _ _ _ _ hG
  · rw [atI_out q] at h
    exact h _ _ _ _ _ _ _ _ _ hG
theorem mo_fit {post : Int32 → (Nat → Int32) → Prop} {n c k : Nat} {mv : Nat → Nat} {ed : Nat → Nat → Bool} {a : Int32} {ee cf : Nat → Int32} (hk : Pk n c k mv) (hE : EdM ee ed) (h : ∀ cf', post (atI (c ^ n) a (fun p => b2 (fitB n ed (col n c p))) (-2)) cf') : wp_Mo_fit post (nI n) (nI c) (nI (c ^ n)) ee cf a := by
  have hN := hk.N
  have hN0 := hk.N0
  obtain ⟨hn0, hc, hc4, hM⟩ := id hk
  unfold wp_Mo_fit
  refine w_isPlan hN0 (by omega) (fun p hp e => y1 ?_) (fun q => y0 ?_)
  · rw [e, atI_in (by omega) hp] at h
    rw [e]
    refine w_look hM.1 hc hc4 (by omega) (fun cf' hcf => w_fitNow hE hM.1 hc hc4 hcf (b2_c _ (fun z => ?_) (fun z => ?_)))
    · rw [z] at h; exact h _
    · rw [z] at h; exact h _
  · rw [atI_out q] at h
    exact h _
theorem mo_made {post : Int32 → (Nat → Int32) → (Nat → Int32) → (Nat → Int32) → Prop} {n c k R : Nat} {mv : Nat → Nat} {a : Int32} {im cf tn : Nat → Int32} (hk : Pk n c k mv) (hR : R < 2 ^ 32) (h : ∀ im' cf' tn', post (aMade n c a R) im' cf' tn') : wp_Mo_made post (nI n) (nI c) (nI (c ^ n)) im cf tn a (nI R) := by
  have hN := hk.N
  have hN0 := hk.N0
  obtain ⟨hn0, hc, hc4, hM⟩ := id hk
  unfold wp_Mo_made
  unfold aMade at h
  refine w_isPlan hN0 (by omega) (fun p hp e => y1 ?_) (fun q => y0 ?_)
  · rw [e, atI_in (by omega) hp] at h
    rw [e]
    refine w_reads hR hM.1 (fun q f hf => y1 ?_) (fun q f => y0 ?_)
    · rw [onP_in q] at h
      exact w_look hM.1 hc hc4 (by omega) (fun cf' hcf => w_makes hM.1 q hcf (fun tn' => h _ _ _))
    · rw [onP_out q] at h
      exact h _ _ _
  · rw [atI_out q] at h
    exact h _ _ _
