/-! the class's queries of the group -/
theorem w_isRow {post : Int32 → Prop} {R n : Nat} (hR : R < 2 ^ 32) (hn : n ≤ 7) (h1 : isP n R → post 1) (h0 : ¬ isP n R → post 0) : wp_SO_isRow post (nI n) (nI R) := by
  unfold wp_SO_isRow
  exact w_isPerm hR hn (fun q => ⟨Or.inr rfl, h1 q⟩) (fun q => ⟨Or.inl rfl, h0 q⟩)
noncomputable def onP (n R : Nat) (x d : Int32) : Int32 := @ite _ (isP n R) (Classical.propDecidable _) x d
theorem onP_in {n R : Nat} {x d : Int32} (h : isP n R) : onP n R x d = x := by unfold onP; rw [if_pos h]
theorem onP_out {n R : Nat} {x d : Int32} (h : ¬ isP n R) : onP n R x d = d := by unfold onP; rw [if_neg h]
noncomputable def aTold (n c k : Nat) (mv : Nat → Nat) (ed : Nat → Nat → Bool) (a : Int32) : Int32 := if a = 0 then nI n else if a = 1 then nI c else if a = 2 then nI k else if a = 3 then nI (ends ed / 2) else if a = 4 then nI (ord n k mv) else if a = 5 then nI (sm (fun j => cyc n (gj n k mv j)) (ord n k mv)) else -2
theorem so_told {post : Int32 → Int32 → Int32 → Int32 → (Nat → Int32) → (Nat → Int32) → (Nat → Int32) → Prop} {n c k : Nat} {mv : Nat → Nat} {ed : Nat → Nat → Bool} {gk gp gs a : Int32} {mr en gr gb gn : Nat → Int32} (hM : MvOk n k mv) (hmr : ∀ i, i < k → mr i = nI (mv i)) (hE : EdC en ed) (hG : CG n k mv gk gp gs gr gn)
    (h : ∀ gk' gp' gs' gr' gb' gn', CG n k mv gk' gp' gs' gr' gn' → post (aTold n c k mv ed a) gk' gp' gs' gr' gb' gn') : wp_SO_told post gk (nI k) mr en (nI n) (nI c) gp gs gr gb gn a := by
  unfold wp_SO_told
  refine ⟨fun z => ?_, fun z => ?_, fun z => ?_, fun z => ?_, fun z => ?_, fun z => ?_, fun z => ?_⟩
  · subst z
    exact h _ _ _ _ _ _ hG
  · subst z
    exact h _ _ _ _ _ _ hG
  · subst z
    exact h _ _ _ _ _ _ hG
  · subst z
    exact w_total hE (h _ _ _ _ _ _ hG)
  · subst z
    exact w_knownGroup hM hmr hG (fun r b m g _ _ => h _ _ _ _ _ _ g)
  · subst z
    exact w_knownGroup hM hmr hG (fun r b m g g1 _ => w_allCycles hM g1 (h _ _ _ _ _ _ g))
  · obtain ⟨z0, z1, z2, z3, z4, z5⟩ := z
    have e : aTold n c k mv ed a = -2 := by
      unfold aTold
      rw [if_neg z0, if_neg z1, if_neg z2, if_neg z3, if_neg z4, if_neg z5]
    have := h _ _ _ _ gb _ hG
    rw [e] at this
    exact this
noncomputable def aNum (n k : Nat) (mv : Nat → Nat) (R : Nat) : Int32 := onP n R (if gi n k mv (rkR n R) then nI (ct (gi n k mv) (rkR n R)) else -1) (-2)
theorem so_number {post : Int32 → Int32 → Int32 → Int32 → (Nat → Int32) → (Nat → Int32) → (Nat → Int32) → Prop} {n k R : Nat} {mv : Nat → Nat} {gk gp gs : Int32} {mr gr gb gn : Nat → Int32} (hM : MvOk n k mv) (hmr : ∀ i, i < k → mr i = nI (mv i)) (hG : CG n k mv gk gp gs gr gn) (hR : R < 2 ^ 32)
    (h : ∀ gk' gp' gs' gr' gb' gn', CG n k mv gk' gp' gs' gr' gn' → post (aNum n k mv R) gk' gp' gs' gr' gb' gn') : wp_SO_number post gk (nI k) mr (nI n) gp gs gr gb gn (nI R) := by
  unfold wp_SO_number
  unfold aNum at h
  refine w_isRow hR hM.1 (fun q => y1 ?_) (fun q => y0 ?_)
  · rw [onP_in q] at h
    exact w_knownGroup hM hmr hG (fun r b m g _ g2 => w_numberOf hM.1 g2 q (h _ _ _ _ _ _ g))
  · rw [onP_out q] at h
    exact h _ _ _ _ _ _ hG
theorem so_element {post : Int32 → Int32 → Int32 → Int32 → (Nat → Int32) → (Nat → Int32) → (Nat → Int32) → Prop} {n k : Nat} {mv : Nat → Nat} {gk gp gs a : Int32} {mr gr gb gn : Nat → Int32} (hM : MvOk n k mv) (hmr : ∀ i, i < k → mr i = nI (mv i)) (hG : CG n k mv gk gp gs gr gn)
    (h : ∀ gk' gp' gs' gr' gb' gn', CG n k mv gk' gp' gs' gr' gn' → post (atI (ord n k mv) a (fun j => nI (gj n k mv j)) (-1)) gk' gp' gs' gr' gb' gn') : wp_SO_element post gk (nI k) mr (nI n) gp gs gr gb gn a := by
  have ho := ord_le n k mv
  unfold wp_SO_element
  refine w_knownGroup hM hmr hG (fun r b m g g1 _ => w_rowAt g1 (fun j hj e => ?_) (fun q => ?_))
  · have := h _ _ _ _ b _ g
    rw [e, atI_in (by omega) hj] at this
    exact this
  · have := h _ _ _ _ b _ g
    rw [atI_out q] at this
    exact this
theorem so_cycles {post : Int32 → Int32 → Int32 → Int32 → (Nat → Int32) → (Nat → Int32) → (Nat → Int32) → Prop} {n k : Nat} {mv : Nat → Nat} {gk gp gs a : Int32} {mr gr gb gn : Nat → Int32} (hM : MvOk n k mv) (hmr : ∀ i, i < k → mr i = nI (mv i)) (hG : CG n k mv gk gp gs gr gn)
    (h : ∀ gk' gp' gs' gr' gb' gn', CG n k mv gk' gp' gs' gr' gn' → post (atI (ord n k mv) a (fun j => nI (cyc n (gj n k mv j))) (-1)) gk' gp' gs' gr' gb' gn') : wp_SO_cycles post gk (nI k) mr (nI n) gp gs gr gb gn a := by
  have ho := ord_le n k mv
  unfold wp_SO_cycles
  refine w_knownGroup hM hmr hG (fun r b m g g1 _ => w_rowAt g1 (fun j hj e => ?_) (fun q => ?_))
  · have hP := (gj_row g1 hj).2.isP hM
    have hl := isP_lt hM.1 hP
    have := h _ _ _ _ b _ g
    rw [e, atI_in (by omega) hj] at this
    exact ⟨fun z => absurd z (nI_m1 (by omega)), fun _ => w_countCycles hM.1 hP this⟩
  · have := h _ _ _ _ b _ g
    rw [atI_out q] at this
    exact ⟨fun _ => this, fun z => absurd rfl z⟩
theorem so_keeps {post : Int32 → Int32 → Int32 → Int32 → (Nat → Int32) → (Nat → Int32) → (Nat → Int32) → Prop} {n c k : Nat} {mv : Nat → Nat} {gk gp gs a : Int32} {mr gr gb gn : Nat → Int32} (hM : MvOk n k mv) (hmr : ∀ i, i < k → mr i = nI (mv i)) (hG : CG n k mv gk gp gs gr gn)
    (h : ∀ gk' gp' gs' gr' gb' gn', CG n k mv gk' gp' gs' gr' gn' → post (atI (ord n k mv) a (fun j => nI (c ^ cyc n (gj n k mv j))) (-1)) gk' gp' gs' gr' gb' gn') : wp_SO_keeps post gk (nI k) mr (nI n) (nI c) gp gs gr gb gn a := by
  have ho := ord_le n k mv
  unfold wp_SO_keeps
  refine w_knownGroup hM hmr hG (fun r b m g g1 _ => w_rowAt g1 (fun j hj e => ?_) (fun q => ?_))
  · have hP := (gj_row g1 hj).2.isP hM
    have hl := isP_lt hM.1 hP
    have hc : cyc n (gj n k mv j) ≤ n := ct_le _ _
    have hn := hM.1
    have := h _ _ _ _ b _ g
    rw [e, atI_in (by omega) hj] at this
    exact ⟨fun z => absurd z (nI_m1 (by omega)), fun _ => w_countCycles hM.1 hP (w_power (by omega) this)⟩
  · have := h _ _ _ _ b _ g
    rw [atI_out q] at this
    exact ⟨fun _ => this, fun z => absurd rfl z⟩
theorem so_order {post : Int32 → Int32 → Int32 → Int32 → (Nat → Int32) → (Nat → Int32) → (Nat → Int32) → Prop} {n k : Nat} {mv : Nat → Nat} {gk gp gs a : Int32} {mr gr gb gn : Nat → Int32} (hM : MvOk n k mv) (hmr : ∀ i, i < k → mr i = nI (mv i)) (hG : CG n k mv gk gp gs gr gn)
    (h : ∀ gk' gp' gs' gr' gb' gn', CG n k mv gk' gp' gs' gr' gn' → post (atI (ord n k mv) a (fun j => nI (per n (gj n k mv j))) (-1)) gk' gp' gs' gr' gb' gn') : wp_SO_order post gk (nI k) mr (nI n) gp gs gr gb gn a := by
  have ho := ord_le n k mv
  unfold wp_SO_order
  refine w_knownGroup hM hmr hG (fun r b m g g1 _ => w_rowAt g1 (fun j hj e => ?_) (fun q => ?_))
  · have hP := (gj_row g1 hj).2.isP hM
    have hl := isP_lt hM.1 hP
    have := h _ _ _ _ b _ g
    rw [e, atI_in (by omega) hj] at this
    exact ⟨fun z => absurd z (nI_m1 (by omega)), fun _ => w_period hM.1 hP this⟩
  · have := h _ _ _ _ b _ g
    rw [atI_out q] at this
    exact ⟨fun _ => this, fun z => absurd rfl z⟩
theorem so_reach {post : Int32 → Int32 → Int32 → Int32 → (Nat → Int32) → (Nat → Int32) → (Nat → Int32) → Prop} {n k : Nat} {mv : Nat → Nat} {gk gp gs a : Int32} {mr gr gb gn : Nat → Int32} (hM : MvOk n k mv) (hmr : ∀ i, i < k → mr i = nI (mv i)) (hG : CG n k mv gk gp gs gr gn)
    (h : ∀ gk' gp' gs' gr' gb' gn', CG n k mv gk' gp' gs' gr' gn' → post (atI n a (fun x => nI (lr k mv x)) (-2)) gk' gp' gs' gr' gb' gn') : wp_SO_reach post gk (nI k) mr (nI n) gp gs gr gb gn a := by
  have hn := hM.1
  unfold wp_SO_reach
  refine w_isPoint (by omega) (fun j hj e => y1 ?_) (fun q => y0 ?_)
  · rw [e, atI_in (by omega) hj] at h
    rw [e]
    exact w_knownGroup hM hmr hG (fun r b m g g1 _ => w_leastTarget hM g1 hj (h _ _ _ _ b _ g))
  · rw [atI_out q] at h
    exact h _ _ _ _ _ _ hG
noncomputable def aKF (n c k : Nat) (mv : Nat → Nat) (ed : Nat → Nat → Bool) (a : Int32) : Int32 := if kpE n k mv ed then atI (ord n k mv) a (fun j => nI (ct (fun p => kpt n c (gj n k mv j) p && fitB n ed (col n c p)) (c ^ n))) (-1) else -3
theorem so_keepsFit {post : Int32 → Int32 → Int32 → Int32 → (Nat → Int32) → (Nat → Int32) → (Nat → Int32) → Prop} {n c k : Nat} {mv : Nat → Nat} {ed : Nat → Nat → Bool} {gk gp gs a : Int32} {mr en gr gb gn : Nat → Int32} (hk : Pk n c k mv) (hmr : ∀ i, i < k → mr i = nI (mv i)) (hE : EdC en ed) (hO : EdOk n ed) (hG : CG n k mv gk gp gs gr gn)
    (h : ∀ gk' gp' gs' gr' gb' gn', CG n k mv gk' gp' gs' gr' gn' → post (aKF n c k mv ed a) gk' gp' gs' gr' gb' gn') : wp_SO_keepsFit post gk (nI k) mr en (nI n) (nI c) (nI (c ^ n)) gp gs gr gb gn a := by
  have ho := ord_le n k mv
  obtain ⟨hn0, hc, hc4, hM⟩ := id hk
  unfold wp_SO_keepsFit
  unfold aKF at h
  refine w_keptBy hE hO hM.1 hM.2.1 (fun m hm => ⟨hmr m hm, by have := isP_lt hM.1 (hM.2.2 m hm); omega⟩) (b2_c _ (fun z => ?_) (fun z => ?_))
  · rw [z] at h
    exact h _ _ _ _ _ _ hG
  · rw [z, if_pos rfl] at h
    refine w_knownGroup hM hmr hG (fun r b m g g1 _ => w_rowAt g1 (fun j hj e => ?_) (fun q => ?_))
    · have hP := (gj_row g1 hj).2.isP hM
      have hl := isP_lt hM.1 hP
      have := h _ _ _ _ b _ g
      rw [e, atI_in (by omega) hj] at this
      exact ⟨fun z => absurd z (nI_m1 (by omega)), fun _ => w_countKF hM.1 hc hc4 hk.N hE hO hP this⟩
    · have := h _ _ _ _ b _ g
      rw [atI_out q] at this
      exact ⟨fun _ => this, fun z => absurd rfl z⟩
/-! the class's queries of plans -/
theorem so_orbits {post : Int32 → Int32 → Int32 → Int32 → (Nat → Int32) → (Nat → Int32) → (Nat → Int32) → (Nat → Int32) → Prop} {n c k : Nat} {mv : Nat → Nat} {tk tf tc : Int32} {mr u tr th ts td : Nat → Int32} (hk : Pk n c k mv) (hu : Un n c u) (hmr : ∀ i, i < k → mr i = nI (mv i)) (hT : CT n c k mv tk tc tr th ts)
    (h : ∀ tk' tf' tc' tr' th' ts' td', CT n c k mv tk' tc' tr' th' ts' → post (nI (hN n c k mv)) tk' tf' tc' tr' th' ts' td') : wp_SO_orbits post tk (nI k) mr (nI n) (nI c) (nI (c ^ n)) u tf tc tr th ts td := by
  unfold wp_SO_orbits
  exact w_knownTable hk hu hmr hT (fun x r a s d g _ _ _ => h _ _ _ _ _ _ _ g)
theorem so_head {post : Int32 → Int32 → Int32 → Int32 → (Nat → Int32) → (Nat → Int32) → (Nat → Int32) → (Nat → Int32) → Prop} {n c k : Nat} {mv : Nat → Nat} {tk tf tc a : Int32} {mr u tr th ts td : Nat → Int32} (hk : Pk n c k mv) (hu : Un n c u) (hmr : ∀ i, i < k → mr i = nI (mv i)) (hT : CT n c k mv tk tc tr th ts)
    (h : ∀ tk' tf' tc' tr' th' ts' td', CT n c k mv tk' tc' tr' th' ts' → post (atI (c ^ n) a (fun q => nI (hdP n c k mv q)) (-2)) tk' tf' tc' tr' th' ts' td') : wp_SO_head post tk (nI k) mr (nI n) (nI c) (nI (c ^ n)) u tf tc tr th ts td a := by
  have hN := hk.N
  unfold wp_SO_head
  refine w_has (by omega) (fun q hq e => y1 ?_) (fun q => y0 ?_)
  · rw [e, atI_in (by omega) hq] at h
    rw [e]
    refine w_knownTable hk hu hmr hT (fun x r a s d g g1 g2 _ => w_rankOf hk g1 hq (w_headJ hk g2 (rk_hd hq).1 ?_))
    rw [(rk_hd hq).2]
    exact h _ _ _ _ _ _ _ g
  · rw [atI_out q] at h
    exact h _ _ _ _ _ _ _ hT
theorem so_mates {post : Int32 → Int32 → Int32 → Int32 → (Nat → Int32) → (Nat → Int32) → (Nat → Int32) → (Nat → Int32) → Prop} {n c k : Nat} {mv : Nat → Nat} {tk tf tc a : Int32} {mr u tr th ts td : Nat → Int32} (hk : Pk n c k mv) (hu : Un n c u) (hmr : ∀ i, i < k → mr i = nI (mv i)) (hT : CT n c k mv tk tc tr th ts)
    (h : ∀ tk' tf' tc' tr' th' ts' td', CT n c k mv tk' tc' tr' th' ts' → post (atI (c ^ n) a (fun q => nI (osz n c k mv (hdP n c k mv q))) (-2)) tk' tf' tc' tr' th' ts' td') : wp_SO_mates post tk (nI k) mr (nI n) (nI c) (nI (c ^ n)) u tf tc tr th ts td a := by
  have hN := hk.N
  unfold wp_SO_mates
  refine w_has (by omega) (fun q hq e => y1 ?_) (fun q => y0 ?_)
  · rw [e, atI_in (by omega) hq] at h
    rw [e]
    refine w_knownTable hk hu hmr hT (fun x r a s d g g1 _ g3 => w_rankOf hk g1 hq (w_sizeJ hk g3 (rk_hd hq).1 ?_))
    rw [(rk_hd hq).2]
    exact h _ _ _ _ _ _ _ g
  · rw [atI_out q] at h
    exact h _ _ _ _ _ _ _ hT
theorem so_rank {post : Int32 → Int32 → Int32 → Int32 → (Nat → Int32) → (Nat → Int32) → (Nat → Int32) → (Nat → Int32) → Prop} {n c k : Nat} {mv : Nat → Nat} {tk tf tc a : Int32} {mr u tr th ts td : Nat → Int32} (hk : Pk n c k mv) (hu : Un n c u) (hmr : ∀ i, i < k → mr i = nI (mv i)) (hT : CT n c k mv tk tc tr th ts)
    (h : ∀ tk' tf' tc' tr' th' ts' td', CT n c k mv tk' tc' tr' th' ts' → post (atI (c ^ n) a (fun q => nI (ct (isH n c k mv) (hdP n c k mv q))) (-2)) tk' tf' tc' tr' th' ts' td') : wp_SO_rank post tk (nI k) mr (nI n) (nI c) (nI (c ^ n)) u tf tc tr th ts td a := by
  have hN := hk.N
  unfold wp_SO_rank
  refine w_has (by omega) (fun q hq e => y1 ?_) (fun q => y0 ?_)
  · rw [e, atI_in (by omega) hq] at h
    rw [e]
    exact w_knownTable hk hu hmr hT (fun x r a s d g g1 _ _ => w_rankOf hk g1 hq (h _ _ _ _ _ _ _ g))
  · rw [atI_out q] at h
    exact h _ _ _ _ _ _ _ hT
theorem so_nth {post : Int32 → Int32 → Int32 → Int32 → (Nat → Int32) → (Nat → Int32) → (Nat → Int32) → (Nat → Int32) → Prop} {n c k : Nat} {mv : Nat → Nat} {tk tf tc a : Int32} {mr u tr th ts td : Nat → Int32} (hk : Pk n c k mv) (hu : Un n c u) (hmr : ∀ i, i < k → mr i = nI (mv i)) (hT : CT n c k mv tk tc tr th ts)
    (h : ∀ tk' tf' tc' tr' th' ts' td', CT n c k mv tk' tc' tr' th' ts' → post (atI (hN n c k mv) a (fun j => nI (hj n c k mv j)) (-1)) tk' tf' tc' tr' th' ts' td') : wp_SO_nth post tk (nI k) mr (nI n) (nI c) (nI (c ^ n)) u tf tc tr th ts td a := by
  have hN := hN_le hk
  unfold wp_SO_nth
  refine w_knownTable hk hu hmr hT (fun x r b s d g _ g2 _ => w_headAt hk g2 (fun j hj e => ?_) (fun q => ?_))
  · rw [e, atI_in (by omega) hj] at h
    exact h _ _ _ _ _ _ _ g
  · rw [atI_out q] at h
    exact h _ _ _ _ _ _ _ g
theorem so_full {post : Int32 → Int32 → Int32 → Int32 → Int32 → (Nat → Int32) → (Nat → Int32) → (Nat → Int32) → Int32 → Int32 → (Nat → Int32) → (Nat → Int32) → (Nat → Int32) → (Nat → Int32) → Prop} {n c k : Nat} {mv : Nat → Nat} {gk gp gs tk tf tc : Int32} {mr u gr gb gn tr th ts td : Nat → Int32} (hk : Pk n c k mv) (hu : Un n c u) (hmr : ∀ i, i < k → mr i = nI (mv i)) (hG : CG n k mv gk gp gs gr gn) (hT : CT n c k mv tk tc tr th ts)
    (h : ∀ gk' gp' gs' gr' gb' gn' tk' tf' tc' tr' th' ts' td', CG n k mv gk' gp' gs' gr' gn' → CT n c k mv tk' tc' tr' th' ts' → post (nI (ct (fun j => osz n c k mv (hj n c k mv j) == ord n k mv) (hN n c k mv))) gk' tk' gp' gs' gr' gb' gn' tf' tc' tr' th' ts' td') : wp_SO_full post gk tk (nI k) mr (nI n) (nI c) (nI (c ^ n)) u gp gs gr gb gn tf tc tr th ts td := by
  have ho := ord_le n k mv
  unfold wp_SO_full
  exact w_knownTable hk hu hmr hT (fun x r a s d g _ _ g3 => w_knownGroup hk.2.2.2 hmr hG (fun r b m q _ _ => w_countOfSize hk g3 (by omega) (h _ _ _ _ _ _ _ _ _ _ _ _ _ q g)))
noncomputable def aFits (n c k : Nat) (mv : Nat → Nat) (ed : Nat → Nat → Bool) : Int32 := if kpE n k mv ed then nI (ct (fun j => fitB n ed (col n c (hj n c k mv j))) (hN n c k mv)) else -3
theorem so_fits {post : Int32 → Int32 → Int32 → Int32 → (Nat → Int32) → (Nat → Int32) → (Nat → Int32) → (Nat → Int32) → Prop} {n c k : Nat} {mv : Nat → Nat} {ed : Nat → Nat → Bool} {tk tf tc : Int32} {mr en u tr th ts td : Nat → Int32} (hk : Pk n c k mv) (hu : Un n c u) (hmr : ∀ i, i < k → mr i = nI (mv i)) (hE : EdC en ed) (hO : EdOk n ed) (hT : CT n c k mv tk tc tr th ts)
    (h : ∀ tk' tf' tc' tr' th' ts' td', CT n c k mv tk' tc' tr' th' ts' → post (aFits n c k mv ed) tk' tf' tc' tr' th' ts' td') : wp_SO_fits post tk (nI k) mr en (nI n) (nI c) (nI (c ^ n)) u tf tc tr th ts td := by
  have hN0 := hN_le hk
  have hNn := hk.N
  obtain ⟨hn0, hc, hc4, hM⟩ := id hk
  unfold wp_SO_fits
  unfold aFits at h
  refine w_keptBy hE hO hM.1 hM.2.1 (fun m hm => ⟨hmr m hm, by have := isP_lt hM.1 (hM.2.2 m hm); omega⟩) (b2_c _ (fun z => ?_) (fun z => ?_))
  · rw [z] at h
    exact h _ _ _ _ _ _ _ hT
  · rw [z, if_pos rfl] at h
    unfold wp_SO_countFitHeads
    refine w_knownTable hk hu hmr hT (fun x r a s d g g1 g2 g3 => ?_)
    have h' := h _ x _ _ _ _ d g
    refine lpU (fun f j => L_SO_countFitHeads_9 _ 1 en (nI n) (nI c) x (nI (hN n c k mv)) r a s d f (nI (ct (fun j => fitB n ed (col n c (hj n c k mv j))) j)) (nI j)) (hN n c k mv) ?_ ?_
    · intro f
      exact pk_le (hN n c k mv) (hN n c k mv) (fun _ => h') (fun z => absurd z (by omega))
    · intro f j hj0 hw
      have hb := (hj_spec hj0).1
      refine pk_le (hN n c k mv) j (fun z => absurd z (by omega)) (fun _ => w_headJ hk g2 hj0 (w_spread hM.1 hc hc4 (by omega) (w_allow hE hO hM.1 hc hc4 (b2_c _ (fun q => nm_r (nI_1 j) ?_) (fun q => nm_r (ct_y (P := fun j => fitB n ed (col n c (hj n c k mv j))) q) (nm_r (nI_1 j) hw))))))
      rw [ct_n (P := fun j => fitB n ed (col n c (hj n c k mv j))) q] at hw
      exact hw
def sL (f : Nat → Int64) : Nat → Int64
  | 0 => 0
  | j + 1 => sL f j + f j
theorem so_sum {post : Int64 → Int32 → Int32 → Int32 → (Nat → Int32) → (Nat → Int32) → (Nat → Int32) → (Nat → Int32) → Prop} {n c k : Nat} {mv : Nat → Nat} {tk tf tc : Int32} {mr u wt tr th ts td : Nat → Int32} (hk : Pk n c k mv) (hu : Un n c u) (hmr : ∀ i, i < k → mr i = nI (mv i)) (hT : CT n c k mv tk tc tr th ts)
    (h : ∀ tk' tf' tc' tr' th' ts' td', CT n c k mv tk' tc' tr' th' ts' → post (sL (fun j => pw (fun x => (wt (col n c (hj n c k mv j) x)).toInt64) n) (hN n c k mv)) tk' tf' tc' tr' th' ts' td') : wp_SO_sum post tk (nI k) mr (nI n) (nI c) (nI (c ^ n)) u wt tf tc tr th ts td := by
  have hN0 := hN_le hk
  have hNn := hk.N
  obtain ⟨hn0, hc, hc4, hM⟩ := id hk
  unfold wp_SO_sum
  refine w_knownTable hk hu hmr hT (fun x r a s d g g1 g2 g3 => ?_)
  have h' := h _ x _ _ _ _ d g
  refine lpU (fun f j => L_SO_sum_10 post 1 (nI n) (nI c) wt x (nI (hN n c k mv)) r a s d f (sL (fun j => pw (fun x => (wt (col n c (hj n c k mv j) x)).toInt64) n) j) (nI j)) (hN n c k mv) ?_ ?_
  · intro f
    exact pk_le (hN n c k mv) (hN n c k mv) (fun _ => h') (fun z => absurd z (by omega))
  · intro f j hj0 hw
    have hb := (hj_spec hj0).1
    exact pk_le (hN n c k mv) j (fun z => absurd z (by omega)) (fun _ => w_headJ hk g2 hj0 (w_spread hM.1 hc hc4 (by omega) (w_product hM.1 hc hc4 (nm_r rfl (nm_r (nI_1 j) hw)))))
