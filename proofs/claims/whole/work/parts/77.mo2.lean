/-! the reference's queries of plans -/
theorem mo_orbits {post : Int32 → Int32 → Int32 → (Nat → Int32) → (Nat → Int32) → (Nat → Int32) → (Nat → Int32) → (Nat → Int32) → (Nat → Int32) → (Nat → Int32) → Prop} {n c k : Nat} {mv : Nat → Nat} {ho hm : Int32} {mr todo cf tn heads mates hl ranks : Nat → Int32} (hk : Pk n c k mv) (hmr : ∀ i, i < k → mr i = nI (mv i)) (hT : MT n c k mv ho hm heads mates hl ranks)
    (h : ∀ ho' hm' todo' cf' tn' heads' mates' hl' ranks', MT n c k mv ho' hm' heads' mates' hl' ranks' → post (nI (hN n c k mv)) ho' hm' todo' cf' tn' heads' mates' hl' ranks') : wp_Mo_orbits post (nI n) (nI c) (nI (c ^ n)) (nI k) ho hm mr todo cf tn heads mates hl ranks := by
  unfold wp_Mo_orbits
  exact w_findO hk hmr hT (fun a b d e f g i q _ _ _ _ => h _ _ _ _ _ _ _ _ _ q)
theorem mo_head {post : Int32 → Int32 → Int32 → (Nat → Int32) → (Nat → Int32) → (Nat → Int32) → (Nat → Int32) → (Nat → Int32) → (Nat → Int32) → (Nat → Int32) → Prop} {n c k : Nat} {mv : Nat → Nat} {ho hm x : Int32} {mr todo cf tn heads mates hl ranks : Nat → Int32} (hk : Pk n c k mv) (hmr : ∀ i, i < k → mr i = nI (mv i)) (hT : MT n c k mv ho hm heads mates hl ranks)
    (h : ∀ ho' hm' todo' cf' tn' heads' mates' hl' ranks', MT n c k mv ho' hm' heads' mates' hl' ranks' → post (atI (c ^ n) x (fun q => nI (hdP n c k mv q)) (-2)) ho' hm' todo' cf' tn' heads' mates' hl' ranks') : wp_Mo_head post (nI n) (nI c) (nI (c ^ n)) (nI k) ho hm mr todo cf tn heads mates hl ranks x := by
  have hNn := hk.N
  unfold wp_Mo_head
  refine w_findO hk hmr hT (fun a b d e f g i g0 g1 _ _ _ => w_isPlan hk.N0 (by omega) (fun p hp ex => y1 ?_) (fun q => y0 ?_))
  · rw [ex, atI_in (by omega) hp] at h
    rw [ex]
    refine ⟨pk_in p 16384 (by omega), ?_⟩
    rw [nI_clamp (by omega), g1 p hp]
    exact h _ _ _ _ _ _ _ _ _ g0
  · rw [atI_out q] at h
    exact h _ _ _ _ _ _ _ _ _ g0
theorem mo_mates {post : Int32 → Int32 → Int32 → (Nat → Int32) → (Nat → Int32) → (Nat → Int32) → (Nat → Int32) → (Nat → Int32) → (Nat → Int32) → (Nat → Int32) → Prop} {n c k : Nat} {mv : Nat → Nat} {ho hm x : Int32} {mr todo cf tn heads mates hl ranks : Nat → Int32} (hk : Pk n c k mv) (hmr : ∀ i, i < k → mr i = nI (mv i)) (hT : MT n c k mv ho hm heads mates hl ranks)
    (h : ∀ ho' hm' todo' cf' tn' heads' mates' hl' ranks', MT n c k mv ho' hm' heads' mates' hl' ranks' → post (atI (c ^ n) x (fun q => nI (osz n c k mv (hdP n c k mv q))) (-2)) ho' hm' todo' cf' tn' heads' mates' hl' ranks') : wp_Mo_mates post (nI n) (nI c) (nI (c ^ n)) (nI k) ho hm mr todo cf tn heads mates hl ranks x := by
  have hNn := hk.N
  unfold wp_Mo_mates
  refine w_findO hk hmr hT (fun a b d e f g i g0 g1 g2 _ _ => w_isPlan hk.N0 (by omega) (fun p hp ex => y1 ?_) (fun q => y0 ?_))
  · rw [ex, atI_in (by omega) hp] at h
    rw [ex]
    have hl : hdP n c k mv p < c ^ n := Nat.lt_of_le_of_lt (hd_le p) hp
    refine ⟨pk_in p 16384 (by omega), ?_⟩
    rw [nI_clamp (show p < 2 ^ 31 by omega), g1 p hp, nI_clamp (show hdP n c k mv p < 2 ^ 31 by omega), g2 _ hl (isH_hd p)]
    exact ⟨pk_in (hdP n c k mv p) 16384 (by omega), h _ _ _ _ _ _ _ _ _ g0⟩
  · rw [atI_out q] at h
    exact h _ _ _ _ _ _ _ _ _ g0
theorem mo_rank {post : Int32 → Int32 → Int32 → (Nat → Int32) → (Nat → Int32) → (Nat → Int32) → (Nat → Int32) → (Nat → Int32) → (Nat → Int32) → (Nat → Int32) → Prop} {n c k : Nat} {mv : Nat → Nat} {ho hm x : Int32} {mr todo cf tn heads mates hl ranks : Nat → Int32} (hk : Pk n c k mv) (hmr : ∀ i, i < k → mr i = nI (mv i)) (hT : MT n c k mv ho hm heads mates hl ranks)
    (h : ∀ ho' hm' todo' cf' tn' heads' mates' hl' ranks', MT n c k mv ho' hm' heads' mates' hl' ranks' → post (atI (c ^ n) x (fun q => nI (ct (isH n c k mv) (hdP n c k mv q))) (-2)) ho' hm' todo' cf' tn' heads' mates' hl' ranks') : wp_Mo_rank post (nI n) (nI c) (nI (c ^ n)) (nI k) ho hm mr todo cf tn heads mates hl ranks x := by
  have hNn := hk.N
  unfold wp_Mo_rank
  refine w_findO hk hmr hT (fun a b d e f g i g0 g1 _ _ g4 => w_isPlan hk.N0 (by omega) (fun p hp ex => y1 ?_) (fun q => y0 ?_))
  · rw [ex, atI_in (by omega) hp] at h
    rw [ex]
    have hl : hdP n c k mv p < c ^ n := Nat.lt_of_le_of_lt (hd_le p) hp
    refine ⟨pk_in p 16384 (by omega), ?_⟩
    rw [nI_clamp (show p < 2 ^ 31 by omega), g1 p hp, nI_clamp (show hdP n c k mv p < 2 ^ 31 by omega), g4 _ hl (isH_hd p)]
    exact ⟨pk_in (hdP n c k mv p) 16384 (by omega), h _ _ _ _ _ _ _ _ _ g0⟩
  · rw [atI_out q] at h
    exact h _ _ _ _ _ _ _ _ _ g0
theorem mo_nth {post : Int32 → Int32 → Int32 → (Nat → Int32) → (Nat → Int32) → (Nat → Int32) → (Nat → Int32) → (Nat → Int32) → (Nat → Int32) → (Nat → Int32) → Prop} {n c k : Nat} {mv : Nat → Nat} {ho hm x : Int32} {mr todo cf tn heads mates hl ranks : Nat → Int32} (hk : Pk n c k mv) (hmr : ∀ i, i < k → mr i = nI (mv i)) (hT : MT n c k mv ho hm heads mates hl ranks)
    (h : ∀ ho' hm' todo' cf' tn' heads' mates' hl' ranks', MT n c k mv ho' hm' heads' mates' hl' ranks' → post (atI (hN n c k mv) x (fun j => nI (hj n c k mv j)) (-1)) ho' hm' todo' cf' tn' heads' mates' hl' ranks') : wp_Mo_nth post (nI n) (nI c) (nI (c ^ n)) (nI k) ho hm mr todo cf tn heads mates hl ranks x := by
  have hNn := hN_le hk
  unfold wp_Mo_nth
  refine w_findO hk hmr hT (fun a b d e f g i g0 _ _ g3 _ => w_within (hN_pos hk) (by omega) (fun j hj0 ex => y1 ?_) (fun q => y0 ?_))
  · rw [ex, atI_in (by omega) hj0] at h
    rw [ex]
    refine ⟨pk_in j 16384 (by omega), ?_⟩
    rw [nI_clamp (show j < 2 ^ 31 by omega), hj_row g3 hj0]
    exact h _ _ _ _ _ _ _ _ _ g0
  · rw [atI_out q] at h
    exact h _ _ _ _ _ _ _ _ _ g0
theorem mo_full {post : Int32 → Int32 → Int32 → Int32 → Int32 → (Nat → Int32) → (Nat → Int32) → (Nat → Int32) → (Nat → Int32) → (Nat → Int32) → (Nat → Int32) → (Nat → Int32) → (Nat → Int32) → (Nat → Int32) → (Nat → Int32) → (Nat → Int32) → Prop} {n c k : Nat} {mv : Nat → Nat} {hg od ho hm : Int32} {mr im fa isIn rows nums todo cf tn heads mates hl ranks : Nat → Int32} (hk : Pk n c k mv) (hmr : ∀ i, i < k → mr i = nI (mv i)) (hF : Fac fa) (hG : MG n k mv hg od isIn rows nums) (hT : MT n c k mv ho hm heads mates hl ranks)
    (h : ∀ hg' od' ho' hm' im' isIn' rows' nums' todo' cf' tn' heads' mates' hl' ranks', MG n k mv hg' od' isIn' rows' nums' → MT n c k mv ho' hm' heads' mates' hl' ranks' → post (nI (ct (fun j => osz n c k mv (hj n c k mv j) == ord n k mv) (hN n c k mv))) hg' od' ho' hm' im' isIn' rows' nums' todo' cf' tn' heads' mates' hl' ranks') : wp_Mo_full post (nI n) (nI c) (nI (c ^ n)) (nI k) hg od ho hm mr im fa isIn rows nums todo cf tn heads mates hl ranks := by
  have hN0 := hN_le hk
  have hNn := hk.N
  have hod := ord_le n k mv
  unfold wp_Mo_full
  refine w_findO hk hmr hT (fun t1 b d e f g i g0 _ g2 g3 _ => w_findG hk.2.2.2 hmr hF hG (fun i2 s r m t q _ _ _ => ?_))
  have h' := h _ _ _ _ i2 _ _ _ t b d _ _ _ _ q g0
  refine lpU (fun z j => L_Mo_full_12 post 1 (nI (ord n k mv)) 1 (nI (hN n c k mv)) i2 s r m t b d e f g i z (nI (ct (fun j => osz n c k mv (hj n c k mv j) == ord n k mv) j)) (nI j)) (hN n c k mv) ?_ ?_
  · intro z
    exact pk_le (hN n c k mv) (hN n c k mv) (fun _ => h') (fun z => absurd z (by omega))
  · intro z j hj0 hw
    obtain ⟨s1, s2, s3⟩ := hj_spec hj0
    have hs := osz_le n c k mv (hj n c k mv j)
    refine pk_le (hN n c k mv) j (fun z => absurd z (by omega)) (fun _ => ⟨pk_in j 16384 (by omega), ?_⟩)
    rw [nI_clamp (show j < 2 ^ 31 by omega), hj_row g3 hj0, nI_clamp (show hj n c k mv j < 2 ^ 31 by omega), g2 _ s1 s2]
    exact ⟨pk_in (hj n c k mv j) 16384 (by omega), pk_eq _ _ (fun w => nm_r (ct_y (P := fun j => osz n c k mv (hj n c k mv j) == ord n k mv) (beq_iff_eq.mpr w)) (nm_r (nI_1 j) hw)) (fun w => nm_r (ct_n0 (P := fun j => osz n c k mv (hj n c k mv j) == ord n k mv) (beq_eq_false_iff_ne.mpr w)) (nm_r (nI_1 j) hw)) rfl rfl (by omega) (by omega)⟩
theorem mo_fits {post : Int32 → Int32 → Int32 → (Nat → Int32) → (Nat → Int32) → (Nat → Int32) → (Nat → Int32) → (Nat → Int32) → (Nat → Int32) → (Nat → Int32) → Prop} {n c k : Nat} {mv : Nat → Nat} {ed : Nat → Nat → Bool} {ho hm : Int32} {mr ee todo cf tn heads mates hl ranks : Nat → Int32} (hk : Pk n c k mv) (hmr : ∀ i, i < k → mr i = nI (mv i)) (hE : EdM ee ed) (hT : MT n c k mv ho hm heads mates hl ranks)
    (h : ∀ ho' hm' todo' cf' tn' heads' mates' hl' ranks', MT n c k mv ho' hm' heads' mates' hl' ranks' → post (aFits n c k mv ed) ho' hm' todo' cf' tn' heads' mates' hl' ranks') : wp_Mo_fits post (nI n) (nI c) (nI (c ^ n)) (nI k) ho hm mr ee todo cf tn heads mates hl ranks := by
  have hN0 := hN_le hk
  have hNn := hk.N
  obtain ⟨hn0, hc, hc4, hM⟩ := id hk
  unfold wp_Mo_fits
  unfold aFits at h
  refine w_areKept hE hM.1 hM.2.1 (fun m hm => ⟨hmr m hm, by have := isP_lt hM.1 (hM.2.2 m hm); omega⟩) (fun m hm => (hM.2.2 m hm).2.1) (b2_c _ (fun z => ?_) (fun z => ?_))
  · rw [z] at h
    exact h _ _ _ _ _ _ _ _ _ hT
  · rw [z, if_pos rfl] at h
    refine w_findO hk hmr hT (fun t1 b d e f g i g0 _ g2 g3 _ => ?_)
    have h' := fun cf' => h _ _ t1 cf' d _ _ _ _ g0
    refine Exists.elim (pk_loop (fun z j (s : Nat → Int32) => L_Mo_fits_18 post (nI n) (nI c) 1 (nI (hN n c k mv)) ee t1 d e f g i z s (nI (ct (fun j => fitB n ed (col n c (hj n c k mv j))) j)) (nI j)) (fun _ _ => True) (hN n c k mv) 0 b (Nat.zero_le _) trivial ?_ ?_) (fun z hz => ⟨z, hz⟩)
    · intro z s _
      exact pk_le (hN n c k mv) (hN n c k mv) (fun _ => h' s) (fun z => absurd z (by omega))
    · intro z j s hj0 _ hw
      have hb := (hj_spec hj0).1
      refine pk_le (hN n c k mv) j (fun z => absurd z (by omega)) (fun _ => ⟨pk_in j 16384 (by omega), ?_⟩)
      rw [nI_clamp (show j < 2 ^ 31 by omega), hj_row g3 hj0]
      exact w_look hM.1 hc hc4 (by omega) (fun cf' hcf => w_fitNow hE hM.1 hc hc4 hcf (b2_c _ (fun q => nm_r (ct_n0 (P := fun j => fitB n ed (col n c (hj n c k mv j))) q) (nm_r (nI_1 j) (hw cf' trivial))) (fun q => nm_r (ct_y (P := fun j => fitB n ed (col n c (hj n c k mv j))) q) (nm_r (nI_1 j) (hw cf' trivial)))))
theorem mo_sum {post : Int64 → Int32 → Int32 → (Nat → Int32) → (Nat → Int32) → (Nat → Int32) → (Nat → Int32) → (Nat → Int32) → (Nat → Int32) → (Nat → Int32) → Prop} {n c k : Nat} {mv : Nat → Nat} {ho hm : Int32} {mr wt todo cf tn heads mates hl ranks : Nat → Int32} (hk : Pk n c k mv) (hmr : ∀ i, i < k → mr i = nI (mv i)) (hT : MT n c k mv ho hm heads mates hl ranks)
    (h : ∀ ho' hm' todo' cf' tn' heads' mates' hl' ranks', MT n c k mv ho' hm' heads' mates' hl' ranks' → post (sL (fun j => pw (fun x => (wt (col n c (hj n c k mv j) x)).toInt64) n) (hN n c k mv)) ho' hm' todo' cf' tn' heads' mates' hl' ranks') : wp_Mo_sum post (nI n) (nI c) (nI (c ^ n)) (nI k) ho hm mr wt todo cf tn heads mates hl ranks := by
  have hN0 := hN_le hk
  have hNn := hk.N
  obtain ⟨hn0, hc, hc4, hM⟩ := id hk
  have hn := hM.1
  unfold wp_Mo_sum
  refine w_findO hk hmr hT (fun t1 b d e f g i g0 _ g2 g3 _ => ?_)
  have h' := fun cf' => h _ _ t1 cf' d _ _ _ _ g0
  refine Exists.elim (pk_loop (fun z j (s : Nat → Int32) => L_Mo_sum_8 post (nI n) (nI c) 1 (nI (hN n c k mv)) wt t1 d e f g i z s (sL (fun j => pw (fun x => (wt (col n c (hj n c k mv j) x)).toInt64) n) j) (nI j)) (fun _ _ => True) (hN n c k mv) 0 b (Nat.zero_le _) trivial ?_ ?_) (fun z hz => ⟨z, hz⟩)
  · intro z s _
    exact pk_le (hN n c k mv) (hN n c k mv) (fun _ => h' s) (fun z => absurd z (by omega))
  · intro z j s hj0 _ hw
    have hb := (hj_spec hj0).1
    refine pk_le (hN n c k mv) j (fun z => absurd z (by omega)) (fun _ => ⟨pk_in j 16384 (by omega), ?_⟩)
    rw [nI_clamp (show j < 2 ^ 31 by omega), hj_row g3 hj0]
    refine w_look hM.1 hc hc4 (by omega) (fun cf' hcf => ?_)
    have hw' := hw cf' trivial
    refine lpU (fun z2 x => L_Mo_sum_32 (L_Mo_sum_8 post (nI n) (nI c) 1 (nI (hN n c k mv)) wt t1 d e f g i z) (nI n) wt cf' (sL (fun j => pw (fun x => (wt (col n c (hj n c k mv j) x)).toInt64) n) j) (nI j) z2 (pw (fun x => (wt (col n c (hj n c k mv j) x)).toInt64) x) (nI x)) n ?_ ?_
    · intro z2
      exact pk_le n n (fun _ => nm_r rfl (nm_r (nI_1 j) hw')) (fun z => absurd z (by omega))
    · intro z2 x hx hw2
      have hcl := col_lt (n := n) (p := hj n c k mv j) (x := x) hc
      refine pk_le n x (fun z => absurd z (by omega)) (fun _ => ⟨pk_in x 7 (by omega), ?_⟩)
      rw [nI_clamp (show x < 2 ^ 31 by omega), hcf x hx, nI_clamp (show col n c (hj n c k mv j) x < 2 ^ 31 by omega)]
      exact ⟨pk_in (col n c (hj n c k mv j) x) 4 (by omega), nm_r rfl (nm_r (nI_1 x) hw2)⟩
theorem pw_congr {f g : Nat → Int64} : ∀ n, (∀ x, x < n → f x = g x) → pw f n = pw g n
  | 0, _ => rfl
  | n + 1, h => by
    show pw f n * f n = pw g n * g n
    rw [pw_congr n (fun x hx => h x (by omega)), h n (by omega)]
theorem sL_congr {f g : Nat → Int64} : ∀ n, (∀ x, x < n → f x = g x) → sL f n = sL g n
  | 0, _ => rfl
  | n + 1, h => by
    show sL f n + f n = sL g n + g n
    rw [sL_congr n (fun x hx => h x (by omega)), h n (by omega)]
theorem sum_wt {n c k : Nat} {mv : Nat → Nat} {w1 w2 : Nat → Int32} (hc : 0 < c) (hc4 : c ≤ 4) (h : ∀ j, j < 4 → w1 j = w2 j) : sL (fun j => pw (fun x => (w1 (col n c (hj n c k mv j) x)).toInt64) n) (hN n c k mv) = sL (fun j => pw (fun x => (w2 (col n c (hj n c k mv j) x)).toInt64) n) (hN n c k mv) := by
  apply sL_congr
  intro j _
  apply pw_congr
  intro x _
  rw [h _ (Nat.lt_of_lt_of_le (col_lt hc) hc4)]
