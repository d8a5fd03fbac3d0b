/-! what the calls share -/
theorem y1 {A B : Prop} (h : B) : ((1 : Int32) = 0 → A) ∧ (¬ (1 : Int32) = 0 → B) := ⟨fun z => absurd z (by decide), fun _ => h⟩
theorem y0 {A B : Prop} (h : A) : ((0 : Int32) = 0 → A) ∧ (¬ (0 : Int32) = 0 → B) := ⟨fun _ => h, fun z => absurd rfl z⟩
noncomputable def atI (N : Nat) (a : Int32) (f : Nat → Int32) (d : Int32) : Int32 := @ite _ (∃ j, j < N ∧ a = nI j) (Classical.propDecidable _) (f a.toNatClampNeg) d
theorem atI_in {N j : Nat} {f : Nat → Int32} {d : Int32} (hN : N ≤ 2 ^ 31) (hj : j < N) : atI N (nI j) f d = f j := by
  unfold atI
  rw [if_pos ⟨j, hj, rfl⟩, nI_clamp (by omega)]
theorem atI_out {N : Nat} {a : Int32} {f : Nat → Int32} {d : Int32} (h : ∀ j, j < N → a ≠ nI j) : atI N a f d = d := by
  unfold atI
  rw [if_neg (fun ⟨j, hj, e⟩ => h j hj e)]
theorem w_isPoint {post : Int32 → Prop} {n : Nat} {a : Int32} (hn : n < 2 ^ 30) (h1 : ∀ j, j < n → a = nI j → post 1) (h0 : (∀ j, j < n → a ≠ nI j) → post 0) : wp_SO_isPoint post (nI n) a := by
  unfold wp_SO_isPoint
  rcases pk_ix a (show n < 2 ^ 31 by omega) with g | g | ⟨j, hj, rfl⟩
  · exact ⟨fun _ => h0 (fun j hj e => absurd g (by rw [e]; exact nI_pos (by omega))), fun z => absurd g z⟩
  · refine ⟨fun z => h0 (fun j hj e => absurd z (by rw [e]; exact nI_pos (by omega))), fun _ => ⟨fun _ => h0 (fun j hj e => ?_), fun z => absurd g z⟩⟩
    rw [e] at g
    exact absurd g (nI_ge hj (by omega))
  · exact ⟨fun z => absurd z (nI_pos (by omega)), fun _ => ⟨fun z => absurd z (nI_ge hj (by omega)), fun _ => h1 j hj rfl⟩⟩
theorem w_isShare {post : Int32 → Prop} {n : Nat} {a : Int32} (hn : n < 2 ^ 30) (h1 : ∀ j, j ≤ n → a = nI j → post 1) (h0 : (∀ j, j ≤ n → a ≠ nI j) → post 0) : wp_SO_isShare post (nI n) a := by
  unfold wp_SO_isShare
  rcases pk_ix a (show n + 1 < 2 ^ 31 by omega) with g | g | ⟨j, hj, rfl⟩
  · exact ⟨fun _ => h0 (fun j hj e => absurd g (by rw [e]; exact nI_pos (by omega))), fun z => absurd g z⟩
  · have ho : ∀ j, j ≤ n → a ≠ nI j := fun j hj e => by
      rw [e] at g
      exact absurd g (nI_ge (by omega) (by omega))
    have g2 : nI n < a := by
      have ha : ¬ a < 0 := fun z => by
        have := Int32.lt_of_le_of_lt g z
        exact nI_pos (by omega) this
      obtain ⟨b, hb, rfl⟩ := nI_of ha
      have := (nI_leI (by omega) hb).mp g
      exact nI_lt (by omega) hb
    exact ⟨fun _ => h0 ho, fun _ => ⟨fun _ => h0 ho, fun z => absurd g2 z⟩⟩
  · exact ⟨fun z => absurd z (nI_pos (by omega)), fun _ => ⟨fun z => absurd z (nI_nlt (by omega) (by omega)), fun _ => h1 j (by omega) rfl⟩⟩
theorem w_within0 {post : Int32 → Prop} {n : Nat} {a : Int32} (hn : n < 2 ^ 30) (h1 : ∀ j, j ≤ n → a = nI j → post 1) (h0 : (∀ j, j ≤ n → a ≠ nI j) → post 0) : wp_Mo_within post a 0 (nI n) := w_isShare hn h1 h0
theorem w_within1 {post : Int32 → Prop} {n : Nat} {a : Int32} (hn : n < 2 ^ 30) (h1 : ∀ j, 0 < j → j ≤ n → a = nI j → post 1) (h0 : (∀ j, 0 < j → j ≤ n → a ≠ nI j) → post 0) : wp_Mo_within post a 1 (nI n) := by
  unfold wp_Mo_within
  refine ⟨fun z => h0 (fun j h j2 e => ?_), fun z => w_within0 (post := fun r => post r) hn (fun j hj e => ?_) (fun q => h0 (fun j _ hj => q j hj)) |>.2 (fun q => z ?_)⟩
  · rw [e] at z
    exact absurd z (nI_nlt (b := 1) h (by omega))
  · refine h1 j ?_ hj e
    rcases Nat.eq_zero_or_pos j with r | r
    · exfalso
      apply z
      rw [e, r]
      decide
    · exact r
  · exact Int32.lt_trans q (by decide)
/-! the group that is known -/
def CG (n k : Nat) (mv : Nat → Nat) (gk gp gs : Int32) (gr gn : Nat → Int32) : Prop := gk = 0 ∨ (gk = 1 ∧ gp = nI n ∧ gs = nI (ord n k mv) ∧ GRows n k mv gr ∧ GNum n k mv gn)
def CT (n c k : Nat) (mv : Nat → Nat) (tk tc : Int32) (tr th ts : Nat → Int32) : Prop := tk = 0 ∨ (tk = 1 ∧ tc = nI (hN n c k mv) ∧ TRk n c k mv tr ∧ THd n c k mv th ∧ TSz n c k mv ts)
def MG (n k : Nat) (mv : Nat → Nat) (hg od : Int32) (isIn rows nums : Nat → Int32) : Prop := hg = 0 ∨ (hg = 1 ∧ od = nI (ord n k mv) ∧ GIn n k mv isIn ∧ GRows n k mv rows ∧ GNumM n k mv nums)
def MT (n c k : Nat) (mv : Nat → Nat) (ho hm : Int32) (heads mates hl ranks : Nat → Int32) : Prop := ho = 0 ∨ (ho = 1 ∧ hm = nI (hN n c k mv) ∧ MHd n c k mv heads ∧ MMt n c k mv mates ∧ THd n c k mv hl ∧ MRk n c k mv ranks)
theorem w_knownGroup {post : Int32 → Int32 → Int32 → (Nat → Int32) → (Nat → Int32) → (Nat → Int32) → Prop} {n k : Nat} {mv : Nat → Nat} {gk gp gs : Int32} {mr gr gb gn : Nat → Int32} (hM : MvOk n k mv) (hmr : ∀ i, i < k → mr i = nI (mv i)) (hG : CG n k mv gk gp gs gr gn)
    (h : ∀ rows' rbp' nbp', CG n k mv 1 (nI n) (nI (ord n k mv)) rows' nbp' → GRows n k mv rows' → GNum n k mv nbp' → post 1 (nI n) (nI (ord n k mv)) rows' rbp' nbp') : wp_SO_knownGroup post gk (nI k) mr (nI n) gp gs gr gb gn := by
  unfold wp_SO_knownGroup
  rcases hG with z | ⟨rfl, rfl, rfl, z4, z5⟩
  · refine ⟨fun _ => w_close hM hmr (fun r b m h1 h2 => h r b m (Or.inr ⟨rfl, rfl, rfl, h1, h2⟩) h1 h2), fun q => absurd z q⟩
  · exact ⟨fun q => absurd q (by decide), fun _ => h gr gb gn (Or.inr ⟨rfl, rfl, rfl, z4, z5⟩) z4 z5⟩
theorem w_knownTable {post : Int32 → Int32 → Int32 → (Nat → Int32) → (Nat → Int32) → (Nat → Int32) → (Nat → Int32) → Prop} {n c k : Nat} {mv : Nat → Nat} {tk tf tc : Int32} {mr u tr th ts td : Nat → Int32} (hk : Pk n c k mv) (hu : Un n c u) (hmr : ∀ i, i < k → mr i = nI (mv i)) (hT : CT n c k mv tk tc tr th ts)
    (h : ∀ (x : Int32) (r' h' s' d' : Nat → Int32), CT n c k mv 1 (nI (hN n c k mv)) r' h' s' → TRk n c k mv r' → THd n c k mv h' → TSz n c k mv s' → post 1 x (nI (hN n c k mv)) r' h' s' d') : wp_SO_knownTable post tk (nI k) mr (nI n) (nI c) (nI (c ^ n)) u tf tc tr th ts td := by
  unfold wp_SO_knownTable
  rcases hT with z | ⟨rfl, rfl, z3, z4, z5⟩
  · refine ⟨fun _ => w_build hk hu hmr (fun x r a s d h1 h2 h3 => h x r a s d (Or.inr ⟨rfl, rfl, h1, h2, h3⟩) h1 h2 h3), fun q => absurd z q⟩
  · exact ⟨fun q => absurd q (by decide), fun _ => h tf tr th ts td (Or.inr ⟨rfl, rfl, z3, z4, z5⟩) z3 z4 z5⟩
theorem w_findG {post : Int32 → Int32 → (Nat → Int32) → (Nat → Int32) → (Nat → Int32) → (Nat → Int32) → (Nat → Int32) → Prop} {n k : Nat} {mv : Nat → Nat} {hg od : Int32} {mr im fa isIn rows nums todo : Nat → Int32} (hM : MvOk n k mv) (hmr : ∀ i, i < k → mr i = nI (mv i)) (hF : Fac fa) (hh : MG n k mv hg od isIn rows nums)
    (h : ∀ im' isIn' rows' nums' todo', MG n k mv 1 (nI (ord n k mv)) isIn' rows' nums' → GIn n k mv isIn' → GRows n k mv rows' → GNumM n k mv nums' → post 1 (nI (ord n k mv)) im' isIn' rows' nums' todo') : wp_Mo_findGroup post (nI n) (nI k) hg od mr im fa isIn rows nums todo :=
  w_findGroup hM hmr hF hh (fun a b c d e h1 h2 h3 => h a b c d e (Or.inr ⟨rfl, rfl, h1, h2, h3⟩) h1 h2 h3)
theorem w_findO {post : Int32 → Int32 → (Nat → Int32) → (Nat → Int32) → (Nat → Int32) → (Nat → Int32) → (Nat → Int32) → (Nat → Int32) → (Nat → Int32) → Prop} {n c k : Nat} {mv : Nat → Nat} {ho hm : Int32} {mr todo cf tn heads mates hl ranks : Nat → Int32} (hk : Pk n c k mv) (hmr : ∀ i, i < k → mr i = nI (mv i)) (hh : MT n c k mv ho hm heads mates hl ranks)
    (h : ∀ todo' cf' tn' heads' mates' hl' ranks', MT n c k mv 1 (nI (hN n c k mv)) heads' mates' hl' ranks' → MHd n c k mv heads' → MMt n c k mv mates' → THd n c k mv hl' → MRk n c k mv ranks' → post 1 (nI (hN n c k mv)) todo' cf' tn' heads' mates' hl' ranks') : wp_Mo_findOrbits post (nI n) (nI c) (nI (c ^ n)) (nI k) ho hm mr todo cf tn heads mates hl ranks :=
  w_findOrbits hk hmr hh (fun a b c d e f g h1 h2 h3 h4 => h a b c d e f g (Or.inr ⟨rfl, rfl, h1, h2, h3, h4⟩) h1 h2 h3 h4)
theorem ord_pos (n k : Nat) (mv : Nat → Nat) (hn : n ≤ 7) : 0 < ord n k mv := Nat.lt_of_le_of_lt (Nat.zero_le (ct (gi n k mv) (rkR n (idR n)))) (ct_lt (rk_lt hn) gi_id)
theorem w_isNumber {post : Int32 → Int32 → Int32 → (Nat → Int32) → (Nat → Int32) → (Nat → Int32) → (Nat → Int32) → (Nat → Int32) → Prop} {n k : Nat} {mv : Nat → Nat} {hg od a : Int32} {mr im fa isIn rows nums todo : Nat → Int32} (hM : MvOk n k mv) (hmr : ∀ i, i < k → mr i = nI (mv i)) (hF : Fac fa) (hh : MG n k mv hg od isIn rows nums)
    (h1 : ∀ j, j < ord n k mv → a = nI j → ∀ im' isIn' rows' nums' todo', MG n k mv 1 (nI (ord n k mv)) isIn' rows' nums' → GRows n k mv rows' → post 1 1 (nI (ord n k mv)) im' isIn' rows' nums' todo')
    (h0 : (∀ j, j < ord n k mv → a ≠ nI j) → ∀ im' isIn' rows' nums' todo', MG n k mv 1 (nI (ord n k mv)) isIn' rows' nums' → post 0 1 (nI (ord n k mv)) im' isIn' rows' nums' todo') : wp_Mo_isNumber post (nI n) (nI k) hg od mr im fa isIn rows nums todo a := by
  have ho := ord_le n k mv
  unfold wp_Mo_isNumber
  exact w_findG hM hmr hF hh (fun i s r m t g _ g2 _ => w_within (ord_pos n k mv hM.1) (by omega) (fun j hj e => ⟨Or.inr rfl, h1 j hj e i s r m t g g2⟩) (fun q => ⟨Or.inl rfl, h0 q i s r m t g⟩))
/-! the heads in their order -/
noncomputable def hj (n c k : Nat) (mv : Nat → Nat) (j : Nat) : Nat := @dite Nat (∃ h, h < c ^ n ∧ isH n c k mv h = true ∧ ct (isH n c k mv) h = j) (Classical.propDecidable _) (fun h => h.choose) (fun _ => 0)
theorem hj_spec {n c k : Nat} {mv : Nat → Nat} {j : Nat} (h : j < hN n c k mv) : hj n c k mv j < c ^ n ∧ isH n c k mv (hj n c k mv j) = true ∧ ct (isH n c k mv) (hj n c k mv j) = j := by
  have hx : ∃ h, h < c ^ n ∧ isH n c k mv h = true ∧ ct (isH n c k mv) h = j := ct_hit h
  unfold hj
  rw [dif_pos hx]
  exact hx.choose_spec
theorem hN_le {n c k : Nat} {mv : Nat → Nat} (h : Pk n c k mv) : hN n c k mv ≤ 16384 := Nat.le_trans (ct_le _ _) h.N
theorem hN_pos {n c k : Nat} {mv : Nat → Nat} (h : Pk n c k mv) : 0 < hN n c k mv := by
  have := ct_lt (P := isH n c k mv) (a := hdP n c k mv 0) (b := c ^ n) (Nat.lt_of_le_of_lt (hd_le 0) h.N0) (isH_hd 0)
  unfold hN
  omega
theorem hj_row {n c k : Nat} {mv : Nat → Nat} {th : Nat → Int32} (h : THd n c k mv th) {j : Nat} (hj0 : j < hN n c k mv) : th j = nI (hj n c k mv j) := by
  obtain ⟨h1, h2, h3⟩ := hj_spec hj0
  have := h _ h1 h2
  rw [h3] at this
  exact this
theorem hj_sz {n c k : Nat} {mv : Nat → Nat} {ts : Nat → Int32} (h : TSz n c k mv ts) {j : Nat} (hj0 : j < hN n c k mv) : ts j = nI (osz n c k mv (hj n c k mv j)) := by
  obtain ⟨h1, h2, h3⟩ := hj_spec hj0
  have := h _ h1 h2
  rw [h3] at this
  exact this
theorem osz_le (n c k : Nat) (mv : Nat → Nat) (h : Nat) : osz n c k mv h ≤ 16384 := ct_le _ _
theorem rk_hd {n c k : Nat} {mv : Nat → Nat} {q : Nat} (hq : q < c ^ n) : ct (isH n c k mv) (hdP n c k mv q) < hN n c k mv ∧ hj n c k mv (ct (isH n c k mv) (hdP n c k mv q)) = hdP n c k mv q := by
  have hl : hdP n c k mv q < c ^ n := Nat.lt_of_le_of_lt (hd_le q) hq
  have a : ct (isH n c k mv) (hdP n c k mv q) < hN n c k mv := ct_lt hl (isH_hd q)
  obtain ⟨h1, h2, h3⟩ := hj_spec a
  exact ⟨a, ct_uniq h2 (isH_hd q) h3⟩
theorem w_headAt {post : Int32 → Prop} {n c k : Nat} {mv : Nat → Nat} {th : Nat → Int32} {a : Int32} (hk : Pk n c k mv) (hT : THd n c k mv th) (h1 : ∀ j, j < hN n c k mv → a = nI j → post (nI (hj n c k mv j))) (h0 : (∀ j, j < hN n c k mv → a ≠ nI j) → post (-1)) : wp_Table_headAt post (nI (hN n c k mv)) th a := by
  have ho := hN_le hk
  unfold wp_Table_headAt
  rcases pk_ix a (show hN n c k mv < 2 ^ 31 by omega) with g | g | ⟨j, hj0, rfl⟩
  · exact ⟨fun _ => h0 (fun j hj e => absurd g (by rw [e]; exact nI_pos (by omega))), fun z => absurd g z⟩
  · refine ⟨fun z => h0 (fun j hj e => absurd z (by rw [e]; exact nI_pos (by omega))), fun _ => ⟨fun _ => h0 (fun j hj e => ?_), fun z => absurd g z⟩⟩
    rw [e] at g
    exact absurd g (nI_ge hj (by omega))
  · refine ⟨fun z => absurd z (nI_pos (by omega)), fun _ => ⟨fun z => absurd z (nI_ge hj0 (by omega)), fun _ => ⟨pk_in j 16384 (by omega), ?_⟩⟩⟩
    rw [nI_clamp (by omega), hj_row hT hj0]
    exact h1 j hj0 rfl
theorem w_headJ {post : Int32 → Prop} {n c k j : Nat} {mv : Nat → Nat} {th : Nat → Int32} (hk : Pk n c k mv) (hT : THd n c k mv th) (hj0 : j < hN n c k mv) (h : post (nI (hj n c k mv j))) : wp_Table_headAt post (nI (hN n c k mv)) th (nI j) := by
  have ho := hN_le hk
  refine w_headAt hk hT (fun i hi e => ?_) (fun q => absurd rfl (q j hj0))
  rw [(nI_eq (by omega) (by omega)).mp e] at h
  exact h
theorem w_sizeJ {post : Int32 → Prop} {n c k j : Nat} {mv : Nat → Nat} {ts : Nat → Int32} (hk : Pk n c k mv) (hT : TSz n c k mv ts) (hj0 : j < hN n c k mv) (h : post (nI (osz n c k mv (hj n c k mv j)))) : wp_Table_sizeAt post (nI (hN n c k mv)) ts (nI j) := by
  have ho := hN_le hk
  unfold wp_Table_sizeAt
  refine ⟨fun z => absurd z (nI_pos (by omega)), fun _ => ⟨fun z => absurd z (nI_ge hj0 (by omega)), fun _ => ⟨pk_in j 16384 (by omega), ?_⟩⟩⟩
  rw [nI_clamp (by omega), hj_sz hT hj0]
  exact h
theorem w_rankOf {post : Int32 → Prop} {n c k q : Nat} {mv : Nat → Nat} {tr : Nat → Int32} (hk : Pk n c k mv) (hT : TRk n c k mv tr) (hq : q < c ^ n) (h : post (nI (ct (isH n c k mv) (hdP n c k mv q)))) : wp_Table_rankOf post tr (nI q) := by
  have hN := hk.N
  unfold wp_Table_rankOf
  refine w_isCellT (by omega) (fun _ => y1 ⟨pk_in q 16384 (by omega), ?_⟩) (fun z => absurd (show q < 16384 by omega) z)
  rw [nI_clamp (by omega), hT q hq]
  exact h
theorem ct_y {P : Nat → Bool} {p : Nat} (h : P p = true) : nI (ct P p) + 1 = nI (ct P (p + 1)) := (ct_step true h).symm
theorem ct_n {P : Nat → Bool} {p : Nat} (h : P p = false) : nI (ct P (p + 1)) = nI (ct P p) := by rw [ct_succ, h]; rfl
theorem ct_n0 {P : Nat → Bool} {p : Nat} (h : P p = false) : nI (ct P p) + 0 = nI (ct P (p + 1)) := (ct_step false h).symm
theorem w_countOfSize {post : Int32 → Prop} {n c k S : Nat} {mv : Nat → Nat} {ts : Nat → Int32} (hk : Pk n c k mv) (hT : TSz n c k mv ts) (hS : S < 2 ^ 31) (h : post (nI (ct (fun j => osz n c k mv (hj n c k mv j) == S) (hN n c k mv)))) : wp_Table_countOfSize post (nI (hN n c k mv)) ts (nI S) := by
  have ho := hN_le hk
  refine lpU (fun f j => L_Table_countOfSize_4 post (nI (hN n c k mv)) ts (nI S) f (nI (ct (fun j => osz n c k mv (hj n c k mv j) == S) j)) (nI j)) (hN n c k mv) ?_ ?_
  · intro f
    exact pk_le (hN n c k mv) (hN n c k mv) (fun _ => h) (fun z => absurd z (by omega))
  · intro f j hj0 hw
    have hs := osz_le n c k mv (hj n c k mv j)
    refine pk_le (hN n c k mv) j (fun z => absurd z (by omega)) (fun _ => ⟨pk_in j 16384 (by omega), ?_⟩)
    rw [nI_clamp (by omega), hj_sz hT hj0]
    refine pk_eq _ _ (fun z => nm_r (ct_y (P := fun j => osz n c k mv (hj n c k mv j) == S) (beq_iff_eq.mpr z)) (nm_r (nI_1 j) hw)) (fun z => nm_r (nI_1 j) ?_) rfl rfl (by omega) hS
    rw [ct_n (P := fun j => osz n c k mv (hj n c k mv j) == S) (beq_eq_false_iff_ne.mpr z)] at hw
    exact hw
