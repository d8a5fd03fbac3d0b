/-! the reference's findOrbits -/
def MHd (n c k : Nat) (mv : Nat → Nat) (f : Nat → Int32) : Prop := ∀ q, q < c ^ n → f q = nI (hdP n c k mv q)
def MMt (n c k : Nat) (mv : Nat → Nat) (f : Nat → Int32) : Prop := ∀ h, h < c ^ n → isH n c k mv h = true → f h = nI (osz n c k mv h)
def MRk (n c k : Nat) (mv : Nat → Nat) (f : Nat → Int32) : Prop := ∀ h, h < c ^ n → isH n c k mv h = true → f h = nI (ct (isH n c k mv) h)
theorem w_findOrbits {post : Int32 → Int32 → (Nat → Int32) → (Nat → Int32) → (Nat → Int32) → (Nat → Int32) → (Nat → Int32) → (Nat → Int32) → (Nat → Int32) → Prop} {n c k : Nat} {mv : Nat → Nat} {ho hm : Int32} {mr todo cf tn heads mates hl ranks : Nat → Int32} (hk : Pk n c k mv) (hmr : ∀ i, i < k → mr i = nI (mv i))
    (hh : ho = 0 ∨ (ho = 1 ∧ hm = nI (hN n c k mv) ∧ MHd n c k mv heads ∧ MMt n c k mv mates ∧ THd n c k mv hl ∧ MRk n c k mv ranks))
    (h : ∀ todo' cf' tn' heads' mates' hl' ranks', MHd n c k mv heads' → MMt n c k mv mates' → THd n c k mv hl' → MRk n c k mv ranks' → post 1 (nI (hN n c k mv)) todo' cf' tn' heads' mates' hl' ranks') : wp_Mo_findOrbits post (nI n) (nI c) (nI (c ^ n)) (nI k) ho hm mr todo cf tn heads mates hl ranks := by
  have hN' := hk.N
  unfold wp_Mo_findOrbits
  rcases hh with e | ⟨e, e2, q1, q2, q3, q4⟩
  rotate_left
  · subst e e2
    exact ⟨fun z => absurd z (by decide), fun _ => h _ _ _ _ _ _ _ q1 q2 q3 q4⟩
  subst e
  refine ⟨fun _ => ?_, fun z => absurd rfl z⟩
  refine Exists.elim (pk_loop (σ := (Nat → Int32) × (Nat → Int32)) (fun j p s => L_Mo_findOrbits_15 post (nI n) (nI c) (nI (c ^ n)) (nI k) (1 : Int32) mr todo cf tn hl ranks j s.1 s.2 (nI p)) (fun p s => (∀ q, q < p → s.1 q = -1) ∧ ∀ q, q < p → s.2 q = 0) 16384 0 (heads, mates) (Nat.zero_le _) ⟨fun q hq => absurd hq (by omega), fun q hq => absurd hq (by omega)⟩ ?_ ?_) (fun j hj => ⟨j, hj⟩)
  rotate_left
  · intro j p s hp hs hw
    refine pk_le 16384 p (fun z => absurd z (by omega)) (fun _ => ⟨pk_in p 16384 hp, pk_in p 16384 hp, nm_r (nI_1 p) (hw (_, _) ⟨?_, ?_⟩)⟩)
    · exact zz_fill (f := fun _ => -1) (nI_clamp (by omega)) hs.1 rfl
    · exact zz_fill (f := fun _ => 0) (nI_clamp (by omega)) hs.2 rfl
  rintro j ⟨h0, m0⟩ ⟨hs0, ms0⟩
  dsimp only at hs0 ms0
  refine pk_le 16384 16384 (fun _ => ?_) (fun z => absurd z (by omega))
  refine Exists.elim (pk_loop (σ := (Nat → Int32) × (Nat → Int32) × (Nat → Int32) × (Nat → Int32) × (Nat → Int32) × (Nat → Int32) × (Nat → Int32)) (fun j P s => L_Mo_findOrbits_49 post (nI n) (nI c) (nI (c ^ n)) (nI k) (1 : Int32) mr j (nI (ct (isH n c k mv) P)) s.1 s.2.1 s.2.2.1 s.2.2.2.1 s.2.2.2.2.1 s.2.2.2.2.2.1 s.2.2.2.2.2.2 (nI P)) (fun P s => (∀ q, q < 16384 → s.2.2.2.1 q = if SB n c k mv P q then nI (hdP n c k mv q) else -1) ∧ (∀ y, y < P → isH n c k mv y = true → s.2.2.2.2.1 y = nI (osz n c k mv y)) ∧ (∀ y, P ≤ y → y < 16384 → s.2.2.2.2.1 y = 0) ∧ (∀ y, y < P → isH n c k mv y = true → s.2.2.2.2.2.1 (ct (isH n c k mv) y) = nI y) ∧ ∀ y, y < P → isH n c k mv y = true → s.2.2.2.2.2.2 y = nI (ct (isH n c k mv) y)) (c ^ n) 0 (todo, cf, tn, h0, m0, hl, ranks) (Nat.zero_le _) ⟨fun q hq => ?_, fun y hy => absurd hy (by omega), fun y _ hy => ms0 y hy, fun y hy => absurd hy (by omega), fun y hy => absurd hy (by omega)⟩ ?_ ?_) (fun j hj => ⟨j, hj⟩)
  · show h0 q = _
    rw [hs0 q hq, if_neg (fun z => by have := (SB_iff.mp z).2; omega)]
  · rintro j ⟨td, cf1, tn1, hd1, mt1, hl1, rk1⟩ ⟨g1, g2, g3, g4, g5⟩
    dsimp only at g1 g2 g3 g4 g5
    refine pk_le (c ^ n) (c ^ n) (fun _ => h td cf1 tn1 hd1 mt1 hl1 rk1 (fun q hq => ?_) g2 g4 g5) (fun z => absurd z (by omega))
    rw [g1 q (by omega), if_pos (SB_iff.mpr ⟨hq, by have := hd_le (n := n) (c := c) (k := k) (mv := mv) q; omega⟩)]
  · rintro j P ⟨td, cf1, tn1, hd1, mt1, hl1, rk1⟩ hP ⟨g1, g2, g3, g4, g5⟩ hw
    dsimp only at g1 g2 g3 g4 g5
    have hcP : ct (isH n c k mv) P ≤ P := ct_le _ _
    refine pk_le (c ^ n) P (fun z => absurd z (by omega)) (fun _ => ⟨pk_in P 16384 (by omega), ?_⟩)
    dsimp only
    rw [nI_clamp (show P < 2 ^ 31 by omega), g1 P (by omega)]
    cases eH : isH n c k mv P with
    | true =>
      have hh := isH_iff.mp eH
      rw [if_neg (fun z => by have := (SB_iff.mp z).2; omega)]
      refine ⟨fun _ => ⟨pk_in P 16384 (by omega), pk_in (ct (isH n c k mv) P) 16384 (by omega), nm_r (nI_1 _) ?_⟩, fun z => absurd rfl z⟩
      rw [nI_clamp (show ct (isH n c k mv) P < 2 ^ 31 by omega)]
      refine w_joinsM hk hmr hP hh g1 (g3 P (Nat.le_refl _) (by omega)) (fun td2 cf2 tn2 hd2 mt2 q1 q2 q3 => nm_r (nI_1 P) ?_)
      have hw' := hw (td2, cf2, tn2, hd2, mt2, upd hl1 (ct (isH n c k mv) P) (nI P), upd rk1 P (nI (ct (isH n c k mv) P))) ⟨q1, fun y hy hyH => ?_, fun y h1 h2 => ?_, fun y hy hyH => ?_, fun y hy hyH => ?_⟩
      · rw [ct_succ, eH] at hw'
        exact hw'
      · show mt2 y = _
        by_cases e : y = P
        · rw [e]; exact q2
        · rw [q3 y e]
          exact g2 y (by omega) hyH
      · show mt2 y = _
        rw [q3 y (by omega)]
        exact g3 y (by omega) h2
      · show upd hl1 _ _ _ = _
        by_cases e : y = P
        · rw [e, pk_us]
        · rw [pk_un (by have := ct_lt (show y < P by omega) hyH; omega)]
          exact g4 y (by omega) hyH
      · show upd rk1 _ _ _ = _
        by_cases e : y = P
        · rw [e, pk_us]
        · rw [pk_un e]
          exact g5 y (by omega) hyH
    | false =>
      have hlt : hdP n c k mv P < P := by
        have := hd_le (n := n) (c := c) (k := k) (mv := mv) P
        rcases Nat.lt_or_ge (hdP n c k mv P) P with y | y
        · exact y
        · have e : isH n c k mv P = true := isH_iff.mpr (by omega)
          rw [e] at eH; cases eH
      rw [if_pos (SB_iff.mpr ⟨hP, hlt⟩)]
      refine ⟨fun z => absurd z (nI_m1 (by omega)), fun _ => nm_r (nI_1 P) ?_⟩
      have ne : ∀ y, y < P + 1 → isH n c k mv y = true → y < P := fun y hy hyH => by
        by_cases e : y = P
        · rw [e, eH] at hyH; cases hyH
        · omega
      have hw' := hw (td, cf1, tn1, hd1, mt1, hl1, rk1) ⟨fun q hq => by show hd1 q = _; rw [g1 q hq, SB_skip eH], fun y hy hyH => g2 y (ne y hy hyH) hyH, fun y h1 h2 => g3 y (by omega) h2, fun y hy hyH => g4 y (ne y hy hyH) hyH, fun y hy hyH => g5 y (ne y hy hyH) hyH⟩
      rw [ct_succ, eH] at hw'
      exact hw'
