/-! the class's table of orbits -/
def FD (n c k : Nat) (mv : Nat → Nat) (P : Nat) (S : Nat → Bool) (found : Nat → Int32) (d : Nat) : Prop := ∀ i, i < d → ∀ q, TS n c k mv S P q = true → found i = nI q → ∀ m, m < k → S (act n c (mv m) q) = true
def Un (n c : Nat) (u : Nat → Int32) : Prop := ∀ j, j < 8 → u j = nI (c ^ (n - 1 - j))
theorem FI.lt {n c k P s : Nat} {mv : Nat → Nat} {S : Nat → Bool} {ranks found : Nat → Int32} (h : FI n c k mv P S s ranks found) {q : Nat} (hq : TS n c k mv S P q = true) : q < c ^ n ∧ hdP n c k mv q = P := ⟨(h.1.1 q (TS_iff.mp hq).1).1, (TS_iff.mp hq).2⟩
theorem FD.mono {n c k P s s' d : Nat} {mv : Nat → Nat} {S S' : Nat → Bool} {ranks found ranks' found' : Nat → Int32} (hk : Pk n c k mv) (hI : FI n c k mv P S s ranks found) (hI' : FI n c k mv P S' s' ranks' found') (hd : d ≤ s) (h : FD n c k mv P S found d) (hS : ∀ p, S p = true → S' p = true) (hr : ∀ i, i < s → found' i = found i) : FD n c k mv P S' found' d := by
  have hN := hk.N
  intro i hi p hp e m hm
  rw [hr i (by omega)] at e
  obtain ⟨q, hq, e2⟩ := hI.2.2.2.1 i (by omega)
  have h1 := (hI.lt hq).1
  have h2 := (hI'.lt hp).1
  have : p = q := ((nI_eq (by omega) (by omega)).mp (by rw [← e, e2] : nI p = nI q))
  subst this
  exact hS _ (h i hi p hq e m hm)
theorem w_flood {post : Int32 → Int32 → (Nat → Int32) → (Nat → Int32) → Prop} {n c k P : Nat} {mv : Nat → Nat} {ranks found u mr : Nat → Int32} (hk : Pk n c k mv) (hu : Un n c u) (hmr : ∀ i, i < k → mr i = nI (mv i)) (hP : P < c ^ n) (hh : hdP n c k mv P = P)
    (hr : ∀ q, q < 16384 → ranks q = if SB n c k mv P q then nI (ct (isH n c k mv) (hdP n c k mv q)) else -1)
    (h : ∀ (s' : Int32) (ranks' found' : Nat → Int32), (∀ q, q < 16384 → ranks' q = if SB n c k mv (P + 1) q then nI (ct (isH n c k mv) (hdP n c k mv q)) else -1) → post (nI (osz n c k mv P)) s' ranks' found') : wp_Table_flood post (nI (ct (isH n c k mv) P)) ranks found (nI n) (nI c) u (nI k) mr (nI P) := by
  have hN := hk.N
  have hn := hk.2.2.2.1
  have hk5 := hk.2.2.2.2.1
  have hc := hk.2.1
  have hc4 := hk.2.2.1
  have noT : ∀ q, TS n c k mv (SB n c k mv P) P q = false := fun q => by
    cases e : TS n c k mv (SB n c k mv P) P q with
    | false => rfl
    | true =>
      obtain ⟨a, b⟩ := TS_iff.mp e
      have := (SB_iff.mp a).2
      omega
  have hI0 : FI n c k mv P (SB n c k mv P) 0 ranks found := ⟨OS.base P, ((ct_congr 16384 (fun q _ => noT q)).trans (sm_zero 16384)).symm, hr, fun i hi => absurd hi (by omega), fun q hq => by rw [noT q] at hq; cases hq⟩
  unfold wp_Table_flood
  refine w_findT hk hI0 hP (by omega) (fun S1 s1 rk1 fd1 hI1 _ hS1 _ _ => ?_)
  refine Exists.elim (lp4 (L_Table_flood_13 post (nI (ct (isH n c k mv) P)) (nI n) (nI c) u (nI k) mr) (fun a1 a2 a3 a4 => ∃ (S : Nat → Bool) (s d : Nat), a1 = nI s ∧ a4 = nI d ∧ FI n c k mv P S s a2 a3 ∧ S P = true ∧ d ≤ s ∧ FD n c k mv P S a3 d) (fun _ _ _ a4 => 16384 - a4.toNatClampNeg) ?_ (nI s1) rk1 fd1 (nI 0) ⟨S1, s1, 0, rfl, rfl, hI1, hS1, Nat.zero_le _, fun i hi => absurd hi (by omega)⟩) (fun j hj => ⟨j, hj⟩)
  rintro j a1 a2 a3 a4 ⟨S, s, d, rfl, rfl, hI, hS0, hds, hD⟩ ih
  have hs5 : s ≤ 16384 := by rw [hI.2.1]; exact ct_le _ _
  have fin : d = s → post (nI s) (nI s) a2 a3 := by
    intro e
    have hall := OS.full hk hI.1 hS0 hh (fun q m hq hqP hm => by
      obtain ⟨i, hi, e2⟩ := hI.2.2.2.2 q (TS_iff.mpr ⟨hq, hqP⟩)
      exact hD i (by omega) q (TS_iff.mpr ⟨hq, hqP⟩) e2 m hm)
    have es : s = osz n c k mv P := by rw [hI.2.1, osz_eq hall]
    have := h (nI s) a2 a3 (fun q hq => by rw [hI.2.2.1 q hq, hall q])
    rw [← es] at this
    exact this
  refine pk_le s d (fun z => fin (by omega)) (fun z => pk_le 16384 d (fun z2 => absurd z2 (by omega)) (fun z2 => ⟨pk_in d 16384 z2, ?_⟩))
  obtain ⟨q0, hq0, e0⟩ := hI.2.2.2.1 d z
  have hlt0 := (hI.lt hq0).1
  have hhd0 := (hI.lt hq0).2
  rw [nI_clamp (show d < 2 ^ 31 by omega), e0]
  refine w_spread hn hc hc4 (by omega) ?_
  refine Exists.elim (pk_loop (σ := (Nat → Bool) × Nat × (Nat → Int32) × (Nat → Int32)) (fun j2 m st => L_Table_flood_46 (L_Table_flood_13 post (nI (ct (isH n c k mv) P)) (nI n) (nI c) u (nI k) mr j) (nI (ct (isH n c k mv) P)) (nI n) u (nI k) mr (nI d) (nI (spd n c q0)) j2 (nI st.2.1) st.2.2.1 st.2.2.2 (nI m)) (fun m st => FI n c k mv P st.1 st.2.1 st.2.2.1 st.2.2.2 ∧ st.1 P = true ∧ d < st.2.1 ∧ FD n c k mv P st.1 st.2.2.2 d ∧ st.2.2.2 d = nI q0 ∧ ∀ m', m' < m → st.1 (act n c (mv m') q0) = true) k 0 (S, s, a2, a3) (Nat.zero_le _) ⟨hI, hS0, z, hD, e0, fun m' hm' => absurd hm' (by omega)⟩ ?_ ?_) (fun j2 hj2 => ⟨j2, hj2⟩)
  · rintro j2 ⟨S2, s2, r2, f2⟩ ⟨g1, g2, g3, g4, g5, g7⟩
    dsimp only at g1 g2 g3 g4 g5 g7
    refine pk_le k k (fun _ => nm_r (nI_1 d) (ih _ _ _ _ ⟨S2, s2, d + 1, rfl, rfl, g1, g2, g3, fun i hi p hp e m hm => ?_⟩ ?_)) (fun y => absurd y (by omega))
    · by_cases ei : i = d
      · have e' : f2 i = nI p := e
        rw [ei, g5] at e'
        have h2 := (g1.lt hp).1
        have : q0 = p := (nI_eq (by omega) (by omega)).mp e'
        rw [← this]
        exact g7 m hm
      · exact g4 i (by omega) p hp e m hm
    · rw [nI_clamp (by omega), nI_clamp (by omega)]
      omega
  · rintro j2 m ⟨S2, s2, r2, f2⟩ hm ⟨g1, g2, g3, g4, g5, g7⟩ hw
    dsimp only at g1 g2 g3 g4 g5 g7
    have hPm := hk.2.2.2.2.2 m hm
    have hmlt := isP_lt hn hPm
    refine pk_le k m (fun y => absurd y (by omega)) (fun _ => ⟨pk_in m 5 (by omega), ?_⟩)
    rw [nI_clamp (show m < 2 ^ 31 by omega), hmr m hm]
    refine w_moved hn hc hc4 hu (by omega) ?_
    refine w_findT hk g1 (act_lt hc hPm) (by have := hd_act (n := n) (c := c) (k := k) (mv := mv) (q := q0) hm; omega) (fun S3 s3 r3 f3 q1 q2 q3 q4 q5 => nm_r (nI_1 m) ?_)
    refine hw (S3, s3, r3, f3) ⟨q1, q2 _ g2, Nat.lt_of_lt_of_le g3 q4, FD.mono hk g1 q1 (Nat.le_of_lt g3) g4 q2 q5, ?_, fun m' hm' => ?_⟩
    · show f3 d = _
      rw [q5 d g3]
      exact g5
    · by_cases e : m' = m
      · rw [e]; exact q3
      · exact q2 _ (g7 m' (by omega))
/-- the table as it is when it is made -/
noncomputable def hN (n c k : Nat) (mv : Nat → Nat) : Nat := ct (isH n c k mv) (c ^ n)
def TRk (n c k : Nat) (mv : Nat → Nat) (ranks : Nat → Int32) : Prop := ∀ q, q < c ^ n → ranks q = nI (ct (isH n c k mv) (hdP n c k mv q))
def THd (n c k : Nat) (mv : Nat → Nat) (heads : Nat → Int32) : Prop := ∀ h, h < c ^ n → isH n c k mv h = true → heads (ct (isH n c k mv) h) = nI h
def TSz (n c k : Nat) (mv : Nat → Nat) (sizes : Nat → Int32) : Prop := ∀ h, h < c ^ n → isH n c k mv h = true → sizes (ct (isH n c k mv) h) = nI (osz n c k mv h)
theorem w_build {post : Int32 → Int32 → (Nat → Int32) → (Nat → Int32) → (Nat → Int32) → (Nat → Int32) → Prop} {n c k : Nat} {mv : Nat → Nat} {fc0 : Int32} {ranks heads sizes found u mr : Nat → Int32} (hk : Pk n c k mv) (hu : Un n c u) (hmr : ∀ i, i < k → mr i = nI (mv i))
    (h : ∀ (x : Int32) (ranks' heads' sizes' found' : Nat → Int32), TRk n c k mv ranks' → THd n c k mv heads' → TSz n c k mv sizes' → post x (nI (hN n c k mv)) ranks' heads' sizes' found') : wp_Table_build post fc0 ranks heads sizes found (nI n) (nI c) (nI (c ^ n)) u (nI k) mr := by
  have hN' := hk.N
  unfold wp_Table_build
  refine w_fill (by omega) (fun rb0 hrb0 => ?_)
  have key := pk_loop (σ := Int32 × (Nat → Int32) × (Nat → Int32) × (Nat → Int32) × (Nat → Int32)) (fun j P s => L_Table_build_15 post (nI n) (nI c) (nI (c ^ n)) u (nI k) mr j s.1 (nI (ct (isH n c k mv) P)) s.2.1 s.2.2.1 s.2.2.2.1 s.2.2.2.2 (nI P)) (fun P s => (∀ q, q < 16384 → s.2.1 q = if SB n c k mv P q then nI (ct (isH n c k mv) (hdP n c k mv q)) else -1) ∧ (∀ h, h < P → isH n c k mv h = true → s.2.2.1 (ct (isH n c k mv) h) = nI h) ∧ ∀ h, h < P → isH n c k mv h = true → s.2.2.2.1 (ct (isH n c k mv) h) = nI (osz n c k mv h)) (c ^ n) 0 (fc0, rb0, heads, sizes, found) (Nat.zero_le _) ⟨fun q hq => ?_, fun q hq => absurd hq (by omega), fun q hq => absurd hq (by omega)⟩ ?_ ?_
  · obtain ⟨j, hj⟩ := key
    exact ⟨j, hj⟩
  · show rb0 q = _
    rw [hrb0 q hq, if_neg (fun z => by have := (SB_iff.mp z).2; omega)]
  · rintro j ⟨x, rk1, hd1, sz1, fd1⟩ ⟨g1, g2, g3⟩
    dsimp only at g1 g2 g3
    refine pk_le (c ^ n) (c ^ n) (fun _ => h x rk1 hd1 sz1 fd1 (fun q hq => ?_) g2 g3) (fun z => absurd z (by omega))
    rw [g1 q (by omega), if_pos (SB_iff.mpr ⟨hq, by have := hd_le (n := n) (c := c) (k := k) (mv := mv) q; omega⟩)]
  · rintro j P ⟨x, rk1, hd1, sz1, fd1⟩ hP ⟨g1, g2, g3⟩ hw
    dsimp only at g1 g2 g3
    have hcP : ct (isH n c k mv) P ≤ P := ct_le _ _
    refine pk_le (c ^ n) P (fun z => absurd z (by omega)) (fun _ => w_isCellT (by omega) (fun _ => ⟨fun z => absurd z (by decide), fun _ => ⟨pk_in P 16384 (by omega), ?_⟩⟩) (fun z => absurd (show P < 16384 by omega) z))
    dsimp only
    rw [nI_clamp (show P < 2 ^ 31 by omega), g1 P (by omega)]
    cases eH : isH n c k mv P with
    | true =>
      have hh := isH_iff.mp eH
      rw [if_neg (fun z => by have := (SB_iff.mp z).2; omega)]
      refine ⟨fun _ => w_isCellT (by omega) (fun _ => ⟨fun z => absurd z (by decide), fun _ => ⟨pk_in (ct (isH n c k mv) P) 16384 (by omega), ?_⟩⟩) (fun z => absurd (show ct (isH n c k mv) P < 16384 by omega) z), fun z => absurd rfl z⟩
      refine w_flood hk hu hmr hP hh g1 (fun s' rk2 fd2 q1 => ⟨pk_in (ct (isH n c k mv) P) 16384 (by omega), nm_r (nI_1 _) (nm_r (nI_1 P) ?_)⟩)
      rw [nI_clamp (show ct (isH n c k mv) P < 2 ^ 31 by omega)]
      have hw' := hw (s', rk2, upd hd1 (ct (isH n c k mv) P) (nI P), upd sz1 (ct (isH n c k mv) P) (nI (osz n c k mv P)), fd2) ⟨q1, fun y hy hyH => ?_, fun y hy hyH => ?_⟩
      · rw [ct_succ, eH] at hw'
        exact hw'
      · show upd hd1 _ _ _ = _
        by_cases e : y = P
        · rw [e, pk_us]
        · rw [pk_un (by have := ct_lt (show y < P by omega) hyH; omega)]
          exact g2 y (by omega) hyH
      · show upd sz1 _ _ _ = _
        by_cases e : y = P
        · rw [e, pk_us]
        · rw [pk_un (by have := ct_lt (show y < P by omega) hyH; omega)]
          exact g3 y (by omega) hyH
    | false =>
      have hlt : hdP n c k mv P < P := by
        have := hd_le (n := n) (c := c) (k := k) (mv := mv) P
        rcases Nat.lt_or_ge (hdP n c k mv P) P with y | y
        · exact y
        · have e : isH n c k mv P = true := isH_iff.mpr (by omega)
          rw [e] at eH; cases eH
      rw [if_pos (SB_iff.mpr ⟨hP, hlt⟩)]
      refine ⟨fun z => absurd z (nI_m1 (by have : ct (isH n c k mv) (hdP n c k mv P) ≤ hdP n c k mv P := ct_le _ _; omega)), fun _ => nm_r (nI_1 P) ?_⟩
      have hw' := hw (x, rk1, hd1, sz1, fd1) ⟨fun q hq => by show rk1 q = _; rw [g1 q hq, SB_skip eH], fun y hy hyH => ?_, fun y hy hyH => ?_⟩
      · rw [ct_succ, eH] at hw'
        exact hw'
      · by_cases e : y = P
        · rw [e, eH] at hyH; cases hyH
        · exact g2 y (by omega) hyH
      · by_cases e : y = P
        · rw [e, eH] at hyH; cases hyH
        · exact g3 y (by omega) hyH
