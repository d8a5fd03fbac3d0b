/-! the class's group: closing, ordering -/
def GRows (n k : Nat) (mv : Nat → Nat) (rows : Nat → Int32) : Prop := ∀ p, gi n k mv p = true → rows (ct (gi n k mv) p) = nI (gr n k mv p)
def GNum (n k : Nat) (mv : Nat → Nat) (nbp : Nat → Int32) : Prop := ∀ p, p < 5040 → nbp p = if gi n k mv p then nI (ct (gi n k mv) p) else -1
noncomputable def ord (n k : Nat) (mv : Nat → Nat) : Nat := ct (gi n k mv) 5040
theorem ord_le (n k : Nat) (mv : Nat → Nat) : ord n k mv ≤ 5040 := ct_le _ _
theorem w_putInOrder {post : (Nat → Int32) → (Nat → Int32) → Prop} {n k : Nat} {mv : Nat → Nat} {rows rbp nbp : Nat → Int32} (hM : MvOk n k mv) (hr : ∀ p, p < 5040 → rbp p = if gi n k mv p then nI (gr n k mv p) else -1) (h : ∀ rows' nbp', GRows n k mv rows' → GNum n k mv nbp' → post rows' nbp') : wp_Group_putInOrder post rows rbp nbp := by
  have key := pk_loop (σ := (Nat → Int32) × (Nat → Int32)) (fun j p s => L_Group_putInOrder_4 post rbp j s.1 s.2 (nI (ct (gi n k mv) p)) (nI p)) (fun p s => (∀ q, q < p → gi n k mv q = true → s.1 (ct (gi n k mv) q) = nI (gr n k mv q)) ∧ ∀ q, q < p → s.2 q = if gi n k mv q then nI (ct (gi n k mv) q) else -1) 5040 0 (rows, nbp) (Nat.zero_le _) ⟨fun q hq => absurd hq (by omega), fun q hq => absurd hq (by omega)⟩ ?_ ?_
  · obtain ⟨j, hj⟩ := key
    exact ⟨j, hj⟩
  · intro j s hs
    exact pk_le 5040 5040 (fun _ => h s.1 s.2 (fun p hp => hs.1 p (gi_lt5 hM.1 hp) hp) hs.2) (fun z => absurd z (by omega))
  · intro j p s hp hs hw
    have hc : ct (gi n k mv) p ≤ p := ct_le _ _
    refine pk_le 5040 p (fun z => absurd z (by omega)) (fun _ => ⟨pk_in p 5040 hp, pk_in p 5040 hp, ?_⟩)
    rw [nI_clamp (show p < 2 ^ 31 by omega), hr p hp]
    cases eg : gi n k mv p with
    | false =>
      rw [if_neg (by decide)]
      refine ⟨fun _ => nm_r (nI_1 p) ?_, fun z => absurd rfl z⟩
      have hw' := hw (s.1, upd s.2 p (-1)) ⟨fun q hq hg => ?_, fun q hq => ?_⟩
      · rw [ct_succ, eg] at hw'
        exact hw'
      · by_cases e : q = p
        · rw [e, eg] at hg; cases hg
        · exact hs.1 q (by omega) hg
      · by_cases e : q = p
        · rw [e]
          show upd s.2 p (-1) p = _
          rw [pk_us, eg, if_neg (by decide)]
        · show upd s.2 p (-1) q = _
          rw [pk_un e]
          exact hs.2 q (by omega)
    | true =>
      rw [if_pos rfl]
      refine ⟨fun z => absurd z (nI_m1 (by have := gr_lt hM eg; omega)), fun _ => w_isCellG (by omega) (fun _ => ⟨fun z => absurd z (by decide), fun _ => ⟨pk_in p 5040 hp, pk_in p 5040 hp, nm_r rfl ⟨pk_in (ct (gi n k mv) p) 5040 (by omega), nm_r (nI_1 _) (nm_r (nI_1 p) ?_)⟩⟩⟩) (fun z => absurd (show ct (gi n k mv) p < 5040 by omega) z)⟩
      rw [nI_clamp (show ct (gi n k mv) p < 2 ^ 31 by omega)]
      have hw' := hw (upd s.1 (ct (gi n k mv) p) (nI (gr n k mv p)), upd (upd s.2 p (-1)) p (nI (ct (gi n k mv) p))) ⟨fun q hq hg => ?_, fun q hq => ?_⟩
      · rw [ct_succ, eg] at hw'
        exact hw'
      · by_cases e : q = p
        · rw [e]
          show upd s.1 _ _ _ = _
          rw [pk_us]
        · show upd s.1 _ _ _ = _
          rw [pk_un (by have := ct_lt (show q < p by omega) hg; omega)]
          exact hs.1 q (by omega) hg
      · by_cases e : q = p
        · rw [e]
          show upd (upd s.2 p (-1)) p _ p = _
          rw [pk_us, eg, if_pos rfl]
        · show upd (upd s.2 p (-1)) p _ q = _
          rw [pk_un e, pk_un e]
          exact hs.2 q (by omega)
/-- the first d rows' neighbours are all found -/
def GD (n k : Nat) (mv : Nat → Nat) (S : Nat → Bool) (rows : Nat → Int32) (d : Nat) : Prop := ∀ i, i < d → ∀ p, S p = true → rows i = nI (gr n k mv p) → ∀ m, m < k → S (nx n k mv p m) = true
theorem gr_nI {n k : Nat} {mv : Nat → Nat} (hM : MvOk n k mv) {p q : Nat} (hp : gi n k mv p = true) (hq : gi n k mv q = true) (e : nI (gr n k mv p) = nI (gr n k mv q)) : p = q := by
  have h1 := gr_lt hM hp
  have h2 := gr_lt hM hq
  have := (nI_eq (by omega) (by omega)).mp e
  rw [← (gr_spec hp).2, ← (gr_spec hq).2, this]
theorem GD.mono {n k : Nat} {mv : Nat → Nat} (hM : MvOk n k mv) {S S' : Nat → Bool} {rows rows' : Nat → Int32} {s s' d : Nat} {rbp rbp' : Nat → Int32} (hG : GI n k mv S s rows rbp) (hG' : GI n k mv S' s' rows' rbp') (hd : d ≤ s) (h : GD n k mv S rows d) (hS : ∀ p, S p = true → S' p = true) (hr : ∀ i, i < s → rows' i = rows i) : GD n k mv S' rows' d := by
  intro i hi p hp e m hm
  rw [hr i (by omega)] at e
  obtain ⟨q, hq, e2⟩ := hG.2.2.2.1 i (by omega)
  have : p = q := gr_nI hM (hG'.2.2.1 p hp) (hG.2.2.1 q hq) (by rw [← e, e2])
  subst this
  exact hS _ (h i hi p hq e m hm)
theorem w_close {post : Int32 → Int32 → (Nat → Int32) → (Nat → Int32) → (Nat → Int32) → Prop} {n k : Nat} {mv : Nat → Nat} {rows rbp nbp mr : Nat → Int32} (hM : MvOk n k mv) (hmr : ∀ i, i < k → mr i = nI (mv i)) (h : ∀ rows' rbp' nbp', GRows n k mv rows' → GNum n k mv nbp' → post (nI n) (nI (ord n k mv)) rows' rbp' nbp') : wp_Group_close post rows rbp nbp (nI k) mr (nI n) := by
  have hn := hM.1
  have hk := hM.2.1
  unfold wp_Group_close
  refine w_fill (by omega) (fun rb0 hrb0 => ?_)
  refine w_identity hn ?_
  have hG0 : GI n k mv (fun _ => false) 0 rows rb0 := ⟨(sm_zero 5040).symm, fun p hp => (by rw [hrb0 p hp]; rfl), fun p hp => absurd hp Bool.false_ne_true, fun i hi => absurd hi (by omega), fun p hp => absurd hp Bool.false_ne_true⟩
  refine w_find (R := idR n) hM hG0 InG.id (fun S1 s1 rows1 rb1 hG1 _ hid _ _ => ?_)
  refine Exists.elim (lp4 (L_Group_close_31 post (nI n) nbp (nI k) mr) (fun a1 a2 a3 a4 => ∃ (S : Nat → Bool) (s d : Nat), a1 = nI s ∧ a4 = nI d ∧ GI n k mv S s a2 a3 ∧ S (rkR n (idR n)) = true ∧ d ≤ s ∧ GD n k mv S a2 d) (fun _ _ _ a4 => 5040 - a4.toNatClampNeg) ?_ (nI s1) rows1 rb1 (nI 0) ⟨S1, s1, 0, rfl, rfl, hG1, hid, Nat.zero_le _, fun i hi => absurd hi (by omega)⟩) (fun j hj => ⟨j, hj⟩)
  rintro j a1 a2 a3 a4 ⟨S, s, d, rfl, rfl, hG, hS0, hds, hD⟩ ih
  have hs5 : s ≤ 5040 := by rw [hG.1]; exact ct_le _ _
  have fin : d = s → wp_Group_putInOrder (fun t_rows_95 t_numberByPlace_95 => post (nI n) (nI s) t_rows_95 a3 t_numberByPlace_95) a2 a3 nbp := by
    intro e
    have hall : ∀ p, S p = gi n k mv p := by
      intro p
      cases eg : gi n k mv p with
      | true => exact gi_closed hM hS0 (fun q m hq _ hm => by
          obtain ⟨i, hi, e2⟩ := hG.2.2.2.2 q hq
          exact hD i (by omega) q hq e2 m hm) eg
      | false =>
        cases eS : S p with
        | false => rfl
        | true => rw [hG.2.2.1 p eS] at eg; cases eg
    have hs : s = ord n k mv := by rw [hG.1]; exact ct_congr _ (fun p _ => hall p)
    refine w_putInOrder hM (fun p hp => by rw [hG.2.1 p hp, hall p]) (fun rows' nbp' g1 g2 => ?_)
    rw [hs]
    exact h rows' a3 nbp' g1 g2
  refine pk_le s d (fun z => fin (by omega)) (fun z => pk_le 5040 d (fun z2 => absurd z2 (by omega)) (fun z2 => ?_))
  obtain ⟨p0, hp0, e0⟩ := hG.2.2.2.1 d z
  have hg0 := hG.2.2.1 p0 hp0
  have hR0 := (gr_spec hg0).1
  have hlt0 := gr_lt hM hg0
  refine Exists.elim (pk_loop (σ := (Nat → Bool) × Nat × (Nat → Int32) × (Nat → Int32)) (fun j2 m st => L_Group_close_49 (L_Group_close_31 post (nI n) nbp (nI k) mr j) (nI n) (nI k) mr (nI d) j2 (nI st.2.1) st.2.2.1 st.2.2.2 (nI m)) (fun m st => GI n k mv st.1 st.2.1 st.2.2.1 st.2.2.2 ∧ st.1 (rkR n (idR n)) = true ∧ d < st.2.1 ∧ GD n k mv st.1 st.2.2.1 d ∧ st.2.2.1 d = nI (gr n k mv p0) ∧ st.1 p0 = true ∧ ∀ m', m' < m → st.1 (nx n k mv p0 m') = true) k 0 (S, s, a2, a3) (Nat.zero_le _) ⟨hG, hS0, z, hD, e0, hp0, fun m' hm' => absurd hm' (by omega)⟩ ?_ ?_) (fun j2 hj2 => ⟨j2, hj2⟩)
  · rintro j2 ⟨S2, s2, r2, b2'⟩ ⟨g1, g2, g3, g4, g5, g6, g7⟩
    refine pk_le k k (fun _ => nm_r (nI_1 d) (ih _ _ _ _ ⟨S2, s2, d + 1, rfl, rfl, g1, g2, g3, fun i hi p hp e m hm => ?_⟩ ?_)) (fun q => absurd q (by omega))
    · by_cases ei : i = d
      · rw [ei] at e
        have : p = p0 := gr_nI hM (g1.2.2.1 p hp) hg0 (by rw [← e]; exact g5)
        rw [this]
        exact g7 m hm
      · exact g4 i (by omega) p hp e m hm
    · rw [nI_clamp (by omega), nI_clamp (by omega)]
      omega
  · rintro j2 m ⟨S2, s2, r2, b2'⟩ hm ⟨g1, g2, g3, g4, g5, g6, g7⟩ hw
    dsimp only at g1 g2 g3 g4 g5 g6 g7
    refine pk_le k m (fun q => absurd q (by omega)) (fun _ => ⟨pk_in d 5040 z2, pk_in m 5 (by omega), ?_⟩)
    rw [nI_clamp (show d < 2 ^ 31 by omega), nI_clamp (show m < 2 ^ 31 by omega), hmr m hm]
    show wp_Rows_chain _ (r2 d) (nI (mv m)) (nI n)
    rw [g5]
    have hmlt := isP_lt hn (hM.2.2 m hm)
    refine w_chain (by omega) (by omega) hn ?_
    refine w_find (R := chn n (gr n k mv p0) (mv m)) hM g1 (hR0.step hm) (fun S3 s3 r3 b3 q1 q2 q3 q4 q5 => nm_r (nI_1 m) ?_)
    refine hw (S3, s3, r3, b3) ⟨q1, q2 _ g2, Nat.lt_of_lt_of_le g3 q4, GD.mono hM g1 q1 (Nat.le_of_lt g3) g4 q2 q5, ?_, q2 _ g6, fun m' hm' => ?_⟩
    · show r3 d = _
      rw [q5 d g3]
      exact g5
    · by_cases e : m' = m
      · rw [e]; exact q3
      · exact q2 _ (g7 m' (by omega))
