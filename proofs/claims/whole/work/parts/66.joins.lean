/-! the reference's orbits -/
def sM (f : Nat → Int32) (p : Nat) : Bool := !(f p == -1)
/-- heads and todo while the orbit of P is being found -/
def JI (n c k : Nat) (mv : Nat → Nat) (P : Nat) (S : Nat → Bool) (e l : Nat) (heads mates todo : Nat → Int32) : Prop :=
  OS n c k mv S P ∧ (∀ q, q < 16384 → heads q = if S q then nI (hdP n c k mv q) else -1) ∧ mates P = nI e ∧ e + l = ct (TS n c k mv S P) 16384 ∧ (∀ i, i < l → ∃ q, TS n c k mv S P q = true ∧ todo i = nI q) ∧ S P = true
theorem JI.sM {n c k P e l : Nat} {mv : Nat → Nat} {S : Nat → Bool} {heads mates todo : Nat → Int32} (hk : Pk n c k mv) (h : JI n c k mv P S e l heads mates todo) : ct (sM heads) 16384 = ct S 16384 := ct_congr _ (fun q hq => by
  show (!(heads q == -1)) = S q
  rw [h.2.1 q hq]
  cases eS : S q with
  | false => rfl
  | true =>
    rw [if_pos rfl]
    have h1 := (h.1.1 q eS).1
    have h2 := hk.N
    have h3 := hd_le (n := n) (c := c) (k := k) (mv := mv) q
    have : (nI (hdP n c k mv q) == -1) = false := by simpa using nI_m1 (show hdP n c k mv q < 2 ^ 31 by omega)
    rw [this]
    rfl)
theorem w_joinsM {post : (Nat → Int32) → (Nat → Int32) → (Nat → Int32) → (Nat → Int32) → (Nat → Int32) → Prop} {n c k P : Nat} {mv : Nat → Nat} {todo cf tn heads mates mr : Nat → Int32} (hk : Pk n c k mv) (hmr : ∀ i, i < k → mr i = nI (mv i)) (hP : P < c ^ n) (hh : hdP n c k mv P = P)
    (hr : ∀ q, q < 16384 → heads q = if SB n c k mv P q then nI (hdP n c k mv q) else -1) (hm0 : mates P = 0)
    (h : ∀ (todo' cf' tn' heads' mates' : Nat → Int32), (∀ q, q < 16384 → heads' q = if SB n c k mv (P + 1) q then nI (hdP n c k mv q) else -1) → mates' P = nI (osz n c k mv P) → (∀ q, q ≠ P → mates' q = mates q) → post todo' cf' tn' heads' mates') : wp_Mo_joins post (nI n) (nI c) (nI k) mr todo cf tn heads mates (nI P) := by
  have hN := hk.N
  have hn := hk.2.2.2.1
  have hk5 := hk.2.2.2.2.1
  have hc := hk.2.1
  have hc4 := hk.2.2.1
  have noT : ∀ q, TS n c k mv (SB n c k mv P) P q = false := fun q => by
    cases e : TS n c k mv (SB n c k mv P) P q with
    | false => rfl
    | true =>
      obtain ⟨a, b⟩ := TS_iff.mp e
      have := (SB_iff.mp a).2
      omega
  unfold wp_Mo_joins
  refine ⟨pk_in 0 16384 (by omega), pk_in P 16384 (by omega), ?_⟩
  rw [sb_cl0, nI_clamp (show P < 2 ^ 31 by omega)]
  have hI0 : JI n c k mv P (ins (SB n c k mv P) P) 0 1 (upd heads P (nI P)) mates (upd todo 0 (nI P)) := by
    refine ⟨(OS.base P).put hP (by omega), fun q hq => ?_, hm0, ?_, fun i hi => ?_, ins_self _ _⟩
    · by_cases e : q = P
      · rw [e, pk_us, ins_self, if_pos rfl, hh]
      · rw [pk_un e, ins_ne e, hr q hq]
    · rw [ct_congr 16384 (fun q' _ => TS_ins hh q'), ct_ins (show P < 16384 by omega) (noT P), (ct_congr 16384 (fun q _ => noT q)).trans (sm_zero 16384)]
    · rw [show i = 0 by omega, pk_us]
      exact ⟨P, TS_iff.mpr ⟨ins_self _ _, hh⟩, rfl⟩
  have hC0 : ∀ q, TS n c k mv (ins (SB n c k mv P) P) P q = true → (∃ i, i < 1 ∧ (upd todo 0 (nI P)) i = nI q) ∨ ∀ m, m < k → ins (SB n c k mv P) P (act n c (mv m) q) = true := by
    intro q hq
    rw [TS_ins hh] at hq
    by_cases e : q = P
    · exact Or.inl ⟨0, by omega, by rw [pk_us, e]⟩
    · rw [ins_ne e, noT q] at hq; cases hq
  refine Exists.elim (lp6 (L_Mo_joins_16 post (nI n) (nI c) (nI k) mr (nI P)) (fun a1 _ _ a4 a5 a6 => ∃ (S : Nat → Bool) (e l : Nat), a6 = nI l ∧ JI n c k mv P S e l a4 a5 a1 ∧ (∀ q, q ≠ P → a5 q = mates q) ∧ ∀ q, TS n c k mv S P q = true → (∃ i, i < l ∧ a1 i = nI q) ∨ ∀ m, m < k → S (act n c (mv m) q) = true) (fun _ _ _ a4 _ a6 => 2 * (16384 - ct (sM a4) 16384) + a6.toNatClampNeg) ?_ (upd todo 0 (nI P)) cf tn (upd heads P (nI P)) mates (nI 1) ⟨_, 0, 1, rfl, hI0, fun _ _ => rfl, hC0⟩) (fun j hj => ⟨j, hj⟩)
  rintro j a1 a2 a3 a4 a5 a6 ⟨S, e, l, rfl, hI, hMt, hC⟩ ih
  have hsM := hI.sM hk
  obtain ⟨i1, i2, i3, i4, i5, i6⟩ := hI
  have hcT : ct (TS n c k mv S P) 16384 ≤ 16384 := ct_le _ _
  refine pk_le l 0 (fun z => ?_) (fun z => ?_)
  · have hall := OS.full hk i1 i6 hh (fun q m hq hqP hm => by
      rcases hC q (TS_iff.mpr ⟨hq, hqP⟩) with ⟨i, hi, _⟩ | y
      · omega
      · exact y m hm)
    refine h _ _ _ _ _ (fun q hq => by rw [i2 q hq, hall q]) ?_ hMt
    rw [i3, ← osz_eq hall]
    congr 1
    omega
  · obtain ⟨l', rfl⟩ : ∃ l', l = l' + 1 := ⟨l - 1, by omega⟩
    refine nm_r (e' := nI l') (pk_m1 l') ⟨pk_in l' 16384 (by omega), ?_⟩
    rw [nI_clamp (show l' < 2 ^ 31 by omega), nI_clamp (show P < 2 ^ 31 by omega)]
    obtain ⟨q0, hq0, e0⟩ := i5 l' (by omega)
    rw [e0, i3]
    have hlt0 := (i1.1 q0 (TS_iff.mp hq0).1).1
    have hhd0 := (TS_iff.mp hq0).2
    refine nm_r rfl ⟨pk_in P 16384 (by omega), nm_r (nI_1 e) ⟨pk_in P 16384 (by omega), ?_⟩⟩
    have hSl : ct S 16384 ≤ 16384 := ct_le _ _
    refine Exists.elim (pk_loop (σ := (Nat → Bool) × (Nat → Int32) × (Nat → Int32) × (Nat → Int32) × (Nat → Int32) × Nat) (fun j2 m st => L_Mo_joins_43 (L_Mo_joins_16 post (nI n) (nI c) (nI k) mr (nI P) j) (nI n) (nI c) (nI k) mr (upd a5 P (nI (e + 1))) (nI P) (nI q0) j2 st.2.1 st.2.2.1 st.2.2.2.1 st.2.2.2.2.1 (nI st.2.2.2.2.2) (nI m))
      (fun m st => JI n c k mv P st.1 (e + 1) st.2.2.2.2.2 st.2.2.2.2.1 (upd a5 P (nI (e + 1))) st.2.1 ∧ (∀ q, TS n c k mv st.1 P q = true → q = q0 ∨ (∃ i, i < st.2.2.2.2.2 ∧ st.2.1 i = nI q) ∨ ∀ m, m < k → st.1 (act n c (mv m) q) = true) ∧ (∀ m', m' < m → st.1 (act n c (mv m') q0) = true) ∧ 2 * (16384 - ct st.1 16384) + st.2.2.2.2.2 ≤ 2 * (16384 - ct S 16384) + l') k 0 (S, a1, a2, a3, a4, l') (Nat.zero_le _) ⟨⟨i1, i2, pk_us, by show e + 1 + l' = ct (TS n c k mv S P) 16384; omega, fun i (hi : i < l') => i5 i (by omega), i6⟩, fun q hq => ?_, fun m' hm' => absurd hm' (by omega), Nat.le_refl _⟩ ?_ ?_) (fun j2 hj2 => ⟨j2, hj2⟩)
    · show q = q0 ∨ (∃ i, i < l' ∧ a1 i = nI q) ∨ _
      rcases hC q hq with ⟨i, hi, e2⟩ | y
      · by_cases ei : i = l'
        · left
          rw [ei, e0] at e2
          have := (i1.1 q (TS_iff.mp hq).1).1
          exact ((nI_eq (by omega) (by omega)).mp e2).symm
        · exact Or.inr (Or.inl ⟨i, by omega, e2⟩)
      · exact Or.inr (Or.inr y)
    · rintro j2 ⟨S2, td2, cf2, tn2, hd2, l2⟩ ⟨g1, g2, g3, g4⟩
      dsimp only at g1 g2 g3 g4
      refine pk_le k k (fun _ => ih _ _ _ _ _ _ ⟨S2, e + 1, l2, rfl, g1, fun q hq => by rw [pk_un hq]; exact hMt q hq, fun q hq => ?_⟩ ?_) (fun y => absurd y (by omega))
      · rcases g2 q hq with y | y | y
        · exact Or.inr (fun m hm => by rw [y]; exact g3 m hm)
        · exact Or.inl y
        · exact Or.inr y
      · show 2 * (16384 - ct (sM hd2) 16384) + (nI l2).toNatClampNeg < 2 * (16384 - ct (sM a4) 16384) + (nI (l' + 1)).toNatClampNeg
        rw [g1.sM hk, hsM]
        have hl2 := g1.2.2.2.1
        have hl3 : ct (TS n c k mv S2 P) 16384 ≤ 16384 := ct_le _ _
        rw [nI_clamp (by omega), nI_clamp (by omega)]
        omega
    · rintro j2 m ⟨S2, td2, cf2, tn2, hd2, l2⟩ hm ⟨g1, g2, g3, g4⟩ hw
      dsimp only at g1 g2 g3 g4
      have hl3 : ct (TS n c k mv S2 P) 16384 ≤ 16384 := ct_le _ _
      have hl2 := g1.2.2.2.1
      have hPm := hk.2.2.2.2.2 m hm
      refine pk_le k m (fun y => absurd y (by omega)) (fun _ => ?_)
      refine w_look hn hc hc4 (by omega) (fun cf3 hcf3 => ⟨pk_in m 5 (by omega), ?_⟩)
      rw [nI_clamp (show m < 2 ^ 31 by omega), hmr m hm]
      refine w_makes hn hPm hcf3 (fun tn3 => ?_)
      have hlt := act_lt (p := q0) hc hPm
      have hha := hd_act (n := n) (c := c) (k := k) (mv := mv) (q := q0) hm
      refine ⟨pk_in (act n c (mv m) q0) 16384 (by omega), ?_⟩
      dsimp only
      rw [nI_clamp (show act n c (mv m) q0 < 2 ^ 31 by omega), g1.2.1 _ (by omega)]
      cases eS : S2 (act n c (mv m) q0) with
      | true =>
        rw [if_pos rfl]
        have h3 := hd_le (n := n) (c := c) (k := k) (mv := mv) (act n c (mv m) q0)
        refine ⟨fun z => absurd z (nI_m1 (by omega)), fun _ => nm_r (nI_1 m) (hw (S2, td2, cf3, tn3, hd2, l2) ⟨g1, g2, fun m' hm' => ?_, g4⟩)⟩
        by_cases y : m' = m
        · rw [y]; exact eS
        · exact g3 m' (by omega)
      | false =>
        rw [if_neg (by decide)]
        have ehd : hdP n c k mv (act n c (mv m) q0) = P := by
          rcases Nat.lt_or_ge (hdP n c k mv (act n c (mv m) q0)) P with y | y
          · rw [g1.1.2 _ hlt y] at eS; cases eS
          · omega
        have eT : TS n c k mv S2 P (act n c (mv m) q0) = false := by unfold TS; rw [eS]; rfl
        have hroom := ct_room (show act n c (mv m) q0 < 16384 by omega) eT
        have hroom2 := ct_room (show act n c (mv m) q0 < 16384 by omega) eS
        refine ⟨fun _ => ⟨pk_in (act n c (mv m) q0) 16384 (by omega), pk_in l2 16384 (by omega), nm_r (nI_1 l2) (nm_r (nI_1 m) ?_)⟩, fun z => absurd rfl z⟩
        rw [nI_clamp (show l2 < 2 ^ 31 by omega)]
        have eTc : ct (TS n c k mv (ins S2 (act n c (mv m) q0)) P) 16384 = ct (TS n c k mv S2 P) 16384 + 1 := by
          rw [ct_congr 16384 (fun q' _ => TS_ins ehd q'), ct_ins (show act n c (mv m) q0 < 16384 by omega) eT]
        refine hw (ins S2 (act n c (mv m) q0), upd td2 l2 (nI (act n c (mv m) q0)), cf3, tn3, upd hd2 (act n c (mv m) q0) (nI P), l2 + 1) ⟨⟨g1.1.put hlt (by omega), fun q hq => ?_, g1.2.2.1, ?_, fun i hi => ?_, ins_old g1.2.2.2.2.2⟩, fun q hq => ?_, fun m' hm' => ?_, ?_⟩
        · show upd hd2 (act n c (mv m) q0) (nI P) q = if ins S2 (act n c (mv m) q0) q then nI (hdP n c k mv q) else -1
          by_cases y : q = act n c (mv m) q0
          · rw [y, pk_us, ins_self, if_pos rfl, ehd]
          · rw [pk_un y, ins_ne y, g1.2.1 q hq]
        · show e + 1 + (l2 + 1) = ct (TS n c k mv (ins S2 (act n c (mv m) q0)) P) 16384
          rw [eTc]
          omega
        · show ∃ q, TS n c k mv (ins S2 (act n c (mv m) q0)) P q = true ∧ upd td2 l2 (nI (act n c (mv m) q0)) i = nI q
          by_cases y : i = l2
          · rw [y, pk_us]
            exact ⟨_, TS_iff.mpr ⟨ins_self _ _, ehd⟩, rfl⟩
          · rw [pk_un y]
            obtain ⟨q, z1, z2⟩ := g1.2.2.2.2.1 i (by have : i < l2 + 1 := hi; omega)
            exact ⟨q, by rw [TS_ins ehd]; exact ins_old z1, z2⟩
        · show q = q0 ∨ (∃ i, i < l2 + 1 ∧ upd td2 l2 (nI (act n c (mv m) q0)) i = nI q) ∨ _
          have hq2 : TS n c k mv (ins S2 (act n c (mv m) q0)) P q = true := hq
          rw [TS_ins ehd] at hq2
          by_cases y : q = act n c (mv m) q0
          · exact Or.inr (Or.inl ⟨l2, by omega, by rw [pk_us, y]⟩)
          · rw [ins_ne y] at hq2
            rcases g2 q hq2 with z1 | ⟨i, z1, z2⟩ | z1
            · exact Or.inl z1
            · exact Or.inr (Or.inl ⟨i, by omega, by rw [pk_un (by omega)]; exact z2⟩)
            · exact Or.inr (Or.inr (fun m' hm' => ins_old (z1 m' hm')))
        · by_cases y : m' = m
          · rw [y]; exact ins_self _ _
          · exact ins_old (g3 m' (by omega))
        · show 2 * (16384 - ct (ins S2 (act n c (mv m) q0)) 16384) + (l2 + 1) ≤ _
          rw [ct_ins (show act n c (mv m) q0 < 16384 by omega) eS]
          omega
