/-! orbits -/
def Pk (n c k : Nat) (mv : Nat → Nat) : Prop := 0 < n ∧ 0 < c ∧ c ≤ 4 ∧ MvOk n k mv
theorem Pk.N {n c k : Nat} {mv : Nat → Nat} (h : Pk n c k mv) : c ^ n ≤ 16384 := by
  have h1 : c ^ n ≤ 4 ^ n := Nat.pow_le_pow_left h.2.2.1 n
  have h2 : 4 ^ n ≤ 4 ^ 7 := Nat.pow_le_pow_right (by decide) h.2.2.2.1
  have h3 : (4 : Nat) ^ 7 = 16384 := by decide
  omega
theorem Pk.N0 {n c k : Nat} {mv : Nat → Nat} (h : Pk n c k mv) : 0 < c ^ n := Nat.pow_pos h.2.1
def RP (n c k : Nat) (mv : Nat → Nat) (h p : Nat) : Prop := ∃ l : List Nat, (∀ i ∈ l, i < k) ∧ p = l.foldl (fun q i => act n c (mv i) q) h
theorem RP.rf {n c k : Nat} {mv : Nat → Nat} {p : Nat} : RP n c k mv p p := ⟨[], fun i h => absurd h List.not_mem_nil, rfl⟩
theorem RP.trans {n c k : Nat} {mv : Nat → Nat} {a b d : Nat} (h1 : RP n c k mv a b) (h2 : RP n c k mv b d) : RP n c k mv a d := by
  obtain ⟨l1, e1, rfl⟩ := h1
  obtain ⟨l2, e2, rfl⟩ := h2
  refine ⟨l1 ++ l2, fun i hi => ?_, ?_⟩
  · rcases List.mem_append.mp hi with q | q
    · exact e1 i q
    · exact e2 i q
  · rw [List.foldl_append]
theorem RP.one {n c k : Nat} {mv : Nat → Nat} {p m : Nat} (hm : m < k) : RP n c k mv p (act n c (mv m) p) := ⟨[m], fun i hi => by rw [List.mem_singleton.mp hi]; exact hm, rfl⟩
noncomputable def hdP (n c k : Nat) (mv : Nat → Nat) (p : Nat) : Nat := (pk_least (fun h => RP n c k mv h p) ⟨p, RP.rf⟩).choose
theorem hd_r {n c k : Nat} {mv : Nat → Nat} (p : Nat) : RP n c k mv (hdP n c k mv p) p := (pk_least (fun h => RP n c k mv h p) ⟨p, RP.rf⟩).choose_spec.1
theorem hd_m {n c k : Nat} {mv : Nat → Nat} {p h : Nat} (hr : RP n c k mv h p) : hdP n c k mv p ≤ h := by
  rcases Nat.lt_or_ge h (hdP n c k mv p) with g | g
  · exact absurd hr ((pk_least (fun h => RP n c k mv h p) ⟨p, RP.rf⟩).choose_spec.2 h g)
  · exact g
theorem hd_le {n c k : Nat} {mv : Nat → Nat} (p : Nat) : hdP n c k mv p ≤ p := hd_m RP.rf
theorem hd_mono {n c k : Nat} {mv : Nat → Nat} {p q : Nat} (h : RP n c k mv p q) : hdP n c k mv q ≤ hdP n c k mv p := hd_m ((hd_r p).trans h)
theorem hd_hd {n c k : Nat} {mv : Nat → Nat} (p : Nat) : hdP n c k mv (hdP n c k mv p) = hdP n c k mv p := by
  have h1 := hd_le (n := n) (c := c) (k := k) (mv := mv) (hdP n c k mv p)
  have h2 := hd_m ((hd_r (n := n) (c := c) (k := k) (mv := mv) (hdP n c k mv p)).trans (hd_r p))
  omega
noncomputable def isH (n c k : Nat) (mv : Nat → Nat) (p : Nat) : Bool := hdP n c k mv p == p
theorem isH_iff {n c k : Nat} {mv : Nat → Nat} {p : Nat} : isH n c k mv p = true ↔ hdP n c k mv p = p := by unfold isH; exact beq_iff_eq
theorem isH_hd {n c k : Nat} {mv : Nat → Nat} (p : Nat) : isH n c k mv (hdP n c k mv p) = true := isH_iff.mpr (hd_hd p)
/-- what is closed under unmarked steps from the head holds all of its orbit -/
theorem orb_closed {n c k : Nat} {mv : Nat → Nat} {h : Nat} {T : Nat → Prop} (h0 : T h) (hT : ∀ q, T q → hdP n c k mv q = h) (hs : ∀ q m, T q → m < k → T (act n c (mv m) q) ∨ hdP n c k mv (act n c (mv m) q) < h) {p : Nat} (hp : hdP n c k mv p = h) : T p := by
  have hr := hd_r (n := n) (c := c) (k := k) (mv := mv) p
  rw [hp] at hr
  obtain ⟨l, h1, h2⟩ := hr
  have key : ∀ (l : List Nat) (q : Nat), (∀ i ∈ l, i < k) → T q → p = l.foldl (fun q i => act n c (mv i) q) q → T p := by
    intro l
    induction l with
    | nil => intro q _ hq e; rw [e]; exact hq
    | cons a l ih =>
      intro q hl hq e
      have ha := hl a List.mem_cons_self
      refine ih (act n c (mv a) q) (fun i hi => hl i (List.mem_cons_of_mem _ hi)) ?_ e
      rcases hs q a hq ha with g | g
      · exact g
      · have h5 : hdP n c k mv p ≤ hdP n c k mv (act n c (mv a) q) := hd_mono ⟨l, fun i hi => hl i (List.mem_cons_of_mem _ hi), e⟩
        omega
  exact key l h h1 h0 h2
noncomputable def SB (n c k : Nat) (mv : Nat → Nat) (P q : Nat) : Bool := decide (q < c ^ n) && decide (hdP n c k mv q < P)
noncomputable def TS (n c k : Nat) (mv : Nat → Nat) (S : Nat → Bool) (P q : Nat) : Bool := S q && hdP n c k mv q == P
noncomputable def osz (n c k : Nat) (mv : Nat → Nat) (h : Nat) : Nat := ct (TS n c k mv (fun q => decide (q < c ^ n)) h) 16384
theorem SB_iff {n c k : Nat} {mv : Nat → Nat} {P q : Nat} : SB n c k mv P q = true ↔ q < c ^ n ∧ hdP n c k mv q < P := by unfold SB; rw [Bool.and_eq_true, decide_eq_true_eq, decide_eq_true_eq]
theorem TS_iff {n c k : Nat} {mv : Nat → Nat} {S : Nat → Bool} {P q : Nat} : TS n c k mv S P q = true ↔ S q = true ∧ hdP n c k mv q = P := by unfold TS; rw [Bool.and_eq_true, beq_iff_eq]
theorem TS_ins {n c k : Nat} {mv : Nat → Nat} {S : Nat → Bool} {P q : Nat} (hq : hdP n c k mv q = P) (q' : Nat) : TS n c k mv (ins S q) P q' = ins (TS n c k mv S P) q q' := by
  by_cases e : q' = q
  · rw [e, ins_self]
    exact TS_iff.mpr ⟨ins_self _ _, hq⟩
  · rw [ins_ne e]
    unfold TS
    rw [ins_ne e]
theorem bool_ext {a b : Bool} (h : a = true ↔ b = true) : a = b := by
  cases a <;> cases b <;> first | rfl | (exact absurd (h.mp rfl) (by decide)) | (exact absurd (h.mpr rfl) (by decide))
/-- what is marked while the orbit of P is being found -/
def OS (n c k : Nat) (mv : Nat → Nat) (S : Nat → Bool) (P : Nat) : Prop := (∀ q, S q = true → q < c ^ n ∧ hdP n c k mv q ≤ P) ∧ (∀ q, q < c ^ n → hdP n c k mv q < P → S q = true)
theorem OS.base {n c k : Nat} {mv : Nat → Nat} (P : Nat) : OS n c k mv (SB n c k mv P) P := ⟨fun q h => ⟨(SB_iff.mp h).1, Nat.le_of_lt (SB_iff.mp h).2⟩, fun q h1 h2 => SB_iff.mpr ⟨h1, h2⟩⟩
theorem OS.put {n c k : Nat} {mv : Nat → Nat} {S : Nat → Bool} {P q : Nat} (h : OS n c k mv S P) (h1 : q < c ^ n) (h2 : hdP n c k mv q ≤ P) : OS n c k mv (ins S q) P := ⟨fun p hp => by
  by_cases e : p = q
  · rw [e]; exact ⟨h1, h2⟩
  · rw [ins_ne e] at hp; exact h.1 p hp, fun p g1 g2 => ins_old (h.2 p g1 g2)⟩
/-- when it is closed it is what is marked at P + 1 -/
theorem OS.full {n c k : Nat} {mv : Nat → Nat} {S : Nat → Bool} {P : Nat} (hk : Pk n c k mv) (h : OS n c k mv S P) (hP : S P = true) (hh : hdP n c k mv P = P) (hs : ∀ q m, S q = true → hdP n c k mv q = P → m < k → S (act n c (mv m) q) = true) : ∀ q, S q = SB n c k mv (P + 1) q := by
  intro q
  refine bool_ext ⟨fun g => SB_iff.mpr ⟨(h.1 q g).1, by have := (h.1 q g).2; omega⟩, fun g => ?_⟩
  obtain ⟨g1, g2⟩ := SB_iff.mp g
  rcases Nat.lt_or_ge (hdP n c k mv q) P with z | z
  · exact h.2 q g1 z
  · have e : hdP n c k mv q = P := by omega
    exact (orb_closed (T := fun q => S q = true ∧ hdP n c k mv q = P) ⟨hP, hh⟩ (fun q hq => hq.2) (fun q m hq hm => by
      have h1 := hs q m hq.1 hq.2 hm
      have h2 := (h.1 _ h1).2
      rcases Nat.lt_or_ge (hdP n c k mv (act n c (mv m) q)) P with y | y
      · exact Or.inr y
      · exact Or.inl ⟨h1, by omega⟩) e).1
theorem osz_eq {n c k : Nat} {mv : Nat → Nat} {S : Nat → Bool} {P : Nat} (h : ∀ q, S q = SB n c k mv (P + 1) q) : ct (TS n c k mv S P) 16384 = osz n c k mv P := ct_congr _ (fun q _ => bool_ext (by
  rw [TS_iff, TS_iff, h q, SB_iff, decide_eq_true_eq]
  exact ⟨fun z => ⟨z.1.1, z.2⟩, fun z => ⟨⟨z.1, by omega⟩, z.2⟩⟩))
theorem SB_skip {n c k : Nat} {mv : Nat → Nat} {P : Nat} (h : isH n c k mv P = false) (q : Nat) : SB n c k mv P q = SB n c k mv (P + 1) q := bool_ext (by
  rw [SB_iff, SB_iff]
  refine ⟨fun z => ⟨z.1, by omega⟩, fun z => ⟨z.1, ?_⟩⟩
  rcases Nat.lt_or_ge (hdP n c k mv q) P with y | y
  · exact y
  · have e : hdP n c k mv q = P := by omega
    have := isH_hd (n := n) (c := c) (k := k) (mv := mv) q
    rw [e, h] at this
    cases this)
theorem hd_act {n c k : Nat} {mv : Nat → Nat} {q m : Nat} (hm : m < k) : hdP n c k mv (act n c (mv m) q) ≤ hdP n c k mv q := hd_mono (RP.one hm)
theorem TS_le {n c k : Nat} {mv : Nat → Nat} (S : Nat → Bool) (P N : Nat) : ct (TS n c k mv S P) N ≤ ct S N := ct_le2 N (fun q _ h => (TS_iff.mp h).1)
/-- the class's flood -/
def FI (n c k : Nat) (mv : Nat → Nat) (P : Nat) (S : Nat → Bool) (s : Nat) (ranks found : Nat → Int32) : Prop :=
  OS n c k mv S P ∧ s = ct (TS n c k mv S P) 16384 ∧ (∀ q, q < 16384 → ranks q = if S q then nI (ct (isH n c k mv) (hdP n c k mv q)) else -1) ∧ (∀ i, i < s → ∃ q, TS n c k mv S P q = true ∧ found i = nI q) ∧ ∀ q, TS n c k mv S P q = true → ∃ i, i < s ∧ found i = nI q
theorem w_isCellT {post : Int32 → Prop} {p : Nat} (hp : p < 2 ^ 31) (h1 : p < 16384 → post 1) (h0 : ¬ p < 16384 → post 0) : wp_Table_isCell post (nI p) := by
  unfold wp_Table_isCell
  exact ⟨fun z => absurd z (nI_pos hp), fun _ => pk_le 16384 p (fun z => h0 (by omega)) (fun z => h1 z)⟩
theorem w_findT {post : Int32 → (Nat → Int32) → (Nat → Int32) → Prop} {n c k P s q : Nat} {mv : Nat → Nat} {S : Nat → Bool} {ranks found : Nat → Int32} (hk : Pk n c k mv) (hI : FI n c k mv P S s ranks found) (hq : q < c ^ n) (hqP : hdP n c k mv q ≤ P)
    (h : ∀ (S' : Nat → Bool) (s' : Nat) (ranks' found' : Nat → Int32), FI n c k mv P S' s' ranks' found' → (∀ p, S p = true → S' p = true) → S' q = true → s ≤ s' → (∀ i, i < s → found' i = found i) → post (nI s') ranks' found') : wp_Table_find post (nI s) (nI (ct (isH n c k mv) P)) ranks found (nI q) := by
  have hN := hk.N
  obtain ⟨g0, g1, g2, g4, g5⟩ := hI
  have hs5 : s ≤ 16384 := by rw [g1]; exact ct_le _ _
  have hcP : ∀ x, ct (isH n c k mv) x ≤ x := fun x => ct_le _ _
  have hqle := hd_le (n := n) (c := c) (k := k) (mv := mv) q
  unfold wp_Table_find
  refine w_isCellT (by omega) (fun _ => ⟨fun z => absurd z (by decide), fun _ => ⟨pk_in q 16384 (by omega), ?_⟩⟩) (fun z => absurd (show q < 16384 by omega) z)
  rw [nI_clamp (show q < 2 ^ 31 by omega), g2 q (by omega)]
  cases eS : S q with
  | true =>
    rw [if_pos rfl]
    refine ⟨fun z => absurd z (nI_m1 (by have := hcP (hdP n c k mv q); omega)), fun _ => h S s ranks found ⟨g0, g1, g2, g4, g5⟩ (fun _ z => z) eS (Nat.le_refl _) (fun _ _ => rfl)⟩
  | false =>
    rw [if_neg (by decide)]
    have ehd : hdP n c k mv q = P := by
      rcases Nat.lt_or_ge (hdP n c k mv q) P with y | y
      · rw [g0.2 q hq y] at eS; cases eS
      · omega
    have eT : TS n c k mv S P q = false := by unfold TS; rw [eS]; rfl
    have hlt : s < 16384 := by rw [g1]; exact ct_room (show q < 16384 by omega) eT
    refine ⟨fun _ => ?_, fun z => absurd rfl z⟩
    refine w_isCellT (by omega) (fun _ => ⟨fun z => absurd z (by decide), fun _ => ⟨pk_in q 16384 (by omega), pk_in s 16384 hlt, nm_r (nI_1 s) ?_⟩⟩) (fun z => absurd hlt z)
    rw [nI_clamp (show s < 2 ^ 31 by omega)]
    refine h (ins S q) (s + 1) _ _ ⟨g0.put hq hqP, ?_, fun p hp => ?_, fun i hi => ?_, fun p hp => ?_⟩ (fun p z => ins_old z) (ins_self _ _) (by omega) (fun i hi => pk_un (by omega))
    · rw [ct_congr 16384 (fun q' _ => TS_ins ehd q'), ct_ins (show q < 16384 by omega) eT, g1]
    · by_cases e : p = q
      · rw [e, pk_us, ins_self, if_pos rfl, ehd]
      · rw [pk_un e, ins_ne e, g2 p hp]
    · by_cases e : i = s
      · rw [e, pk_us]
        exact ⟨q, TS_iff.mpr ⟨ins_self _ _, ehd⟩, rfl⟩
      · rw [pk_un e]
        obtain ⟨p, z1, z2⟩ := g4 i (by omega)
        exact ⟨p, by rw [TS_ins ehd]; exact ins_old z1, z2⟩
    · rw [TS_ins ehd] at hp
      by_cases e : p = q
      · exact ⟨s, by omega, by rw [pk_us, e]⟩
      · rw [ins_ne e] at hp
        obtain ⟨i, z1, z2⟩ := g5 p hp
        exact ⟨i, by omega, by rw [pk_un (by omega)]; exact z2⟩
