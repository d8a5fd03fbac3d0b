/-! the group -/
def chn (n F S : Nat) : Nat := enc (fun x => tg S (tg F x)) n
def idR (n : Nat) : Nat := enc (fun x => x % 8) n
theorem tg_chn {n F S x : Nat} (hx : x < n) : tg (chn n F S) x = tg S (tg F x) := tg_enc n (fun x _ => tg_lt _ _) x hx
theorem tg_idR {n x : Nat} (hn : n ≤ 7) (hx : x < n) : tg (idR n) x = x := by
  rw [show tg (idR n) x = x % 8 from tg_enc (t := fun x => x % 8) n (fun x _ => Nat.mod_lt _ (by decide)) x hx, Nat.mod_eq_of_lt (by omega)]
theorem isP_id {n : Nat} (hn : n ≤ 7) : isP n (idR n) := ⟨enc_lt n (fun x _ => Nat.mod_lt _ (by decide)), fun x hx => by rw [tg_idR hn hx]; exact hx, fun x y hx hy e => by rw [tg_idR hn hx, tg_idR hn hy] at e; exact e⟩
theorem isP_chn {n F S : Nat} (hF : isP n F) (hS : isP n S) : isP n (chn n F S) := ⟨enc_lt n (fun x _ => tg_lt _ _), fun x hx => by rw [tg_chn hx]; exact hS.2.1 _ (hF.2.1 x hx), fun x y hx hy e => by
  rw [tg_chn hx, tg_chn hy] at e
  exact hF.2.2 x y hx hy (hS.2.2 _ _ (hF.2.1 x hx) (hF.2.1 y hy) e)⟩
def InG (n k : Nat) (mv : Nat → Nat) (R : Nat) : Prop := ∃ l : List Nat, (∀ i ∈ l, i < k) ∧ R = l.foldl (fun r i => chn n r (mv i)) (idR n)
theorem InG.id {n k : Nat} {mv : Nat → Nat} : InG n k mv (idR n) := ⟨[], fun i h => absurd h List.not_mem_nil, rfl⟩
theorem InG.step {n k : Nat} {mv : Nat → Nat} {R i : Nat} (h : InG n k mv R) (hi : i < k) : InG n k mv (chn n R (mv i)) := by
  obtain ⟨l, h1, h2⟩ := h
  refine ⟨l ++ [i], fun j hj => ?_, ?_⟩
  · rcases List.mem_append.mp hj with q | q
    · exact h1 j q
    · rw [List.mem_singleton.mp q]; exact hi
  · rw [List.foldl_append, ← h2]
    rfl
theorem InG.ind {n k : Nat} {mv : Nat → Nat} {S : Nat → Prop} (h0 : S (idR n)) (hs : ∀ R i, S R → i < k → S (chn n R (mv i))) {R : Nat} (h : InG n k mv R) : S R := by
  obtain ⟨l, h1, rfl⟩ := h
  have key : ∀ (l : List Nat) (r : Nat), (∀ i ∈ l, i < k) → S r → S (l.foldl (fun r i => chn n r (mv i)) r) := by
    intro l
    induction l with
    | nil => intro r _ hr; exact hr
    | cons a l ih => intro r hl hr; exact ih _ (fun i hi => hl i (List.mem_cons_of_mem _ hi)) (hs r a hr (hl a List.mem_cons_self))
  exact key l _ h1 h0
def MvOk (n k : Nat) (mv : Nat → Nat) : Prop := n ≤ 7 ∧ k ≤ 5 ∧ ∀ i, i < k → isP n (mv i)
theorem InG.isP {n k : Nat} {mv : Nat → Nat} (hM : MvOk n k mv) {R : Nat} (h : InG n k mv R) : isP n R := h.ind (isP_id hM.1) (fun R i hR hi => isP_chn hR (hM.2.2 i hi))
def rkR (n R : Nat) : Nat := rk n (tg R)
theorem w_placeR {post : Int32 → Prop} {R n : Nat} (hn : n ≤ 7) (hP : isP n R) (h : post (nI (rkR n R))) : wp_Rows_place post (nI R) (nI n) := w_place hn hP h
noncomputable def gi (n k : Nat) (mv : Nat → Nat) (p : Nat) : Bool := @decide (∃ R, InG n k mv R ∧ rkR n R = p) (Classical.propDecidable _)
theorem gi_iff {n k : Nat} {mv : Nat → Nat} {p : Nat} : gi n k mv p = true ↔ ∃ R, InG n k mv R ∧ rkR n R = p := @decide_eq_true_iff _ (Classical.propDecidable _)
noncomputable def gr (n k : Nat) (mv : Nat → Nat) (p : Nat) : Nat := @dite Nat (∃ R, InG n k mv R ∧ rkR n R = p) (Classical.propDecidable _) (fun h => h.choose) (fun _ => 0)
theorem gr_spec {n k : Nat} {mv : Nat → Nat} {p : Nat} (h : gi n k mv p = true) : InG n k mv (gr n k mv p) ∧ rkR n (gr n k mv p) = p := by
  have h' := gi_iff.mp h
  unfold gr
  rw [dif_pos h']
  exact h'.choose_spec
theorem gi_of {n k : Nat} {mv : Nat → Nat} {R : Nat} (h : InG n k mv R) : gi n k mv (rkR n R) = true := gi_iff.mpr ⟨R, h, rfl⟩
theorem gr_of {n k : Nat} {mv : Nat → Nat} (hM : MvOk n k mv) {R : Nat} (h : InG n k mv R) : gr n k mv (rkR n R) = R := by
  have := gr_spec (gi_of h)
  exact isP_inj hM.1 (this.1.isP hM) (h.isP hM) this.2
theorem gi_lt {n k : Nat} {mv : Nat → Nat} {p : Nat} (h : gi n k mv p = true) : p < fc n := by
  obtain ⟨R, _, rfl⟩ := gi_iff.mp h
  exact rk_ltf
theorem gi_lt5 {n k : Nat} {mv : Nat → Nat} (hn : n ≤ 7) {p : Nat} (h : gi n k mv p = true) : p < 5040 := Nat.lt_of_lt_of_le (gi_lt h) (fc_le7 n hn)
/-- the place that a move leads to -/
noncomputable def nx (n k : Nat) (mv : Nat → Nat) (p m : Nat) : Nat := rkR n (chn n (gr n k mv p) (mv m))
theorem gi_nx {n k : Nat} {mv : Nat → Nat} {p m : Nat} (h : gi n k mv p = true) (hm : m < k) : gi n k mv (nx n k mv p m) = true := gi_of ((gr_spec h).1.step hm)
theorem gi_id {n k : Nat} {mv : Nat → Nat} : gi n k mv (rkR n (idR n)) = true := gi_of InG.id
/-- a set of places that holds the first and is closed holds all -/
theorem gi_closed {n k : Nat} {mv : Nat → Nat} (hM : MvOk n k mv) {S : Nat → Bool} (h0 : S (rkR n (idR n)) = true) (hs : ∀ p m, S p = true → gi n k mv p = true → m < k → S (nx n k mv p m) = true) {p : Nat} (h : gi n k mv p = true) : S p = true := by
  obtain ⟨R, hR, rfl⟩ := gi_iff.mp h
  have : InG n k mv R ∧ S (rkR n R) = true := InG.ind (S := fun R => InG n k mv R ∧ S (rkR n R) = true) ⟨InG.id, h0⟩ (fun R i hR hi => ⟨hR.1.step hi, by
    have := hs (rkR n R) i hR.2 (gi_of hR.1) hi
    unfold nx at this
    rw [gr_of hM hR.1] at this
    exact this⟩) hR
  exact this.2
theorem ct_hit {P : Nat → Bool} : ∀ {N j : Nat}, j < ct P N → ∃ p, p < N ∧ P p = true ∧ ct P p = j := by
  intro N
  induction N with
  | zero => intro j h; exact absurd h (Nat.not_lt_zero _)
  | succ N ih =>
    intro j h
    by_cases e : j < ct P N
    · obtain ⟨p, h1, h2, h3⟩ := ih e
      exact ⟨p, by omega, h2, h3⟩
    · rw [ct_succ] at h
      cases eP : P N with
      | false => rw [eP] at h; exact absurd h (by simpa using e)
      | true =>
        rw [eP] at h
        have : (true : Bool).toNat = 1 := rfl
        exact ⟨N, by omega, eP, by omega⟩
/-- a new member makes the count larger -/
def ins (S : Nat → Bool) (p : Nat) (q : Nat) : Bool := S q || decide (q = p)
theorem ins_self (S : Nat → Bool) (p : Nat) : ins S p p = true := by unfold ins; rw [decide_eq_true rfl, Bool.or_true]
theorem ins_old {S : Nat → Bool} {p q : Nat} (h : S q = true) : ins S p q = true := by unfold ins; rw [h]; rfl
theorem ins_ne {S : Nat → Bool} {p q : Nat} (h : q ≠ p) : ins S p q = S q := by unfold ins; rw [decide_eq_false h, Bool.or_false]
theorem ct_ins {S : Nat → Bool} {p N : Nat} (hp : p < N) (h : S p = false) : ct (ins S p) N = ct S N + 1 := by
  have e1 : ct (ins S p) N = sm (fun q => (S q).toNat + (decide (q = p)).toNat) N := sm_congr N (fun q _ => by
    show (S q || decide (q = p)).toNat = _
    by_cases e : q = p
    · rw [e, h, decide_eq_true rfl]; rfl
    · rw [decide_eq_false e, Bool.or_false]; rfl)
  rw [e1, sm_add, sm_at (f := fun q => (decide (q = p)).toNat) hp (fun q _ hne => by rw [decide_eq_false hne]; rfl), decide_eq_true rfl]
  rfl
theorem ct_room {S : Nat → Bool} {p N : Nat} (hp : p < N) (h : S p = false) : ct S N < N := by
  have := ct_le (ins S p) N
  rw [ct_ins hp h] at this
  omega
theorem gr_lt {n k : Nat} {mv : Nat → Nat} (hM : MvOk n k mv) {p : Nat} (h : gi n k mv p = true) : gr n k mv p < 2 ^ 21 := isP_lt hM.1 ((gr_spec h).1.isP hM)
theorem nI_m1 {a : Nat} (h : a < 2 ^ 31) : nI a ≠ (-1 : Int32) := fun e => by
  have := congrArg Int32.toInt e
  rw [nI_toInt h] at this
  have h2 : (-1 : Int32).toInt = -1 := by decide
  omega
/-- the class's group as it is being found -/
def GI (n k : Nat) (mv : Nat → Nat) (S : Nat → Bool) (s : Nat) (rows rbp : Nat → Int32) : Prop :=
  s = ct S 5040 ∧ (∀ p, p < 5040 → rbp p = if S p then nI (gr n k mv p) else -1) ∧ (∀ p, S p = true → gi n k mv p = true) ∧ (∀ i, i < s → ∃ p, S p = true ∧ rows i = nI (gr n k mv p)) ∧ ∀ p, S p = true → ∃ i, i < s ∧ rows i = nI (gr n k mv p)
theorem w_isCellG {post : Int32 → Prop} {p : Nat} (hp : p < 2 ^ 31) (h1 : p < 5040 → post 1) (h0 : ¬ p < 5040 → post 0) : wp_Group_isCell post (nI p) := by
  unfold wp_Group_isCell
  exact ⟨fun z => absurd z (nI_pos hp), fun _ => pk_le 5040 p (fun z => h0 (by omega)) (fun z => h1 z)⟩
theorem w_find {post : Int32 → (Nat → Int32) → (Nat → Int32) → Prop} {n k s R : Nat} {mv : Nat → Nat} {S : Nat → Bool} {rows rbp : Nat → Int32} (hM : MvOk n k mv) (hG : GI n k mv S s rows rbp) (hR : InG n k mv R)
    (h : ∀ (S' : Nat → Bool) (s' : Nat) (rows' rbp' : Nat → Int32), GI n k mv S' s' rows' rbp' → (∀ p, S p = true → S' p = true) → S' (rkR n R) = true → s ≤ s' → (∀ i, i < s → rows' i = rows i) → post (nI s') rows' rbp') : wp_Group_find post (nI n) (nI s) rows rbp (nI R) := by
  have hP := hR.isP hM
  have hp5 : rkR n R < 5040 := rk_lt hM.1
  obtain ⟨g1, g2, g3, g4, g5⟩ := hG
  have hs5 : s ≤ 5040 := by rw [g1]; exact ct_le _ _
  unfold wp_Group_find
  refine w_placeR hM.1 hP ?_
  refine w_isCellG (by omega) (fun _ => ⟨fun z => absurd z (by decide), fun _ => ⟨pk_in (rkR n R) 5040 hp5, ?_⟩⟩) (fun z => absurd hp5 z)
  rw [nI_clamp (show rkR n R < 2 ^ 31 by omega), g2 _ hp5]
  cases eS : S (rkR n R) with
  | true =>
    rw [if_pos rfl]
    refine ⟨fun z => absurd z (nI_m1 (by have := gr_lt hM (gi_of hR); omega)), fun _ => h S s rows rbp ⟨g1, g2, g3, g4, g5⟩ (fun _ q => q) eS (Nat.le_refl _) (fun _ _ => rfl)⟩
  | false =>
    rw [if_neg (by decide)]
    have hlt : s < 5040 := by rw [g1]; exact ct_room hp5 eS
    refine ⟨fun _ => ?_, fun z => absurd rfl z⟩
    refine w_isCellG (by omega) (fun _ => ⟨fun z => absurd z (by decide), fun _ => ⟨pk_in (rkR n R) 5040 hp5, pk_in s 5040 hlt, ?_⟩⟩) (fun z => absurd hlt z)
    refine nm_r (nI_1 s) ?_
    rw [nI_clamp (show s < 2 ^ 31 by omega)]
    refine h (ins S (rkR n R)) (s + 1) _ _ ⟨?_, fun p hp => ?_, fun p hp => ?_, fun i hi => ?_, fun p hp => ?_⟩ (fun p q => ins_old q) (ins_self _ _) (by omega) (fun i hi => pk_un (by omega))
    · rw [ct_ins hp5 eS, g1]
    · by_cases e : p = rkR n R
      · rw [e, pk_us, ins_self, if_pos rfl, gr_of hM hR]
      · rw [pk_un e, ins_ne e, g2 p hp]
    · by_cases e : p = rkR n R
      · rw [e]; exact gi_of hR
      · rw [ins_ne e] at hp; exact g3 p hp
    · by_cases e : i = s
      · rw [e, pk_us]
        exact ⟨rkR n R, ins_self _ _, by rw [gr_of hM hR]⟩
      · rw [pk_un e]
        obtain ⟨p, q1, q2⟩ := g4 i (by omega)
        exact ⟨p, ins_old q1, q2⟩
    · by_cases e : p = rkR n R
      · exact ⟨s, by omega, by rw [pk_us, e, gr_of hM hR]⟩
      · rw [ins_ne e] at hp
        obtain ⟨i, q1, q2⟩ := g5 p hp
        exact ⟨i, by omega, by rw [pk_un (by omega)]; exact q2⟩
