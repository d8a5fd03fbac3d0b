/-! edges, second: what is fit, what is kept -/
theorem b2_c {A B : Prop} (b : Bool) (h0 : b = false → A) (h1 : b = true → B) : (b2 b = 0 → A) ∧ (¬ b2 b = 0 → B) := by
  cases b with
  | false => exact ⟨fun _ => h0 rfl, fun z => absurd rfl z⟩
  | true => exact ⟨fun z => absurd z (by decide), fun _ => h1 rfl⟩
theorem b2_01 (b : Bool) : b2 b = 0 ∨ b2 b = 1 := by cases b <;> decide
def noLike (ed : Nat → Nat → Bool) (t : Nat → Nat) (x : Nat) : Bool := allB (fun y => !(ed x y && t x == t y)) x
def fitB (n : Nat) (ed : Nat → Nat → Bool) (t : Nat → Nat) : Bool := allB (noLike ed t) n
def tkX (ed : Nat → Nat → Bool) (R x : Nat) : Bool := allB (fun y => !ed x y || ed (tg R x) (tg R y)) x
def tkB (n : Nat) (ed : Nat → Nat → Bool) (R : Nat) : Bool := allB (tkX ed R) n
def kpE (n k : Nat) (mv : Nat → Nat) (ed : Nat → Nat → Bool) : Bool := allB (fun m => tkB n ed (mv m)) k
theorem allB_ext {P : Nat → Bool} {a b : Nat} (h : a ≤ b) (hP : ∀ i, a ≤ i → i < b → P i = true) : allB P a = allB P b := by
  induction b with
  | zero => rw [show a = 0 by omega]
  | succ b ih =>
    by_cases e : a = b + 1
    · rw [e]
    · rw [ih (by omega) (fun i h1 h2 => hP i h1 (by omega))]
      show _ = (allB P b && P b)
      rw [hP b (by omega) (by omega), Bool.and_true]
theorem w_isLike {post : Int32 → Prop} {nb : Nat → Int32} {ed : Nat → Nat → Bool} {n c p x : Nat} (hE : EdC nb ed) (hn : n ≤ 7) (hc : 0 < c) (hc4 : c ≤ 4) (hx : x < n) (h : post (b2 (!noLike ed (col n c p) x))) : wp_Edges_isLikeALesserNeighbour post nb (nI (spd n c p)) (nI x) := by
  unfold wp_Edges_isLikeALesserNeighbour
  refine w_colPlan hn hc hc4 hx ?_
  refine lpB (fun k i => L_Edges_isLikeALesserNeighbour_9 post nb (nI (spd n c p)) (nI x) (nI (col n c p x)) k (nI i)) (fun y => !(ed x y && col n c p x == col n c p y)) x ?_ ?_
  · intro ha k
    refine pk_le x x (fun _ => ?_) (fun z => absurd z (by omega))
    unfold noLike at h
    rw [ha] at h
    exact h
  · intro k i hi hw hc2
    refine pk_le x i (fun z => absurd z (by omega)) (fun _ => w_joins hE (by omega) (by omega) (b2_c _ (fun g => ?_) (fun g => ?_)))
    · exact nm_r (nI_1 i) (hw (by rw [g]; rfl))
    · have b1 := col_lt (n := n) (p := p) (x := i) hc
      have b3 := col_lt (n := n) (p := p) (x := x) hc
      refine w_colPlan hn hc hc4 (by omega) (pk_eq _ _ (fun e => ?_) (fun e => ?_) rfl rfl (by omega) (by omega))
      · rcases hc2 with q | ⟨_, q⟩
        · rw [g, e] at q
          simp at q
        · unfold noLike at h
          rw [q] at h
          exact h
      · refine nm_r (nI_1 i) (hw ?_)
        rw [g]
        have : (col n c p x == col n c p i) = false := by simpa using fun z => e z.symm
        rw [this]
        rfl
theorem zz_noBits {M : Nat} (hM : M < 256) (h : ∀ y, y < 8 → M.testBit y = false) : M = 0 := by
  apply Nat.eq_of_testBit_eq
  intro i
  rw [Nat.zero_testBit]
  rcases Nat.lt_or_ge i 8 with g | g
  · exact h i g
  · exact Nat.testBit_lt_two_pow (Nat.lt_of_lt_of_le hM (Nat.pow_le_pow_right (n := 2) (by decide) g))
theorem noLike_out {n : Nat} {ed : Nat → Nat → Bool} {t : Nat → Nat} (hO : EdOk n ed) {x : Nat} (hx : n ≤ x) : noLike ed t x = true := by
  refine (allB_true x).mpr (fun y _ => ?_)
  have : ed x y = false := by
    cases e : ed x y with
    | false => rfl
    | true => have := (hO.1 x y e).1; omega
  rw [this]
  rfl
/-- Edges.allow -/
theorem w_allow {post : Int32 → Prop} {nb : Nat → Int32} {ed : Nat → Nat → Bool} {n c p : Nat} (hE : EdC nb ed) (hO : EdOk n ed) (hn : n ≤ 7) (hc : 0 < c) (hc4 : c ≤ 4) (h : post (b2 (fitB n ed (col n c p)))) : wp_Edges_allow post nb (nI (spd n c p)) := by
  have e8 : allB (noLike ed (col n c p)) 8 = fitB n ed (col n c p) := (allB_ext (by omega) (fun i h1 _ => noLike_out hO h1)).symm
  refine lpB (fun k i => L_Edges_allow_2 post nb (nI (spd n c p)) k (nI i)) (noLike ed (col n c p)) 8 ?_ ?_
  · intro ha k
    refine pk_le 8 8 (fun _ => ?_) (fun z => absurd z (by omega))
    rw [← e8, ha] at h
    exact h
  · intro k i hi hw hc2
    refine pk_le 8 i (fun z => absurd z (by omega)) (fun _ => ⟨pk_in i 8 hi, ?_⟩)
    rw [nI_clamp (by omega)]
    obtain ⟨M, hM, e1, e2⟩ := hE i hi
    rw [e1]
    refine pk_eq (y := 0) M 0 (fun z => ?_) (fun z => ?_) rfl rfl (by omega) (by omega)
    · refine nm_r (nI_1 i) (hw ((allB_true i).mpr (fun y hy => ?_)))
      rw [← e2 y (by omega), z, Nat.zero_testBit]
      rfl
    · have hin : i < n := by
        rcases Nat.lt_or_ge i n with g | g
        · exact g
        · exact absurd (zz_noBits hM (fun y hy => by
            rw [e2 y hy]
            cases e : ed i y with
            | false => rfl
            | true => have := (hO.1 i y e).1; omega)) z
      refine w_isLike hE hn hc hc4 hin (b2_c _ (fun g => nm_r (nI_1 i) (hw (by simpa using g))) (fun g => ?_))
      rcases hc2 with q | ⟨_, q⟩
      · rw [q] at g
        cases g
      · rw [← e8, q] at h
        exact h
/-- Edges.areAllTakenToEdges -/
theorem w_taken {post : Int32 → Prop} {nb : Nat → Int32} {ed : Nat → Nat → Bool} {n R : Nat} (hE : EdC nb ed) (hO : EdOk n ed) (hn : n ≤ 7) (hR : R < 2 ^ 32) (h : post (b2 (tkB n ed R))) : wp_Edges_areAllTakenToEdges post nb (nI R) := by
  have e8 : allB (tkX ed R) 8 = tkB n ed R := (allB_ext (by omega) (fun i h1 _ => (allB_true i).mpr (fun y _ => by
    have : ed i y = false := by
      cases e : ed i y with
      | false => rfl
      | true => have := (hO.1 i y e).1; omega
    rw [this]
    rfl))).symm
  refine lpB (fun k i => L_Edges_areAllTakenToEdges_2 post nb (nI R) k (nI i)) (tkX ed R) 8 ?_ ?_
  · intro ha k
    refine pk_le 8 8 (fun _ => ?_) (fun z => absurd z (by omega))
    rw [← e8, ha] at h
    exact h
  · intro k x hx hw hc2
    refine pk_le 8 x (fun z => absurd z (by omega)) (fun _ => ?_)
    refine lpB (fun k' i => L_Edges_areAllTakenToEdges_10 post (L_Edges_areAllTakenToEdges_2 post nb (nI R) k) nb (nI R) (nI x) k' (nI i)) (fun y => !ed x y || ed (tg R x) (tg R y)) x ?_ ?_
    · intro ha k'
      exact pk_le x x (fun _ => nm_r (nI_1 x) (hw ha)) (fun z => absurd z (by omega))
    · intro k' i hi hw2 hc3
      refine pk_le x i (fun z => absurd z (by omega)) (fun _ => w_joins hE (by omega) (by omega) (b2_c _ (fun g => nm_r (nI_1 i) (hw2 (by rw [g]; rfl))) (fun g => ?_)))
      refine w_tg hR (by omega) (w_tg hR (by omega) (w_joins hE (tg_lt R x) (tg_lt R i) (b2_c _ (fun q => ?_) (fun q => nm_r (nI_1 i) (hw2 (by rw [q]; simp))))))
      rcases hc3 with z | ⟨_, z⟩
      · rw [g, q] at z
        cases z
      · rcases hc2 with z2 | ⟨_, z2⟩
        · unfold tkX at z2
          rw [z2] at z
          cases z
        · rw [← e8, z2] at h
          exact h
theorem w_keptBy {post : Int32 → Prop} {nb rows : Nat → Int32} {ed : Nat → Nat → Bool} {n k : Nat} {mv : Nat → Nat} (hE : EdC nb ed) (hO : EdOk n ed) (hn : n ≤ 7) (hk : k ≤ 5) (hr : ∀ m, m < k → rows m = nI (mv m) ∧ mv m < 2 ^ 32) (h : post (b2 (kpE n k mv ed))) : wp_Edges_areKeptBy post nb (nI k) rows := by
  refine lpB (fun j i => L_Edges_areKeptBy_2 post nb (nI k) rows j (nI i)) (fun m => tkB n ed (mv m)) k ?_ ?_
  · intro ha j
    refine pk_le k k (fun _ => ?_) (fun z => absurd z (by omega))
    unfold kpE at h
    rw [ha] at h
    exact h
  · intro j i hi hw hc2
    refine pk_le k i (fun z => absurd z (by omega)) (fun _ => ⟨pk_in i 5 (by omega), ?_⟩)
    rw [nI_clamp (by omega), (hr i hi).1]
    refine w_taken hE hO hn (hr i hi).2 (b2_c _ (fun g => ?_) (fun g => nm_r (nI_1 i) (hw g)))
    rcases hc2 with z | ⟨_, z⟩
    · rw [g] at z
      cases z
    · unfold kpE at h
      rw [z] at h
      exact h
/-- the reference's edges -/
def EdM (e : Nat → Int32) (ed : Nat → Nat → Bool) : Prop := ∀ x y, x < 7 → y < 7 → e (7 * x + y) = b2 (ed x y)
theorem zz_7 (x y : Nat) : (7 : Int32) * nI x + nI y = nI (7 * x + y) := by
  rw [show (7 : Int32) * nI x = nI (7 * x) from pk_mul 7 x, nI_add]
theorem w_fitNow {post : Int32 → Prop} {e cf : Nat → Int32} {ed : Nat → Nat → Bool} {n c p : Nat} (hE : EdM e ed) (hn : n ≤ 7) (hc : 0 < c) (hc4 : c ≤ 4) (hcf : Col n c p cf) (h : post (b2 (fitB n ed (col n c p)))) : wp_Mo_isFitNow post (nI n) e cf := by
  refine lpU (fun k x => L_Mo_isFitNow_4 post (nI n) e cf k (b2 (allB (noLike ed (col n c p)) x)) (nI x)) n ?_ ?_
  · intro k
    exact pk_le n n (fun _ => ⟨b2_01 _, h⟩) (fun z => absurd z (by omega))
  · intro k x hx hw
    refine pk_le n x (fun z => absurd z (by omega)) (fun _ => ?_)
    have b3 := col_lt (n := n) (p := p) (x := x) hc
    have key := lpU (fun k' y => L_Mo_isFitNow_14 (L_Mo_isFitNow_4 post (nI n) e cf k) e cf (nI x) k' (b2 (allB (noLike ed (col n c p)) x && allB (fun y => !(ed x y && col n c p x == col n c p y)) y)) (nI y)) x ?_ ?_
    · have e1 : (allB (noLike ed (col n c p)) x && allB (fun y => !(ed x y && col n c p x == col n c p y)) 0) = allB (noLike ed (col n c p)) x := Bool.and_true _
      obtain ⟨m, hm⟩ := key
      rw [e1] at hm
      exact ⟨m, hm⟩
    · intro k'
      exact pk_le x x (fun _ => nm_r (nI_1 x) hw) (fun z => absurd z (by omega))
    · intro k' y hy hw2
      have b1 := col_lt (n := n) (p := p) (x := y) hc
      have e2 : allB (fun y => !(ed x y && col n c p x == col n c p y)) (y + 1) = (allB (fun y => !(ed x y && col n c p x == col n c p y)) y && !(ed x y && col n c p x == col n c p y)) := rfl
      refine pk_le x y (fun z => absurd z (by omega)) (fun _ => b2_c _ (fun g => nm_r (nI_1 y) ?_) (fun g => ?_))
      · rw [e2, ← Bool.and_assoc, g] at hw2
        exact hw2
      · rw [zz_7]
        refine ⟨pk_in (7 * x + y) 49 (by omega), ?_⟩
        rw [nI_clamp (by omega), hE x y (by omega) (by omega)]
        rw [e2, ← Bool.and_assoc, g, Bool.true_and] at hw2
        refine b2_c _ (fun q => nm_r (nI_1 y) ?_) (fun q => ⟨pk_in x 7 (by omega), pk_in y 7 (by omega), ?_⟩)
        · rw [q] at hw2
          exact hw2
        · rw [nI_clamp (show x < 2 ^ 31 by omega), nI_clamp (show y < 2 ^ 31 by omega), hcf x hx, hcf y (by omega)]
          rw [q, Bool.true_and] at hw2
          refine pk_eq _ _ (fun z => nm_r (nI_1 y) ?_) (fun z => nm_r (nI_1 y) ?_) rfl rfl (by omega) (by omega)
          · rw [z, beq_self_eq_true] at hw2
            exact hw2
          · have : (col n c p x == col n c p y) = false := by simpa using z
            rw [this] at hw2
            exact hw2
theorem w_areKept {post : Int32 → Prop} {e mr : Nat → Int32} {ed : Nat → Nat → Bool} {n k : Nat} {mv : Nat → Nat} (hE : EdM e ed) (hn : n ≤ 7) (hk : k ≤ 5) (hr : ∀ m, m < k → mr m = nI (mv m) ∧ mv m < 2 ^ 31) (hP : ∀ m, m < k → ∀ x, x < n → tg (mv m) x < n) (h : post (b2 (kpE n k mv ed))) : wp_Mo_areKept post (nI n) (nI k) mr e := by
  refine lpU (fun j m => L_Mo_areKept_4 post (nI n) (nI k) mr e j (b2 (allB (fun m => tkB n ed (mv m)) m)) (nI m)) k ?_ ?_
  · intro j
    exact pk_le k k (fun _ => ⟨b2_01 _, h⟩) (fun z => absurd z (by omega))
  · intro j m hm hw
    obtain ⟨hr1, hr2⟩ := hr m hm
    refine pk_le k m (fun z => absurd z (by omega)) (fun _ => ?_)
    have key := lpU (fun j2 x => L_Mo_areKept_14 (L_Mo_areKept_4 post (nI n) (nI k) mr e j) (nI n) mr e (nI m) j2 (b2 (allB (fun m => tkB n ed (mv m)) m && allB (tkX ed (mv m)) x)) (nI x)) n ?_ ?_
    · have e1 : (allB (fun m => tkB n ed (mv m)) m && allB (tkX ed (mv m)) 0) = allB (fun m => tkB n ed (mv m)) m := Bool.and_true _
      obtain ⟨q, hq⟩ := key
      rw [e1] at hq
      exact ⟨q, hq⟩
    · intro j2
      exact pk_le n n (fun _ => nm_r (nI_1 m) hw) (fun z => absurd z (by omega))
    · intro j2 x hx hw2
      refine pk_le n x (fun z => absurd z (by omega)) (fun _ => ?_)
      have key2 := lpU (fun j3 y => L_Mo_areKept_25 (L_Mo_areKept_14 (L_Mo_areKept_4 post (nI n) (nI k) mr e j) (nI n) mr e (nI m) j2) mr e (nI m) (nI x) j3 (b2 ((allB (fun m => tkB n ed (mv m)) m && allB (tkX ed (mv m)) x) && allB (fun y => !ed x y || ed (tg (mv m) x) (tg (mv m) y)) y)) (nI y)) x ?_ ?_
      · obtain ⟨q, hq⟩ := key2
        have e1 : ((allB (fun m => tkB n ed (mv m)) m && allB (tkX ed (mv m)) x) && allB (fun y => !ed x y || ed (tg (mv m) x) (tg (mv m) y)) 0) = (allB (fun m => tkB n ed (mv m)) m && allB (tkX ed (mv m)) x) := Bool.and_true _
        rw [e1] at hq
        exact ⟨q, hq⟩
      · intro j3
        refine pk_le x x (fun _ => nm_r (nI_1 x) ?_) (fun z => absurd z (by omega))
        have e2 : allB (tkX ed (mv m)) (x + 1) = (allB (tkX ed (mv m)) x && tkX ed (mv m) x) := rfl
        rw [e2, ← Bool.and_assoc] at hw2
        exact hw2
      · intro j3 y hy hw3
        have e2 : allB (fun y => !ed x y || ed (tg (mv m) x) (tg (mv m) y)) (y + 1) = (allB (fun y => !ed x y || ed (tg (mv m) x) (tg (mv m) y)) y && (!ed x y || ed (tg (mv m) x) (tg (mv m) y))) := rfl
        have t1 := hP m hm x hx
        have t2 := hP m hm y (by omega)
        refine pk_le x y (fun z => absurd z (by omega)) (fun _ => ?_)
        rw [nI_clamp (show m < 2 ^ 31 by omega), hr1, zz_tgS hr2 (by omega), zz_tgS hr2 (by omega), zz_7]
        refine ⟨pk_in m 5 (by omega), nm_r rfl ⟨pk_in m 5 (by omega), nm_r rfl (b2_c _ (fun g => nm_r (nI_1 y) ?_) (fun g => ⟨pk_in (7 * x + y) 49 (by omega), ?_⟩))⟩⟩
        · rw [e2, ← Bool.and_assoc, g] at hw3
          exact hw3
        · rw [e2, ← Bool.and_assoc, g, Bool.true_and] at hw3
          rw [nI_clamp (show 7 * x + y < 2 ^ 31 by omega), hE x y (by omega) (by omega)]
          refine b2_c _ (fun q => nm_r (nI_1 y) ?_) (fun q => ?_)
          · rw [q] at hw3
            exact hw3
          · rw [zz_7, nI_clamp (by omega), hE _ _ (by omega) (by omega)]
            refine ⟨pk_in (7 * tg (mv m) x + tg (mv m) y) 49 (by omega), b2_c _ (fun z => nm_r (nI_1 y) ?_) (fun z => nm_r (nI_1 y) ?_)⟩
            · rw [q, z] at hw3
              exact hw3
            · rw [q, z] at hw3
              exact hw3
