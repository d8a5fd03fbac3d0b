/-! calls that change -/
def stC (a b : Int32) (n c : Nat) : Prop := 0 < n ∧ n ≤ 7 ∧ 0 < c ∧ c ≤ 4 ∧ a = nI n ∧ b = nI c
theorem stC_u {a b : Int32} {n c n' c' : Nat} (h : stC a b n c) (h' : stC a b n' c') : n = n' ∧ c = c' := by
  obtain ⟨_, h1, _, h2, h3, h4⟩ := h
  obtain ⟨_, g1, _, g2, g3, g4⟩ := h'
  exact ⟨(nI_eq (by omega) (by omega)).mp (h3.symm.trans g3), (nI_eq (by omega) (by omega)).mp (h4.symm.trans g4)⟩
theorem EdC_0 {nb : Nat → Int32} (h : ∀ j, j < 8 → nb j = 0) : EdC nb (fun _ _ => false) := fun x hx => ⟨0, by omega, h x hx, fun y _ => Nat.zero_testBit y⟩
theorem EdOk_0 (n : Nat) : EdOk n (fun _ _ => false) := ⟨fun _ _ h => (nomatch h), fun _ _ => rfl⟩
theorem Pk_0 {n c : Nat} (mv : Nat → Nat) (h0 : 0 < n) (h7 : n ≤ 7) (hc : 0 < c) (h4 : c ≤ 4) : Pk n c 0 mv := ⟨h0, hc, h4, h7, by omega, fun i hi => absurd hi (by omega)⟩
theorem so_begin {post : Int32 → Int32 → Int32 → (Nat → Int32) → Int32 → Int32 → Int32 → (Nat → Int32) → (Nat → Int32) → Prop} {n c : Nat} {en u wt : Nat → Int32} (h0 : 0 < n) (h7 : n ≤ 7)
    (h : ∀ en' u' wt', EdC en' (fun _ _ => false) → Un n c u' → (∀ j, j < 4 → wt' j = 1) → post 0 0 (nI 0) en' (nI n) (nI c) (nI (c ^ n)) u' wt') : wp_SO_begin post en u wt (nI n) (nI c) := by
  unfold wp_SO_begin
  refine w_shape h0 h7 (fun u' hu => ?_)
  unfold wp_Moves_clear wp_Edges_clear
  refine w_fill (N := 8) (by omega) (fun en' he => w_fill (N := 4) (by omega) (fun wt' hw => ?_))
  unfold wp_SO_forgetGroup
  exact h _ _ _ (EdC_0 he) hu hw
theorem so_set {post : Int32 → Int32 → Int32 → Int32 → (Nat → Int32) → Int32 → Int32 → Int32 → (Nat → Int32) → (Nat → Int32) → Prop} {gk tk mc pp pc pn a b : Int32} {en u wt : Nat → Int32}
    (h1 : ∀ n c, stC a b n c → ∀ en' u' wt', EdC en' (fun _ _ => false) → Un n c u' → (∀ j, j < 4 → wt' j = 1) → post (nI (c ^ n)) 0 0 (nI 0) en' (nI n) (nI c) (nI (c ^ n)) u' wt')
    (h0 : (∀ n c, ¬ stC a b n c) → post (-2) gk tk mc en pp pc pn u wt) : wp_SO_set post gk tk mc en pp pc pn u wt a b := by
  unfold wp_SO_set
  rcases pk_ix a (show 8 < 2 ^ 31 by omega) with g | g | ⟨n, hn, rfl⟩
  · refine ⟨fun _ => h0 (fun n c z => ?_), fun z => absurd (Int32.lt_trans g (by decide)) z⟩
    obtain ⟨_, _, _, _, z, _⟩ := z
    rw [z] at g
    exact absurd g (nI_pos (by omega))
  · have ho : ∀ n c, ¬ stC a b n c := fun n c ⟨_, _, _, _, z, _⟩ => by
      rw [z] at g
      exact absurd g (nI_ge (by omega) (by omega))
    have g2 : 7 < a := Int32.lt_of_lt_of_le (by decide) g
    exact ⟨fun _ => h0 ho, fun _ => ⟨fun _ => h0 ho, fun z => absurd g2 z⟩⟩
  · refine pk_lt (y := 1) n 1 (fun z => h0 (fun n' c' w => ?_)) (fun z1 => ?_) rfl rfl (by omega) (by omega)
    · obtain ⟨w0, w1, _, _, w2, _⟩ := w
      have := (nI_eq (by omega) (by omega)).mp w2
      omega
    · refine ⟨fun z => absurd z (nI_nlt (a := 7) (by omega) (by omega)), fun _ => ?_⟩
      rcases pk_ix b (show 5 < 2 ^ 31 by omega) with g | g | ⟨c, hc, rfl⟩
      · refine ⟨fun _ => h0 (fun n c z => ?_), fun z => absurd (Int32.lt_trans g (by decide)) z⟩
        obtain ⟨_, _, _, _, _, z⟩ := z
        rw [z] at g
        exact absurd g (nI_pos (by omega))
      · have ho : ∀ n' c, ¬ stC (nI n) b n' c := fun n c ⟨_, _, _, _, _, z⟩ => by
          rw [z] at g
          exact absurd g (nI_ge (by omega) (by omega))
        have g2 : ¬ b ≤ 4 := fun z => absurd (Int32.le_trans g z) (by decide)
        exact ⟨fun _ => h0 ho, fun _ => ⟨fun z => absurd z g2, fun _ => h0 ho⟩⟩
      · refine pk_lt (y := 1) c 1 (fun z => h0 (fun n' c' w => ?_)) (fun z2 => ?_) rfl rfl (by omega) (by omega)
        · obtain ⟨w0, w1, _, _, _, w2⟩ := w
          have := (nI_eq (by omega) (by omega)).mp w2
          omega
        · exact ⟨fun _ => so_begin (by omega) (by omega) (fun en' u' wt' q1 q2 q3 => h1 n c ⟨by omega, by omega, by omega, by omega, rfl, rfl⟩ en' u' wt' q1 q2 q3), fun z => absurd (nI_le (b := 4) (show c ≤ 4 by omega) (by omega)) z⟩
theorem mo_begins {post : Int32 → Int32 → Int32 → Int32 → Int32 → Int32 → (Nat → Int32) → (Nat → Int32) → Prop} {n c : Nat} {e wt : Nat → Int32} (h7 : n ≤ 7)
    (h : ∀ e' wt', EdM e' (fun _ _ => false) → (∀ j, j < 4 → wt' j = 1) → post (nI n) (nI c) (nI (c ^ n)) (nI 0) 0 0 e' wt') : wp_Mo_begins post e wt (nI n) (nI c) := by
  unfold wp_Mo_begins
  refine lpU (fun f x => L_Mo_begins_17 post (nI n) (nI c) e wt f (nI (c ^ x)) (nI x)) n ?_ ?_
  · intro f
    refine pk_le n n (fun _ => ?_) (fun z => absurd z (by omega))
    refine Exists.elim (pk_loop (fun f x (s : Nat → Int32) => L_Mo_begins_51 post (nI n) (nI c) (nI (c ^ n)) 0 wt f s (nI x)) (fun x s => ∀ j, j < x → s j = 0) 49 0 e (by omega) (fun j hj => absurd hj (by omega)) ?_ ?_) (fun f hf => ⟨f, hf⟩)
    · intro f s hs
      refine pk_le (x := 49) 49 49 (fun _ => ?_) (fun z => absurd z (by omega))
      refine Exists.elim (pk_loop (fun f x (t : Nat → Int32) => L_Mo_begins_72 post (nI n) (nI c) (nI (c ^ n)) 0 s f t (nI x)) (fun x t => ∀ j, j < x → t j = 1) 4 0 wt (by omega) (fun j hj => absurd hj (by omega)) ?_ ?_) (fun f hf => ⟨f, hf⟩)
      · intro f t ht
        refine pk_le (x := 4) 4 4 (fun _ => h s t (fun x y hx hy => ?_) ht) (fun z => absurd z (by omega))
        exact hs _ (by omega)
      · intro f x t hx ht hw
        refine pk_le (x := 4) 4 x (fun z => absurd z (by omega)) (fun _ => ⟨pk_in x 4 hx, nm_r (nI_1 x) (hw _ (fun j hj => ?_))⟩)
        rw [nI_clamp (by omega)]
        by_cases q : j = x
        · rw [q, pk_us]
        · rw [pk_un q]
          exact ht j (by omega)
    · intro f x s hx hs hw
      refine pk_le (x := 49) 49 x (fun z => absurd z (by omega)) (fun _ => ⟨pk_in x 49 hx, nm_r (nI_1 x) (hw _ (fun j hj => ?_))⟩)
      rw [nI_clamp (by omega)]
      by_cases q : j = x
      · rw [q, pk_us]
        exact nar_0
      · rw [pk_un q]
        exact hs j (by omega)
  · intro f x hx hw
    exact pk_le n x (fun z => absurd z (by omega)) (fun _ => nm_r (by rw [pk_mul, Nat.pow_succ]) (nm_r (nI_1 x) hw))
theorem mo_set {post : Int32 → Int32 → Int32 → Int32 → Int32 → Int32 → Int32 → (Nat → Int32) → (Nat → Int32) → Prop} {tn tc tp tm hg ho a b : Int32} {e wt : Nat → Int32}
    (h1 : ∀ n c, stC a b n c → ∀ e' wt', EdM e' (fun _ _ => false) → (∀ j, j < 4 → wt' j = 1) → post (nI (c ^ n)) (nI n) (nI c) (nI (c ^ n)) (nI 0) 0 0 e' wt')
    (h0 : (∀ n c, ¬ stC a b n c) → post (-2) tn tc tp tm hg ho e wt) : wp_Mo_set post tn tc tp tm hg ho e wt a b := by
  unfold wp_Mo_set
  refine w_within1 (n := 7) (by omega) (fun n n0 n7 ea => y1 ?_) (fun q => y0 (h0 (fun n c z => q n z.1 z.2.1 z.2.2.2.2.1)))
  refine w_within1 (n := 4) (by omega) (fun c c0 c4 eb => y1 ?_) (fun q => y0 (h0 (fun n c z => q c z.2.2.1 z.2.2.2.1 z.2.2.2.2.2)))
  have h1' := h1 n c ⟨n0, n7, c0, c4, ea, eb⟩
  rw [ea, eb]
  exact mo_begins n7 h1'
def mvA (k R : Nat) (mv : Nat → Nat) : Nat → Nat := fun i => if i = k then R else mv i
theorem Pk_A {n c k R : Nat} {mv : Nat → Nat} (h : Pk n c k mv) (hk : k < 5) (hP : isP n R) : Pk n c (k + 1) (mvA k R mv) := by
  obtain ⟨a, b, d, e, f, g⟩ := h
  refine ⟨a, b, d, e, by omega, fun i hi => ?_⟩
  unfold mvA
  by_cases q : i = k
  · rw [if_pos q]; exact hP
  · rw [if_neg q]; exact g i (by omega)
theorem mr_A {k R : Nat} {mv : Nat → Nat} {mr : Nat → Int32} (h : ∀ i, i < k → mr i = nI (mv i)) : ∀ i, i < k + 1 → upd mr k (nI R) i = nI (mvA k R mv i) := by
  intro i hi
  unfold mvA
  by_cases q : i = k
  · rw [if_pos q, q, pk_us]
  · rw [if_neg q, pk_un q]; exact h i (by omega)
theorem so_move {post : Int32 → Int32 → Int32 → Int32 → (Nat → Int32) → Prop} {n c k R : Nat} {mv : Nat → Nat} {gk tk : Int32} {mr : Nat → Int32} (hk : Pk n c k mv) (hR : R < 2 ^ 32)
    (h1 : isP n R → k < 5 → post (nI (k + 1)) 0 0 (nI (k + 1)) (upd mr k (nI R))) (h2 : isP n R → k = 5 → post (-4) gk tk (nI k) mr) (h0 : ¬ isP n R → post (-2) gk tk (nI k) mr) : wp_SO_move post gk tk (nI k) mr (nI n) (nI R) := by
  have hk5 := hk.2.2.2.2.1
  unfold wp_SO_move
  refine w_isRow hR hk.2.2.2.1 (fun q => y1 ?_) (fun q => y0 (h0 q))
  unfold wp_Moves_push
  refine ⟨fun z => absurd z (nI_pos (by omega)), fun _ => pk_lt k 5 (fun z => ⟨pk_in k 5 z, nm_r (nI_1 k) (y1 ?_)⟩) (fun z => y0 (h2 q (by omega))) rfl rfl (by omega) (by omega)⟩
  unfold wp_SO_forgetGroup
  rw [nI_clamp (by omega)]
  exact h1 q z
theorem mo_move {post : Int32 → Int32 → Int32 → Int32 → (Nat → Int32) → (Nat → Int32) → Prop} {n c k R : Nat} {mv : Nat → Nat} {hg ho : Int32} {mr im : Nat → Int32} (hk : Pk n c k mv) (hR : R < 2 ^ 32)
    (h1 : isP n R → k < 5 → ∀ im', post (nI (k + 1)) (nI (k + 1)) 0 0 (upd mr k (nI R)) im') (h2 : isP n R → k = 5 → ∀ im', post (-4) (nI k) hg ho mr im') (h0 : ¬ isP n R → ∀ im', post (-2) (nI k) hg ho mr im') : wp_Mo_move post (nI n) (nI k) hg ho mr im (nI R) := by
  have hk5 := hk.2.2.2.2.1
  unfold wp_Mo_move
  refine w_reads hR hk.2.2.2.1 (fun q f _ => y1 ?_) (fun q f => y0 (h0 q f))
  refine pk_eq (y := 5) k 5 (fun z => h2 q z f) (fun z => ⟨pk_in k 5 (by omega), nm_r (nI_1 k) ?_⟩) rfl rfl (by omega) (by omega)
  rw [nI_clamp (by omega)]
  exact h1 q (by omega) f
theorem Pk_B {n c k : Nat} {mv : Nat → Nat} (h : Pk n c k mv) : Pk n c (k - 1) mv := by
  obtain ⟨a, b, d, e, f, g⟩ := h
  exact ⟨a, b, d, e, by omega, fun i hi => g i (by omega)⟩
theorem so_back {post : Int32 → Int32 → Int32 → Int32 → Prop} {k : Nat} {gk tk : Int32} (hk : k ≤ 5) (h1 : 0 < k → post (nI (k - 1)) 0 0 (nI (k - 1))) (h0 : k = 0 → post (-1) gk tk (nI k)) : wp_SO_back post gk tk (nI k) := by
  unfold wp_SO_back wp_Moves_pop wp_SO_forgetGroup
  refine pk_lt (x := 0) 0 k (fun z => nm_r (pk_sub (b := 1) z) (y1 (h1 z))) (fun z => y0 (h0 (by omega))) rfl rfl (by omega) (by omega)
theorem mo_back {post : Int32 → Int32 → Int32 → Int32 → Prop} {k : Nat} {hg ho : Int32} (hk : k ≤ 5) (h1 : 0 < k → post (nI (k - 1)) (nI (k - 1)) 0 0) (h0 : k = 0 → post (-1) (nI k) hg ho) : wp_Mo_back post (nI k) hg ho := by
  unfold wp_Mo_back
  exact pk_eq (y := 0) k 0 (fun z => h0 z) (fun z => nm_r (pk_sub (b := 1) (by omega)) (h1 (by omega))) rfl rfl (by omega) (by omega)
def egC (n : Nat) (a b : Int32) (x y : Nat) : Prop := x < n ∧ y < n ∧ x ≠ y ∧ a = nI x ∧ b = nI y
theorem egC_u {n : Nat} {a b : Int32} {x y x' y' : Nat} (hn : n ≤ 7) (h : egC n a b x y) (h' : egC n a b x' y') : x = x' ∧ y = y' := by
  obtain ⟨h1, h2, _, h3, h4⟩ := h
  obtain ⟨g1, g2, _, g3, g4⟩ := h'
  exact ⟨(nI_eq (by omega) (by omega)).mp (h3.symm.trans g3), (nI_eq (by omega) (by omega)).mp (h4.symm.trans g4)⟩
theorem so_edge {post : Int32 → (Nat → Int32) → Prop} {n : Nat} {ed : Nat → Nat → Bool} {a b : Int32} {en : Nat → Int32} (hn : n ≤ 7) (hE : EdC en ed)
    (h1 : ∀ x y, egC n a b x y → ∀ en', EdC en' (edFl ed x y) → post (b2 (!ed x y)) en') (h0 : (∀ x y, ¬ egC n a b x y) → post (-2) en) : wp_SO_edge post en (nI n) a b := by
  unfold wp_SO_edge
  refine w_isPoint (by omega) (fun x hx ea => y1 ?_) (fun q => y0 (h0 (fun x y z => q x z.1 z.2.2.2.1)))
  refine w_isPoint (by omega) (fun y hy eb => y1 ?_) (fun q => y0 (h0 (fun x y z => q y z.2.1 z.2.2.2.2)))
  rw [ea, eb]
  refine pk_eq x y (fun z => h0 (fun x' y' w => ?_)) (fun z => ?_) rfl rfl (by omega) (by omega)
  · obtain ⟨w1, w2, w3, w4, w5⟩ := w
    have := (nI_eq (by omega) (by omega)).mp (ea.symm.trans w4)
    have := (nI_eq (by omega) (by omega)).mp (eb.symm.trans w5)
    omega
  · refine w_flip hE (by omega) (by omega) z (fun en' he => ?_)
    have h1' := h1 x y ⟨hx, hy, z, ea, eb⟩ en' he
    have e : edFl ed x y x y = !ed x y := by
      unfold edFl
      rw [if_pos (Or.inl ⟨rfl, rfl⟩)]
    refine w_joins he (by omega) (by omega) (b2_c _ (fun w => ?_) (fun w => ?_))
    · rw [← e, w] at h1'
      exact h1'
    · rw [← e, w] at h1'
      exact h1'
theorem EdM_fl {n x y : Nat} {ed : Nat → Nat → Bool} {e : Nat → Int32} (hn : n ≤ 7) (hO : EdOk n ed) (hE : EdM e ed) (hx : x < n) (hy : y < n) : EdM (upd (upd e (7 * x + y) (b2 (!ed x y))) (7 * y + x) (b2 (!ed x y))) (edFl ed x y) := by
  intro u v hu hv
  unfold edFl
  by_cases q : u = y ∧ v = x
  · rw [if_pos (Or.inr q), q.1, q.2, pk_us, hO.2 y x]
  · rw [pk_un (by omega)]
    by_cases q2 : u = x ∧ v = y
    · rw [if_pos (Or.inl q2), q2.1, q2.2, pk_us]
    · rw [pk_un (by omega), if_neg (fun w => w.elim q2 q)]
      exact hE u v hu hv
theorem mo_edge {post : Int32 → (Nat → Int32) → Prop} {n : Nat} {ed : Nat → Nat → Bool} {a b : Int32} {e : Nat → Int32} (hn : n ≤ 7) (hn0 : 0 < n) (hO : EdOk n ed) (hE : EdM e ed)
    (h1 : ∀ x y, egC n a b x y → ∀ e', EdM e' (edFl ed x y) → post (b2 (!ed x y)) e') (h0 : (∀ x y, ¬ egC n a b x y) → post (-2) e) : wp_Mo_edge post (nI n) e a b := by
  unfold wp_Mo_edge
  refine w_within hn0 (by omega) (fun x hx ea => y1 ?_) (fun q => y0 (h0 (fun x y z => q x z.1 z.2.2.2.1)))
  refine w_within hn0 (by omega) (fun y hy eb => y1 ?_) (fun q => y0 (h0 (fun x y z => q y z.2.1 z.2.2.2.2)))
  rw [ea, eb]
  refine pk_eq x y (fun z => h0 (fun x' y' w => ?_)) (fun z => ?_) rfl rfl (by omega) (by omega)
  · obtain ⟨w1, w2, w3, w4, w5⟩ := w
    have := (nI_eq (by omega) (by omega)).mp (ea.symm.trans w4)
    have := (nI_eq (by omega) (by omega)).mp (eb.symm.trans w5)
    omega
  · have i1 : (7 : Int32) * nI x + nI y = nI (7 * x + y) := by rw [show (7 : Int32) = nI 7 from rfl, pk_mul, nI_add]
    have i2 : (7 : Int32) * nI y + nI x = nI (7 * y + x) := by rw [show (7 : Int32) = nI 7 from rfl, pk_mul, nI_add]
    have h1' := h1 x y ⟨hx, hy, z, ea, eb⟩ _ (EdM_fl hn hO hE hx hy)
    rw [i1, nI_clamp (show 7 * x + y < 2 ^ 31 by omega), hE x y (by omega) (by omega)]
    refine ⟨pk_in (7 * x + y) 49 (by omega), b2_c _ (fun w => ?_) (fun w => ?_)⟩
    · rw [w] at h1'
      unfold J_Mo_edge_55
      rw [i1, i2, nI_clamp (show 7 * x + y < 2 ^ 31 by omega), nI_clamp (show 7 * y + x < 2 ^ 31 by omega), nar_1]
      exact ⟨pk_in (7 * x + y) 49 (by omega), pk_in (7 * y + x) 49 (by omega), y1 h1'⟩
    · rw [w] at h1'
      unfold J_Mo_edge_55
      rw [i1, i2, nI_clamp (show 7 * x + y < 2 ^ 31 by omega), nI_clamp (show 7 * y + x < 2 ^ 31 by omega), nar_0]
      exact ⟨pk_in (7 * x + y) 49 (by omega), pk_in (7 * y + x) 49 (by omega), y0 h1'⟩
def wtC (c : Nat) (a b : Int32) (x : Nat) : Prop := x < c ∧ a = nI x ∧ ∃ w, w ≤ 9 ∧ b = nI w
theorem so_weight {post : Int32 → (Nat → Int32) → Prop} {c : Nat} {a b : Int32} {wt : Nat → Int32} (hc4 : c ≤ 4) (h1 : ∀ x, wtC c a b x → post (wt x) (upd wt x b)) (h0 : (∀ x, ¬ wtC c a b x) → post (-2) wt) : wp_SO_weight post (nI c) wt a b := by
  unfold wp_SO_weight
  rcases pk_ix a (show c < 2 ^ 31 by omega) with g | g | ⟨x, hx, rfl⟩
  · exact ⟨fun _ => h0 (fun x z => absurd g (by rw [z.2.1]; exact nI_pos (by have := z.1; omega))), fun z => absurd g z⟩
  · refine ⟨fun z => h0 (fun x w => absurd z (by rw [w.2.1]; exact nI_pos (by have := w.1; omega))), fun _ => ⟨fun _ => h0 (fun x w => ?_), fun z => absurd g z⟩⟩
    rw [w.2.1] at g
    exact absurd g (nI_ge w.1 (by omega))
  · refine ⟨fun z => absurd z (nI_pos (by omega)), fun _ => ⟨fun z => absurd z (nI_ge hx (by omega)), fun _ => ?_⟩⟩
    rcases pk_ix b (show 10 < 2 ^ 31 by omega) with g | g | ⟨w, hw, rfl⟩
    · exact ⟨fun _ => h0 (fun x ⟨_, _, w, hw, e⟩ => absurd g (by rw [e]; exact nI_pos (by omega))), fun z => absurd g z⟩
    · have ho : ∀ x', ¬ wtC c (nI x) b x' := fun x' ⟨_, _, w, hw, e⟩ => by
        rw [e] at g
        exact absurd g (nI_ge (by omega) (by omega))
      have g2 : ¬ b ≤ 9 := fun z => absurd (Int32.le_trans g z) (by decide)
      exact ⟨fun _ => h0 ho, fun _ => ⟨fun z => absurd z g2, fun _ => h0 ho⟩⟩
    · refine ⟨fun z => absurd z (nI_pos (by omega)), fun _ => ⟨fun _ => ⟨pk_in x 4 (by omega), nm_r rfl ⟨pk_in x 4 (by omega), ?_⟩⟩, fun z => absurd (nI_le (b := 9) (show w ≤ 9 by omega) (by omega)) z⟩⟩
      rw [nI_clamp (by omega)]
      exact h1 x ⟨hx, rfl, w, by omega, rfl⟩
theorem mo_weight {post : Int32 → (Nat → Int32) → Prop} {c : Nat} {a b : Int32} {wt : Nat → Int32} (hc : 0 < c) (hc4 : c ≤ 4) (h1 : ∀ x, wtC c a b x → post (wt x) (upd wt x b)) (h0 : (∀ x, ¬ wtC c a b x) → post (-2) wt) : wp_Mo_weight post (nI c) wt a b := by
  unfold wp_Mo_weight
  refine w_within hc (by omega) (fun x hx ea => y1 ?_) (fun q => y0 (h0 (fun x z => q x z.1 z.2.1)))
  refine w_within0 (n := 9) (by omega) (fun w hw eb => y1 ?_) (fun q => y0 (h0 (fun x ⟨_, _, w, hw, e⟩ => q w hw e)))
  have h1' := h1 x ⟨hx, ea, w, hw, eb⟩
  rw [ea]
  refine ⟨pk_in x 4 (by omega), nm_r rfl ⟨pk_in x 4 (by omega), ?_⟩⟩
  rw [nI_clamp (by omega)]
  exact h1'
