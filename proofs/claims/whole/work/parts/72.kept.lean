/-! counting kept and fit plans; queries of the group -/
theorem ct_step {P : Nat → Bool} {p : Nat} (b : Bool) (h : P p = b) : nI (ct P (p + 1)) = nI (ct P p) + b2 b := by
  rw [ct_succ, h]
  cases b with
  | false => show nI (ct P p + 0) = nI (ct P p) + nI 0; rw [nI_add]
  | true => show nI (ct P p + 1) = nI (ct P p) + nI 1; rw [nI_add]
theorem w_keptByM {post : Int32 → (Nat → Int32) → Prop} {n c i R : Nat} {fl : Bool} {ed : Nat → Nat → Bool} {e rows cf : Nat → Int32} (hn : n ≤ 7) (hc : 0 < c) (hc4 : c ≤ 4) (hN : c ^ n ≤ 16384) (hE : EdM e ed) (hi : i < 5040) (hr : rows i = nI R) (hP : isP n R) (h : ∀ g, post (nI (ct (fun p => kpt n c R p && (!fl || fitB n ed (col n c p))) (c ^ n))) g) : wp_Mo_keptBy post (nI n) (nI c) (nI (c ^ n)) e rows cf (nI i) (b2 fl) := by
  have hR := isP_lt hn hP
  unfold wp_Mo_keptBy
  rw [nI_clamp (show i < 2 ^ 31 by omega), hr]
  refine ⟨pk_in i 5040 hi, nm_r rfl ?_⟩
  have hpos : 0 < c ^ n := Nat.pow_pos hc
  refine Exists.elim (pk_loop (fun j p (s : Nat → Int32) => L_Mo_keptBy_13 post (nI n) (nI c) (nI (c ^ n)) e (b2 fl) (nI R) j s (nI (ct (fun p => kpt n c R p && (!fl || fitB n ed (col n c p))) p)) (nI p)) (fun p s => 0 < p → Col n c (p - 1) s) (c ^ n) 0 cf (Nat.zero_le _) (fun z => absurd z (by omega)) ?_ ?_) (fun j hj => ⟨j, hj⟩)
  · intro j s hs
    exact pk_le (c ^ n) (c ^ n) (fun _ => h s) (fun z => absurd z (by omega))
  · intro j p s hp hs hw
    refine pk_le (c ^ n) p (fun z => absurd z (by omega)) (fun _ => ?_)
    have body : ∀ g, Col n c p g → ∃ j2, L_Mo_keptBy_46 (L_Mo_keptBy_13 post (nI n) (nI c) (nI (c ^ n)) e (b2 fl) (nI R) j) (nI n) e g (b2 fl) (nI R) (nI (ct (fun p => kpt n c R p && (!fl || fitB n ed (col n c p))) p)) (nI p) j2 (1 : Int32) (0 : Int32) := by
      intro g hg
      have hw' := hw g (fun _ => hg)
      -- the end: what is added
      have fin : ∀ b : Bool, kpt n c R p = b → J_Mo_keptBy_97 (L_Mo_keptBy_13 post (nI n) (nI c) (nI (c ^ n)) e (b2 fl) (nI R) j) (nI n) e (b2 fl) g (nI (ct (fun p => kpt n c R p && (!fl || fitB n ed (col n c p))) p)) (nI p) (b2 b) := by
        intro b hb
        have add : ∀ b' : Bool, (kpt n c R p && (!fl || fitB n ed (col n c p))) = b' → ∀ x4 : Int32, x4 = nI (ct (fun p => kpt n c R p && (!fl || fitB n ed (col n c p))) p) + b2 b' → ∀ x5 : Int32, x5 = nI p + 1 → L_Mo_keptBy_13 post (nI n) (nI c) (nI (c ^ n)) e (b2 fl) (nI R) j g x4 x5 := by
          intro b' hb' x4 e4 x5 e5
          rw [← ct_step b' hb'] at e4
          rw [e4, e5, nI_1]
          exact hw'
        unfold J_Mo_keptBy_97
        refine b2_c b (fun z => ?_) (fun z => b2_c fl (fun q => ?_) (fun q => ?_))
        · exact add false (by rw [hb, z]; rfl)
        · exact add true (by rw [hb, z, q]; rfl)
        · refine w_fitNow hE hn hc hc4 hg (b2_c _ (fun y => ?_) (fun y => ?_))
          · exact add false (by rw [hb, z, q, y]; rfl)
          · exact add true (by rw [hb, z, q, y]; rfl)
      have key := lpB (fun j2 x => L_Mo_keptBy_46 (L_Mo_keptBy_13 post (nI n) (nI c) (nI (c ^ n)) e (b2 fl) (nI R) j) (nI n) e g (b2 fl) (nI R) (nI (ct (fun p => kpt n c R p && (!fl || fitB n ed (col n c p))) p)) (nI p) (j2 + 1) (1 : Int32) (nI x)) (fun x => col n c p x == col n c p (tg R x)) n ?_ ?_
      · obtain ⟨j2, hj2⟩ := key
        exact ⟨j2 + 1, hj2⟩
      · intro ha j2
        exact pk_le n n (fun _ => fin true ha) (fun z => absurd z (by omega))
      · intro j2 x hx hw2 hc2
        have ht := hP.2.1 x hx
        have b1 := col_lt (n := n) (p := p) (x := x) hc
        have b3 := col_lt (n := n) (p := p) (x := tg R x) hc
        refine pk_le n x (fun z => absurd z (by omega)) (fun _ => ⟨fun z => absurd z (by decide), fun _ => ?_⟩)
        rw [zz_tgS (by omega) (by omega), nI_clamp (show tg R x < 2 ^ 31 by omega), nI_clamp (show x < 2 ^ 31 by omega), hg x hx, hg _ ht]
        refine ⟨pk_in (tg R x) 7 (by omega), pk_in x 7 (by omega), pk_eq _ _ (fun z => nm_r (nI_1 x) (hw2 (by rw [z]; exact beq_self_eq_true _))) (fun z => nm_r (nI_1 x) ?_) rfl rfl (by omega) (by omega)⟩
        have hkf : kpt n c R p = false := by
          rcases hc2 with q | ⟨_, q⟩
          · exact absurd (eq_of_beq q).symm z
          · exact q
        exact ⟨fun _ => fin false hkf, fun _ => ⟨fun _ => fin false hkf, fun q => absurd rfl q⟩⟩
    refine pk_eq (y := 0) p 0 (fun z => ?_) (fun z => ?_) rfl rfl (by omega) (by omega)
    · exact w_look hn hc hc4 (by omega) body
    · have hs' := hs (by omega)
      have e : p - 1 + 1 = p := by omega
      refine w_looksOn (p := p - 1) hn hc hc4 (by omega) hs' (fun g hg => ?_)
      rw [e] at hg
      exact body g hg
theorem w_countKF {post : Int32 → Prop} {n c R : Nat} {ed : Nat → Nat → Bool} {nb : Nat → Int32} (hn : n ≤ 7) (hc : 0 < c) (hc4 : c ≤ 4) (hN : c ^ n ≤ 16384) (hE : EdC nb ed) (hO : EdOk n ed) (hP : isP n R) (h : post (nI (ct (fun p => kpt n c R p && fitB n ed (col n c p)) (c ^ n)))) : wp_SO_countKeptAndFit post nb (nI n) (nI c) (nI (c ^ n)) (nI R) := by
  have hR := isP_lt hn hP
  refine lpU (fun j p => L_SO_countKeptAndFit_4 post nb (nI n) (nI c) (nI (c ^ n)) (nI R) j (nI (ct (fun p => kpt n c R p && fitB n ed (col n c p)) p)) (nI p)) (c ^ n) ?_ ?_
  · intro j
    exact pk_le (c ^ n) (c ^ n) (fun _ => h) (fun z => absurd z (by omega))
  · intro j p hp hw
    have hcl : ct (fun p => kpt n c R p && fitB n ed (col n c p)) p ≤ p := ct_le _ _
    refine pk_le (c ^ n) p (fun z => absurd z (by omega)) (fun _ => w_spread hn hc hc4 (by omega) (w_isKept hn hc hc4 (by omega) hP.2.1 (b2_c _ (fun g => nm_r (nI_1 p) ?_) (fun g => w_allow hE hO hn hc hc4 (b2_c _ (fun q => nm_r (nI_1 p) ?_) (fun q => nm_r (e' := nI (ct (fun p => kpt n c R p && fitB n ed (col n c p)) (p + 1))) ?_ (nm_r (nI_1 p) hw)))))))
    · rw [ct_succ, g] at hw
      exact hw
    · rw [ct_succ, g, q] at hw
      exact hw
    · rw [ct_succ, g, q, nI_1]
      rfl
theorem w_rowAt {post : Int32 → Prop} {n k : Nat} {mv : Nat → Nat} {rows : Nat → Int32} {a : Int32} (hG : GRows n k mv rows) (h1 : ∀ j, j < ord n k mv → a = nI j → post (nI (gj n k mv j))) (h0 : (∀ j, j < ord n k mv → a ≠ nI j) → post (-1)) : wp_Group_rowAt post (nI (ord n k mv)) rows a := by
  have ho := ord_le n k mv
  unfold wp_Group_rowAt
  rcases pk_ix a (show ord n k mv < 2 ^ 31 by omega) with g | g | ⟨j, hj, rfl⟩
  · exact ⟨fun _ => h0 (fun j hj e => absurd g (by rw [e]; exact nI_pos (by omega))), fun z => absurd g z⟩
  · refine ⟨fun z => h0 (fun j hj e => absurd z (by rw [e]; exact nI_pos (by omega))), fun _ => ⟨fun _ => h0 (fun j hj e => ?_), fun z => absurd g z⟩⟩
    rw [e] at g
    exact absurd g (nI_ge hj (by omega))
  · refine ⟨fun z => absurd z (nI_pos (by omega)), fun _ => ⟨fun z => absurd z (nI_ge hj (by omega)), fun _ => ⟨pk_in j 5040 (by omega), ?_⟩⟩⟩
    rw [nI_clamp (by omega), (gj_row hG hj).1]
    exact h1 j hj rfl
theorem w_numberOf {post : Int32 → Prop} {n k R : Nat} {mv : Nat → Nat} {nbp : Nat → Int32} (hn : n ≤ 7) (hG : GNum n k mv nbp) (hP : isP n R) (h : post (if gi n k mv (rkR n R) then nI (ct (gi n k mv) (rkR n R)) else -1)) : wp_Group_numberOf post (nI n) nbp (nI R) := by
  have hp5 : rkR n R < 5040 := rk_lt hn
  unfold wp_Group_numberOf
  refine w_placeR hn hP (w_isCellG (by omega) (fun _ => ⟨fun z => absurd z (by decide), fun _ => ⟨pk_in (rkR n R) 5040 hp5, ?_⟩⟩) (fun z => absurd hp5 z))
  rw [nI_clamp (by omega), hG _ hp5]
  exact h
theorem w_allCycles {post : Int32 → Prop} {n k : Nat} {mv : Nat → Nat} {rows : Nat → Int32} (hM : MvOk n k mv) (hG : GRows n k mv rows) (h : post (nI (sm (fun j => cyc n (gj n k mv j)) (ord n k mv)))) : wp_Group_allCycles post (nI n) (nI (ord n k mv)) rows := by
  have ho := ord_le n k mv
  refine lpU (fun j i => L_Group_allCycles_4 post (nI n) (nI (ord n k mv)) rows j (nI (sm (fun j => cyc n (gj n k mv j)) i)) (nI i)) (ord n k mv) ?_ ?_
  · intro j
    exact pk_le (ord n k mv) (ord n k mv) (fun _ => h) (fun z => absurd z (by omega))
  · intro j i hi hw
    obtain ⟨r1, r2⟩ := gj_row hG hi
    refine pk_le (ord n k mv) i (fun z => absurd z (by omega)) (fun _ => ⟨pk_in i 5040 (by omega), ?_⟩)
    rw [nI_clamp (by omega), r1]
    exact w_countCycles hM.1 (r2.isP hM) (nm_r (nI_add _ _) (nm_r (nI_1 i) hw))
