/-! edges: masks of neighbours, and the reference's 49 places -/
theorem w_fill {post : (Nat → Int32) → Prop} {N : Nat} {f : Nat → Int32} {v : Int32} (hN : N < 2 ^ 31) (h : ∀ g, (∀ j, j < N → g j = v) → post g) : wp_Arrays_fill post N f v := by
  unfold wp_Arrays_fill
  intro x3 e3
  subst e3
  exact pk_loop (fun k i s => L_Arrays_fill_5 post N v (nI N) k s (nI i)) (fun i s => ∀ j, j < i → s j = v) N 0 f (Nat.zero_le _) (fun j hj => absurd hj (by omega))
    (fun k s hs => pk_le N N (fun _ => h s hs) (fun z => absurd z (by omega)))
    (fun k i s hi hs hw => pk_le N i (fun z => absurd z (by omega)) (fun _ => ⟨pk_in i N hi, nm_r (nI_1 i) (hw _ (zz_fill (f := fun _ => v) (nI_clamp (by omega)) hs rfl))⟩))
def bcF (a : Int32) : Int32 :=
  let x := a - (((a.toUInt32 >>> ((1 : Int32).toUInt32 &&& Int32.toUInt32 31)).toInt32) &&& (1431655765 : Int32))
  let x := (x &&& (858993459 : Int32)) + (((x.toUInt32 >>> ((2 : Int32).toUInt32 &&& Int32.toUInt32 31)).toInt32) &&& (858993459 : Int32))
  let x := (x + ((x.toUInt32 >>> ((4 : Int32).toUInt32 &&& Int32.toUInt32 31)).toInt32)) &&& (252645135 : Int32)
  let x := x + ((x.toUInt32 >>> ((8 : Int32).toUInt32 &&& Int32.toUInt32 31)).toInt32)
  let x := x + ((x.toUInt32 >>> ((16 : Int32).toUInt32 &&& Int32.toUInt32 31)).toInt32)
  x &&& (63 : Int32)
def pc8 (v : Nat) : Nat := ct (fun b => v.testBit b) 8
theorem bc_ok : ∀ v, v < 256 → bcF (nI v) = nI (pc8 v) := by decide +kernel
theorem w_bitCount {post : Int32 → Prop} {v : Nat} (hv : v < 256) (h : post (nI (pc8 v))) : wp_Integer_bitCount post (nI v) := by
  rw [← bc_ok v hv] at h
  unfold wp_Integer_bitCount
  intro a ha b hb c hc d hd e he
  subst ha hb hc hd he
  exact h
def EdC (nb : Nat → Int32) (ed : Nat → Nat → Bool) : Prop := ∀ x, x < 8 → ∃ M, M < 256 ∧ nb x = nI M ∧ ∀ y, y < 8 → M.testBit y = ed x y
theorem zz_bit {M y : Nat} : M / 2 ^ y % 2 = (M.testBit y).toNat := by
  rw [Nat.testBit_eq_decide_div_mod_eq]
  rcases Nat.mod_two_eq_zero_or_one (M / 2 ^ y) with e | e <;> rw [e] <;> rfl
theorem zz_and7 {x : Nat} (hx : x < 8) : nI x &&& (7 : Int32) = nI x := by
  rw [pk_andN (by omega) 3 (by decide), Nat.mod_eq_of_lt (by omega)]
theorem w_joins {post : Int32 → Prop} {nb : Nat → Int32} {ed : Nat → Nat → Bool} {x y : Nat} (hE : EdC nb ed) (hx : x < 8) (hy : y < 8) (h : post (b2 (ed x y))) : wp_Edges_joins post nb (nI x) (nI y) := by
  obtain ⟨M, hM, e1, e2⟩ := hE x hx
  unfold wp_Edges_joins
  rw [zz_and7 hx, nI_clamp (by omega), e1, zz_ushr (by omega) (by omega), pk_andN (Nat.lt_of_le_of_lt (Nat.div_le_self _ _) (by omega)) 1 (by decide)]
  rw [← e2 y hy] at h
  refine ⟨pk_in x 8 hx, ?_⟩
  rw [show M / 2 ^ y % 2 ^ 1 = (M.testBit y).toNat from zz_bit]
  revert h
  cases M.testBit y with
  | true => exact fun h => ⟨fun _ => h, fun z => absurd rfl z⟩
  | false => exact fun h => ⟨fun z => absurd z (by decide), fun _ => h⟩
def edFl (ed : Nat → Nat → Bool) (x y a b : Nat) : Bool := if (a = x ∧ b = y) ∨ (a = y ∧ b = x) then !ed a b else ed a b
theorem zz_x256 {M y : Nat} (hM : M < 256) (hy : y < 8) : M ^^^ 2 ^ y < 256 := by
  have : (256 : Nat) = 2 ^ 8 := by decide
  rw [this] at hM ⊢
  exact Nat.xor_lt_two_pow hM (Nat.pow_lt_pow_right (by decide) hy)
theorem zz_1sh {y : Nat} (hy : y < 31) : (1 : Int32) <<< (nI y &&& 31) = nI (2 ^ y) := by
  have := zz_shl (n := 1) (k := y) (by omega) (by rw [Nat.one_mul]; exact Nat.pow_lt_pow_right (by decide) (by omega))
  rw [Nat.one_mul] at this
  exact this
theorem w_flip {post : (Nat → Int32) → Prop} {nb : Nat → Int32} {ed : Nat → Nat → Bool} {x y : Nat} (hE : EdC nb ed) (hx : x < 8) (hy : y < 8) (hxy : x ≠ y) (h : ∀ nb', EdC nb' (edFl ed x y) → post nb') : wp_Edges_flip post nb (nI x) (nI y) := by
  obtain ⟨M, hM, e1, e2⟩ := hE x hx
  obtain ⟨P, hP, f1, f2⟩ := hE y hy
  unfold wp_Edges_flip
  rw [zz_and7 hx, zz_and7 hy, nI_clamp (show x < 2 ^ 31 by omega), nI_clamp (show y < 2 ^ 31 by omega), zz_1sh (by omega), zz_1sh (by omega)]
  refine ⟨pk_in x 8 hx, nm_r (e' := nI (M ^^^ 2 ^ y)) (by rw [e1, zz_xor]) ⟨pk_in x 8 hx, pk_in y 8 hy, nm_r (e' := nI (P ^^^ 2 ^ x)) (by rw [pk_un (fun z => hxy z.symm), f1, zz_xor]) ⟨pk_in y 8 hy, h _ (fun a ha => ?_)⟩⟩⟩
  by_cases ea : a = y
  · subst ea
    refine ⟨P ^^^ 2 ^ x, zz_x256 hP hx, pk_us, fun b hb => ?_⟩
    rw [Nat.testBit_xor, f2 b hb, Nat.testBit_two_pow]
    unfold edFl
    by_cases eb : b = x
    · subst eb
      rw [if_pos (Or.inr ⟨rfl, rfl⟩)]
      simp
    · rw [if_neg (fun z => by rcases z with ⟨z1, z2⟩ | ⟨z1, z2⟩; exact hxy z1.symm; exact eb z2)]
      rw [decide_eq_false (fun z => eb z.symm)]
      simp
  · by_cases ex : a = x
    · subst ex
      refine ⟨M ^^^ 2 ^ y, zz_x256 hM hy, by rw [pk_un ea, pk_us], fun b hb => ?_⟩
      rw [Nat.testBit_xor, e2 b hb, Nat.testBit_two_pow]
      unfold edFl
      by_cases eb : b = y
      · subst eb
        rw [if_pos (Or.inl ⟨rfl, rfl⟩)]
        simp
      · rw [if_neg (fun z => by rcases z with ⟨z1, z2⟩ | ⟨z1, z2⟩; exact eb z2; exact hxy z1)]
        rw [decide_eq_false (fun z => eb z.symm)]
        simp
    · obtain ⟨Q, hQ, g1, g2⟩ := hE a ha
      refine ⟨Q, hQ, by rw [pk_un ea, pk_un ex]; exact g1, fun b hb => ?_⟩
      rw [g2 b hb]
      unfold edFl
      rw [if_neg (fun z => by rcases z with ⟨z1, z2⟩ | ⟨z1, z2⟩; exact ex z1; exact ea z1)]
/-- the edges of n points -/
def EdOk (n : Nat) (ed : Nat → Nat → Bool) : Prop := (∀ x y, ed x y = true → x < n ∧ y < n ∧ x ≠ y) ∧ ∀ x y, ed x y = ed y x
theorem EdOk.fl {n x y : Nat} {ed : Nat → Nat → Bool} (h : EdOk n ed) (hx : x < n) (hy : y < n) (hxy : x ≠ y) : EdOk n (edFl ed x y) := by
  constructor
  · intro a b hab
    unfold edFl at hab
    by_cases e : (a = x ∧ b = y) ∨ (a = y ∧ b = x)
    · rcases e with ⟨rfl, rfl⟩ | ⟨rfl, rfl⟩
      · exact ⟨hx, hy, hxy⟩
      · exact ⟨hy, hx, fun z => hxy z.symm⟩
    · rw [if_neg e] at hab
      exact h.1 a b hab
  · intro a b
    unfold edFl
    rw [h.2 a b]
    by_cases e : (a = x ∧ b = y) ∨ (a = y ∧ b = x)
    · rw [if_pos e, if_pos (by rcases e with ⟨z1, z2⟩ | ⟨z1, z2⟩; exact Or.inr ⟨z2, z1⟩; exact Or.inl ⟨z2, z1⟩)]
    · rw [if_neg e, if_neg (fun z => e (by rcases z with ⟨z1, z2⟩ | ⟨z1, z2⟩; exact Or.inr ⟨z2, z1⟩; exact Or.inl ⟨z2, z1⟩))]
/-- Edges.total -/
def ends (ed : Nat → Nat → Bool) : Nat := sm (fun x => ct (ed x) 8) 8
theorem w_total {post : Int32 → Prop} {nb : Nat → Int32} {ed : Nat → Nat → Bool} (hE : EdC nb ed) (h : post (nI (ends ed / 2))) : wp_Edges_total post nb :=
  lpU (fun k i => L_Edges_total_4 post nb k (nI (sm (fun x => ct (ed x) 8) i)) (nI i)) 8
    (fun k => pk_le 8 8 (fun _ => by
      have hb : sm (fun x => ct (ed x) 8) 8 ≤ sm (fun _ => 8) 8 := sm_le 8 (fun x _ => ct_le _ _)
      rw [sm_const] at hb
      rw [show (1 : Int32) = nI 1 from rfl, pk_shrN (by omega) _ 1 (zz_l 1 (by omega))]
      exact h) (fun z => absurd z (by omega)))
    (fun k i hi hw => pk_le 8 i (fun z => absurd z (by omega)) (fun _ => ⟨pk_in i 8 hi, by
      obtain ⟨M, hM, e1, e2⟩ := hE i hi
      rw [nI_clamp (by omega), e1]
      refine w_bitCount hM (nm_r ?_ (nm_r (nI_1 i) hw))
      rw [nI_add]
      show nI (sm (fun x => ct (ed x) 8) i + pc8 M) = nI (sm (fun x => ct (ed x) 8) i + ct (ed i) 8)
      rw [show pc8 M = ct (ed i) 8 from ct_congr 8 (fun y hy => e2 y hy)]⟩))
