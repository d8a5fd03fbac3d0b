theorem d_Integer_bitCount_0 : decode b_Integer_bitCount 0 = .ok (.iload_n 0, 1) := by decide +kernel
theorem d_Integer_bitCount_1 : decode b_Integer_bitCount 1 = .ok (.iload_n 0, 1) := by decide +kernel
theorem d_Integer_bitCount_2 : decode b_Integer_bitCount 2 = .ok (.iconst 1, 1) := by decide +kernel
theorem d_Integer_bitCount_3 : decode b_Integer_bitCount 3 = .ok (.iushr, 1) := by decide +kernel
theorem d_Integer_bitCount_4 : decode b_Integer_bitCount 4 = .ok (.ldc_w 265, 3) := by decide +kernel
theorem d_Integer_bitCount_7 : decode b_Integer_bitCount 7 = .ok (.iand, 1) := by decide +kernel
theorem d_Integer_bitCount_8 : decode b_Integer_bitCount 8 = .ok (.isub, 1) := by decide +kernel
theorem d_Integer_bitCount_9 : decode b_Integer_bitCount 9 = .ok (.istore_n 0, 1) := by decide +kernel
theorem d_Integer_bitCount_10 : decode b_Integer_bitCount 10 = .ok (.iload_n 0, 1) := by decide +kernel
theorem d_Integer_bitCount_11 : decode b_Integer_bitCount 11 = .ok (.ldc_w 266, 3) := by decide +kernel
theorem d_Integer_bitCount_14 : decode b_Integer_bitCount 14 = .ok (.iand, 1) := by decide +kernel
theorem d_Integer_bitCount_15 : decode b_Integer_bitCount 15 = .ok (.iload_n 0, 1) := by decide +kernel
theorem d_Integer_bitCount_16 : decode b_Integer_bitCount 16 = .ok (.iconst 2, 1) := by decide +kernel
theorem d_Integer_bitCount_17 : decode b_Integer_bitCount 17 = .ok (.iushr, 1) := by decide +kernel
theorem d_Integer_bitCount_18 : decode b_Integer_bitCount 18 = .ok (.ldc_w 266, 3) := by decide +kernel
theorem d_Integer_bitCount_21 : decode b_Integer_bitCount 21 = .ok (.iand, 1) := by decide +kernel
theorem d_Integer_bitCount_22 : decode b_Integer_bitCount 22 = .ok (.iadd, 1) := by decide +kernel
theorem d_Integer_bitCount_23 : decode b_Integer_bitCount 23 = .ok (.istore_n 0, 1) := by decide +kernel
theorem d_Integer_bitCount_24 : decode b_Integer_bitCount 24 = .ok (.iload_n 0, 1) := by decide +kernel
theorem d_Integer_bitCount_25 : decode b_Integer_bitCount 25 = .ok (.iload_n 0, 1) := by decide +kernel
theorem d_Integer_bitCount_26 : decode b_Integer_bitCount 26 = .ok (.iconst 4, 1) := by decide +kernel
theorem d_Integer_bitCount_27 : decode b_Integer_bitCount 27 = .ok (.iushr, 1) := by decide +kernel
theorem d_Integer_bitCount_28 : decode b_Integer_bitCount 28 = .ok (.iadd, 1) := by decide +kernel
theorem d_Integer_bitCount_29 : decode b_Integer_bitCount 29 = .ok (.ldc_w 267, 3) := by decide +kernel
theorem d_Integer_bitCount_32 : decode b_Integer_bitCount 32 = .ok (.iand, 1) := by decide +kernel
theorem d_Integer_bitCount_33 : decode b_Integer_bitCount 33 = .ok (.istore_n 0, 1) := by decide +kernel
theorem d_Integer_bitCount_34 : decode b_Integer_bitCount 34 = .ok (.iload_n 0, 1) := by decide +kernel
theorem d_Integer_bitCount_35 : decode b_Integer_bitCount 35 = .ok (.iload_n 0, 1) := by decide +kernel
theorem d_Integer_bitCount_36 : decode b_Integer_bitCount 36 = .ok (.bipush 8, 2) := by decide +kernel
theorem d_Integer_bitCount_38 : decode b_Integer_bitCount 38 = .ok (.iushr, 1) := by decide +kernel
theorem d_Integer_bitCount_39 : decode b_Integer_bitCount 39 = .ok (.iadd, 1) := by decide +kernel
theorem d_Integer_bitCount_40 : decode b_Integer_bitCount 40 = .ok (.istore_n 0, 1) := by decide +kernel
theorem d_Integer_bitCount_41 : decode b_Integer_bitCount 41 = .ok (.iload_n 0, 1) := by decide +kernel
theorem d_Integer_bitCount_42 : decode b_Integer_bitCount 42 = .ok (.iload_n 0, 1) := by decide +kernel
theorem d_Integer_bitCount_43 : decode b_Integer_bitCount 43 = .ok (.bipush 16, 2) := by decide +kernel
theorem d_Integer_bitCount_45 : decode b_Integer_bitCount 45 = .ok (.iushr, 1) := by decide +kernel
theorem d_Integer_bitCount_46 : decode b_Integer_bitCount 46 = .ok (.iadd, 1) := by decide +kernel
theorem d_Integer_bitCount_47 : decode b_Integer_bitCount 47 = .ok (.istore_n 0, 1) := by decide +kernel
theorem d_Integer_bitCount_48 : decode b_Integer_bitCount 48 = .ok (.iload_n 0, 1) := by decide +kernel
theorem d_Integer_bitCount_49 : decode b_Integer_bitCount 49 = .ok (.bipush 63, 2) := by decide +kernel
theorem d_Integer_bitCount_51 : decode b_Integer_bitCount 51 = .ok (.iand, 1) := by decide +kernel
theorem d_Integer_bitCount_52 : decode b_Integer_bitCount 52 = .ok (.ireturn, 1) := by decide +kernel

-- java/lang/Integer.bitCount(I)I
abbrev rm_Integer_bitCount : Room := { frames := 0, cells := 0, slots := 0, locals := 0 }
def wp_Integer_bitCount (post : Int32 → Prop) (a1 : Int32) : Prop := ∀ x0_9 : Int32, x0_9 = a1 - (((a1.toUInt32 >>> ((1 : Int32).toUInt32 &&& Int32.toUInt32 31)).toInt32) &&& (1431655765 : Int32)) → (∀ x0_23 : Int32, x0_23 = (x0_9 &&& (858993459 : Int32)) + (((x0_9.toUInt32 >>> ((2 : Int32).toUInt32 &&& Int32.toUInt32 31)).toInt32) &&& (858993459 : Int32)) → (∀ x0_33 : Int32, x0_33 = (x0_23 + ((x0_23.toUInt32 >>> ((4 : Int32).toUInt32 &&& Int32.toUInt32 31)).toInt32)) &&& (252645135 : Int32) → (∀ x0_40 : Int32, x0_40 = x0_33 + ((x0_33.toUInt32 >>> ((8 : Int32).toUInt32 &&& Int32.toUInt32 31)).toInt32) → (∀ x0_47 : Int32, x0_47 = x0_40 + ((x0_40.toUInt32 >>> ((16 : Int32).toUInt32 &&& Int32.toUInt32 31)).toInt32) → (post (x0_47 &&& (63 : Int32)))))))
set_option maxHeartbeats 4000000 in
set_option maxRecDepth 100000 in
theorem met_Integer_bitCount (l : Launch) (dC : Nat → ClassId) (dI : Nat → Nat → Nat) (cI cZ : ClassId) (a1 : Int32) (post : Int32 → Prop) (hw : wp_Integer_bitCount post a1) : Met l y_Integer_bitCount (Cond.code y_Integer_bitCount b_Integer_bitCount 1 (some .int) :: gw) rm_Integer_bitCount (va_Pc [.int a1] (fun U => EV (dC, dI) cI cZ U ∧ va_P (dC, dI) classes [] U.heap)) (vp_Si post) 0 0 (fun _ => False) := by
  refine Met.ofW (cc := b_Integer_bitCount) (maxL := 1) (ret := (some .int)) (by decide) rfl ?_
  intro p e s m args below meth c s₁ B hml hv
  obtain ⟨rfl, hE, hP⟩ := hv
  have C := CX.of (own := R_Integer) (D := (dC, dI)) (cI := cI) (cZ := cZ) B hml rfl hE
  obtain ⟨hx, hb, hr, -, hown, hts, hlocks, -⟩ := id C
  have hl := lv_entry ([.int a1]) (n := 1) (Nat.le_of_ble_eq_true rfl)
  rw [lg_entry_eq]
  generalize (lg_sl ([.int a1]) ++ List.replicate (1 - (lg_sl ([.int a1])).length) Slot.unset).toArray = ls at hl ⊢
  have hl : lv_has ls 1 [(0, .int a1)] := hl
  unfold wp_Integer_bitCount at hw
  refine lv_iload_n hx hb d_Integer_bitCount_0 rfl (lv_at hl 0 rfl) ?_
  refine lv_iload_n hx hb d_Integer_bitCount_1 rfl (lv_at hl 0 rfl) ?_
  refine lv_iconst (v := (1 : Int32)) hx hb d_Integer_bitCount_2 (by decide) ?_
  refine lv_iushr (v := (a1.toUInt32 >>> ((1 : Int32).toUInt32 &&& Int32.toUInt32 31)).toInt32) hx hb d_Integer_bitCount_3 rfl ?_
  refine lv_ldcw (v := (1431655765 : Int32)) hx hb hown (hts _ kk_Integer_265) d_Integer_bitCount_4 ?_
  refine lv_iand hx hb d_Integer_bitCount_7 ?_
  refine lv_isub hx hb d_Integer_bitCount_8 ?_
  refine lv_topi (fun x0_9 ex0_9 => ?_)
  have hw := hw x0_9 ex0_9
  refine lv_istore_n (lv' := [(0, .int x0_9)]) hx hb d_Integer_bitCount_9 rfl hl (by decide) rfl (fun ls hl => ?_)
  refine lv_iload_n hx hb d_Integer_bitCount_10 rfl (lv_at hl 0 rfl) ?_
  refine lv_ldcw (v := (858993459 : Int32)) hx hb hown (hts _ kk_Integer_266) d_Integer_bitCount_11 ?_
  refine lv_iand hx hb d_Integer_bitCount_14 ?_
  refine lv_iload_n hx hb d_Integer_bitCount_15 rfl (lv_at hl 0 rfl) ?_
  refine lv_iconst (v := (2 : Int32)) hx hb d_Integer_bitCount_16 (by decide) ?_
  refine lv_iushr (v := (x0_9.toUInt32 >>> ((2 : Int32).toUInt32 &&& Int32.toUInt32 31)).toInt32) hx hb d_Integer_bitCount_17 rfl ?_
  refine lv_ldcw (v := (858993459 : Int32)) hx hb hown (hts _ kk_Integer_266) d_Integer_bitCount_18 ?_
  refine lv_iand hx hb d_Integer_bitCount_21 ?_
  refine lv_iadd hx hb d_Integer_bitCount_22 ?_
  refine lv_topi (fun x0_23 ex0_23 => ?_)
  have hw := hw x0_23 ex0_23
  refine lv_istore_n (lv' := [(0, .int x0_23)]) hx hb d_Integer_bitCount_23 rfl hl (by decide) rfl (fun ls hl => ?_)
  refine lv_iload_n hx hb d_Integer_bitCount_24 rfl (lv_at hl 0 rfl) ?_
  refine lv_iload_n hx hb d_Integer_bitCount_25 rfl (lv_at hl 0 rfl) ?_
  refine lv_iconst (v := (4 : Int32)) hx hb d_Integer_bitCount_26 (by decide) ?_
  refine lv_iushr (v := (x0_23.toUInt32 >>> ((4 : Int32).toUInt32 &&& Int32.toUInt32 31)).toInt32) hx hb d_Integer_bitCount_27 rfl ?_
  refine lv_iadd hx hb d_Integer_bitCount_28 ?_
  refine lv_ldcw (v := (252645135 : Int32)) hx hb hown (hts _ kk_Integer_267) d_Integer_bitCount_29 ?_
  refine lv_iand hx hb d_Integer_bitCount_32 ?_
  refine lv_topi (fun x0_33 ex0_33 => ?_)
  have hw := hw x0_33 ex0_33
  refine lv_istore_n (lv' := [(0, .int x0_33)]) hx hb d_Integer_bitCount_33 rfl hl (by decide) rfl (fun ls hl => ?_)
  refine lv_iload_n hx hb d_Integer_bitCount_34 rfl (lv_at hl 0 rfl) ?_
  refine lv_iload_n hx hb d_Integer_bitCount_35 rfl (lv_at hl 0 rfl) ?_
  refine lv_bipush (v := (8 : Int32)) hx hb d_Integer_bitCount_36 (by decide) ?_
  refine lv_iushr (v := (x0_33.toUInt32 >>> ((8 : Int32).toUInt32 &&& Int32.toUInt32 31)).toInt32) hx hb d_Integer_bitCount_38 rfl ?_
  refine lv_iadd hx hb d_Integer_bitCount_39 ?_
  refine lv_topi (fun x0_40 ex0_40 => ?_)
  have hw := hw x0_40 ex0_40
  refine lv_istore_n (lv' := [(0, .int x0_40)]) hx hb d_Integer_bitCount_40 rfl hl (by decide) rfl (fun ls hl => ?_)
  refine lv_iload_n hx hb d_Integer_bitCount_41 rfl (lv_at hl 0 rfl) ?_
  refine lv_iload_n hx hb d_Integer_bitCount_42 rfl (lv_at hl 0 rfl) ?_
  refine lv_bipush (v := (16 : Int32)) hx hb d_Integer_bitCount_43 (by decide) ?_
  refine lv_iushr (v := (x0_40.toUInt32 >>> ((16 : Int32).toUInt32 &&& Int32.toUInt32 31)).toInt32) hx hb d_Integer_bitCount_45 rfl ?_
  refine lv_iadd hx hb d_Integer_bitCount_46 ?_
  refine lv_topi (fun x0_47 ex0_47 => ?_)
  have hw := hw x0_47 ex0_47
  refine lv_istore_n (lv' := [(0, .int x0_47)]) hx hb d_Integer_bitCount_47 rfl hl (by decide) rfl (fun ls hl => ?_)
  refine lv_iload_n hx hb d_Integer_bitCount_48 rfl (lv_at hl 0 rfl) ?_
  refine lv_bipush (v := (63 : Int32)) hx hb d_Integer_bitCount_49 (by decide) ?_
  refine lv_iand hx hb d_Integer_bitCount_51 ?_
  exact W.iret (v := (x0_47 &&& (63 : Int32))) hx hb hr (fun t ht hW => ⟨(x0_47 &&& (63 : Int32)), rfl, hw, by rw [ht]⟩) (fun _ h => by cases h) d_Integer_bitCount_52

theorem d_Arrays_fill_0 : decode b_Arrays_fill 0 = .ok (.iconst 0, 1) := by decide +kernel
theorem d_Arrays_fill_1 : decode b_Arrays_fill 1 = .ok (.istore_n 2, 1) := by decide +kernel
theorem d_Arrays_fill_2 : decode b_Arrays_fill 2 = .ok (.aload_n 0, 1) := by decide +kernel
theorem d_Arrays_fill_3 : decode b_Arrays_fill 3 = .ok (.arraylength, 1) := by decide +kernel
theorem d_Arrays_fill_4 : decode b_Arrays_fill 4 = .ok (.istore_n 3, 1) := by decide +kernel
theorem d_Arrays_fill_5 : decode b_Arrays_fill 5 = .ok (.iload_n 2, 1) := by decide +kernel
theorem d_Arrays_fill_6 : decode b_Arrays_fill 6 = .ok (.iload_n 3, 1) := by decide +kernel
theorem d_Arrays_fill_7 : decode b_Arrays_fill 7 = .ok (.if_icmp .ge 13, 3) := by decide +kernel
theorem d_Arrays_fill_10 : decode b_Arrays_fill 10 = .ok (.aload_n 0, 1) := by decide +kernel
theorem d_Arrays_fill_11 : decode b_Arrays_fill 11 = .ok (.iload_n 2, 1) := by decide +kernel
theorem d_Arrays_fill_12 : decode b_Arrays_fill 12 = .ok (.iload_n 1, 1) := by decide +kernel
theorem d_Arrays_fill_13 : decode b_Arrays_fill 13 = .ok (.iastore, 1) := by decide +kernel
theorem d_Arrays_fill_14 : decode b_Arrays_fill 14 = .ok (.iinc 2 1, 3) := by decide +kernel
theorem d_Arrays_fill_17 : decode b_Arrays_fill 17 = .ok (.goto (-12), 3) := by decide +kernel
theorem d_Arrays_fill_20 : decode b_Arrays_fill 20 = .ok (.return_, 1) := by decide +kernel

-- java/util/Arrays.fill([II)V
abbrev rm_Arrays_fill : Room := { frames := 0, cells := 0, slots := 0, locals := 0 }
abbrev QM_Arrays_fill (dC : Nat → ClassId) (dI : Nat → Nat → Nat) (cI cZ : ClassId) (h_a1 : Nat) (a1_len : Nat) (post : (Nat → Int32) → Prop) (A : Nat → Prop) : Array Value → State → Outcome → State → Prop := va_Qv (fun u : (Nat → Int32) => post u) (fun u t => va_P (dC, dI) classes [(h_a1, .inl (cI, a1_len, .inl u))] t.heap ∧ va_D A [(h_a1, .inl (cI, a1_len, .inl u))]) A
def L_Arrays_fill_5b (post : (Nat → Int32) → Prop) (a1_len : Nat) (v1 : Int32) (v3 : Int32) (K5 : (Nat → Int32) → Int32 → Prop) (a1 : Nat → Int32) (v2 : Int32) : Prop := (v3 ≤ v2 → post a1) ∧ (¬ v3 ≤ v2 → vp_in v2 a1_len ∧ (∀ x2_14 : Int32, x2_14 = v2 + 1 → (K5 (upd a1 v2.toNatClampNeg v1) x2_14)))
def L_Arrays_fill_5 (post : (Nat → Int32) → Prop) (a1_len : Nat) (v1 : Int32) (v3 : Int32) : Nat → (Nat → Int32) → Int32 → Prop
  | 0, _, _ => False
  | n + 1, a1, v2 => L_Arrays_fill_5b post a1_len v1 v3 (L_Arrays_fill_5 post a1_len v1 v3 n) a1 v2
def wp_Arrays_fill (post : (Nat → Int32) → Prop) (a1_len : Nat) (a1 : Nat → Int32) (a2 : Int32) : Prop := ∀ x3_4 : Int32, x3_4 = nI a1_len → (∃ n, L_Arrays_fill_5 post a1_len a2 x3_4 n a1 (0 : Int32))
set_option maxHeartbeats 4000000 in
set_option maxRecDepth 100000 in
theorem qL_Arrays_fill_5 {p : Program} {l : Launch} {e : Env} {s : State} {m : MethodId} {args : Array Value} {below : List Frame} {meth : Method} {c : Code} {dC : Nat → ClassId} {dI : Nat → Nat → Nat} {cI cZ : ClassId} (C : CX p s m args meth c R_Arrays b_Arrays_fill 4 none (dC, dI) cI cZ) {h_a1 : Nat} {A : Nat → Prop} (hA : ∀ q : Nat, s.heap.size ≤ q → A q) (post : (Nat → Int32) → Prop) (a1_len : Nat) (v1 : Int32) (v3 : Int32) : ∀ (n : Nat) (a1 : Nat → Int32) (v2 : Int32) , L_Arrays_fill_5 post a1_len v1 v3 n a1 v2 → ∀ (H : Heap) (locs : List Loc), va_P (dC, dI) classes [(h_a1, .inl (cI, a1_len, .inl a1))] H → va_D A [(h_a1, .inl (cI, a1_len, .inl a1))] → va_S A s.heap H locs → ∀ (ls : Array Slot), lv_has ls 4 [(0, .ref h_a1), (1, .int v1), (2, .int v2), (3, .int v3)] → W p l e rm_Arrays_fill s m args below meth c H locs 0 0 (MQ below (QM_Arrays_fill dC dI cI cZ h_a1 a1_len post A) args s 0 0 A) (F0 m 5 ls []) := by
  obtain ⟨hx, hb, hr, hml, hown, hts, hlocks, hE⟩ := id C
  intro n
  induction n with
  | zero =>
    intro a1 v2 hw
    exact (show False from hw).elim
  | succ n ih =>
    intro a1 v2 hw H locs hP hD hS ls hl
    have hw : L_Arrays_fill_5b post a1_len v1 v3 (L_Arrays_fill_5 post a1_len v1 v3 n) a1 v2 := hw
    unfold L_Arrays_fill_5b at hw
    refine lv_iload_n hx hb d_Arrays_fill_5 rfl (lv_at hl 2 rfl) ?_
    refine lv_iload_n hx hb d_Arrays_fill_6 rfl (lv_at hl 3 rfl) ?_
    refine lv_icmp_ge (tgt := 20) hx hb d_Arrays_fill_7 (by decide) (fun c7 => ?_) (fun c7 => ?_)
    · have hw := hw.1 c7
      exact W.vret hx hb hr (fun t ht hW => ⟨⟨a1, rfl, hw, by rw [ht]; exact hP, hD⟩, hS.F ht⟩) hS.2.2 d_Arrays_fill_20
    · have hw := hw.2 c7
      refine lv_aload_n hx hb d_Arrays_fill_10 rfl (lv_at hl 0 rfl) ?_
      refine lv_iload_n hx hb d_Arrays_fill_11 rfl (lv_at hl 2 rfl) ?_
      refine lv_iload_n hx hb d_Arrays_fill_12 rfl (lv_at hl 1 rfl) ?_
      have hz := hw.1
      have hw := hw.2
      refine va_iast hx hb hE.1 hP hD hS 0 0 rfl rfl hz d_Arrays_fill_13 (fun H locs hP hD hS => ?_)
      have hP : va_P (dC, dI) classes [(h_a1, .inl (cI, a1_len, .inl (upd a1 v2.toNatClampNeg v1)))] H := hP
      have hD : va_D A [(h_a1, .inl (cI, a1_len, .inl (upd a1 v2.toNatClampNeg v1)))] := hD
      obtain ⟨x2_14, ex2_14⟩ : ∃ y : Int32, y = v2 + 1 := ⟨_, rfl⟩
      have hw := hw x2_14 ex2_14
      refine lv_iinc (v := x2_14) (lv' := [(2, .int x2_14), (0, .ref h_a1), (1, .int v1), (3, .int v3)]) hx hb d_Arrays_fill_14 hl (k := 2) rfl (by rw [ex2_14]; rfl) (by decide) rfl (fun ls hl => ?_)
      refine lv_goto (tgt := 5) hx hb d_Arrays_fill_17 (by decide) ?_
      exact ih (upd a1 v2.toNatClampNeg v1) x2_14 hw H locs hP hD hS ls (lv_sub hl [1, 2, 0, 3] rfl)
set_option maxHeartbeats 4000000 in
set_option maxRecDepth 100000 in
theorem met_Arrays_fill (l : Launch) (dC : Nat → ClassId) (dI : Nat → Nat → Nat) (cI cZ : ClassId) (h_a1 : Nat) (sz : Nat) (a1_len : Nat) (a1 : Nat → Int32) (a2 : Int32) (post : (Nat → Int32) → Prop) (hw : wp_Arrays_fill post a1_len a1 a2) : Met l y_Arrays_fill (Cond.code y_Arrays_fill b_Arrays_fill 4 none :: gw) rm_Arrays_fill (va_Pc [.ref h_a1, .int a2] (fun U => U.heap.size = sz ∧ EV (dC, dI) cI cZ U ∧ va_P (dC, dI) classes [(h_a1, .inl (cI, a1_len, .inl a1))] U.heap ∧ va_D (fun _ => True) [(h_a1, .inl (cI, a1_len, .inl a1))])) (QM_Arrays_fill dC dI cI cZ h_a1 a1_len post (va_A [(h_a1, .inl (cI, a1_len, .inl a1))] sz)) 0 0 (va_A [(h_a1, .inl (cI, a1_len, .inl a1))] sz) := by
  refine Met.ofW (cc := b_Arrays_fill) (maxL := 4) (ret := none) (by decide) rfl ?_
  intro p e s m args below meth c s₁ B hml hv
  obtain ⟨rfl, hsz, hE, hP, hD0⟩ := hv
  have C := CX.of (own := R_Arrays) (D := (dC, dI)) (cI := cI) (cZ := cZ) B hml rfl hE
  obtain ⟨hx, hb, hr, -, hown, hts, hlocks, -⟩ := id C
  subst hsz
  have hD := hD0.self (sz := s.heap.size)
  generalize hAe : va_A [(h_a1, .inl (cI, a1_len, .inl a1))] s.heap.size = A at hD ⊢
  have hA : ∀ q : Nat, s.heap.size ≤ q → A q := fun q h => by rw [← hAe]; exact Or.inr h
  have hS : va_S A s.heap s.heap [] := va_S.rf
  have hP : va_P (dC, dI) classes [(h_a1, .inl (cI, a1_len, .inl a1))] s.heap := hP
  have hl := lv_entry ([.ref h_a1, .int a2]) (n := 4) (Nat.le_of_ble_eq_true rfl)
  rw [lg_entry_eq]
  generalize (lg_sl ([.ref h_a1, .int a2]) ++ List.replicate (4 - (lg_sl ([.ref h_a1, .int a2])).length) Slot.unset).toArray = ls at hl ⊢
  have hl : lv_has ls 4 [(0, .ref h_a1), (1, .int a2)] := hl
  refine keyL (P := fun H locs => va_P (dC, dI) classes [(h_a1, .inl (cI, a1_len, .inl a1))] H ∧ va_D A [(h_a1, .inl (cI, a1_len, .inl a1))] ∧ va_S A s.heap H locs) ⟨hP, hD, hS⟩ (fun H locs hPP => ?_)
  clear hP hD hS
  obtain ⟨hP, hD, hS⟩ := hPP
  unfold wp_Arrays_fill at hw
  refine lv_iconst (v := (0 : Int32)) hx hb d_Arrays_fill_0 (by decide) ?_
  refine lv_istore_n (lv' := [(2, .int (0 : Int32)), (0, .ref h_a1), (1, .int a2)]) hx hb d_Arrays_fill_1 rfl hl (by decide) rfl (fun ls hl => ?_)
  refine lv_aload_n hx hb d_Arrays_fill_2 rfl (lv_at hl 1 rfl) ?_
  refine va_alen (v := nI a1_len) hx hb hE.1 hP 0 0 rfl rfl rfl d_Arrays_fill_3 ?_
  refine lv_topi (fun x3_4 ex3_4 => ?_)
  have hw := hw x3_4 ex3_4
  refine lv_istore_n (lv' := [(3, .int x3_4), (2, .int (0 : Int32)), (0, .ref h_a1), (1, .int a2)]) hx hb d_Arrays_fill_4 rfl hl (by decide) rfl (fun ls hl => ?_)
  obtain ⟨n5, hw⟩ := hw
  exact qL_Arrays_fill_5 C hA post  a1_len a2 x3_4  n5 a1 (0 : Int32) hw H locs hP hD hS ls (lv_sub hl [2, 3, 1, 0] rfl)

