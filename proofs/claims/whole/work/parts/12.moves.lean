theorem d_Moves_init_0 : decode b_Moves_init 0 = .ok (.aload_n 0, 1) := by decide +kernel
theorem d_Moves_init_1 : decode b_Moves_init 1 = .ok (.invokespecial 3, 3) := by decide +kernel
theorem d_Moves_init_4 : decode b_Moves_init 4 = .ok (.aload_n 0, 1) := by decide +kernel
theorem d_Moves_init_5 : decode b_Moves_init 5 = .ok (.iconst 5, 1) := by decide +kernel
theorem d_Moves_init_6 : decode b_Moves_init 6 = .ok (.newarray .int, 2) := by decide +kernel
theorem d_Moves_init_8 : decode b_Moves_init 8 = .ok (.putfield 9, 3) := by decide +kernel
theorem d_Moves_init_11 : decode b_Moves_init 11 = .ok (.return_, 1) := by decide +kernel
theorem d_Moves_clear_0 : decode b_Moves_clear 0 = .ok (.aload_n 0, 1) := by decide +kernel
theorem d_Moves_clear_1 : decode b_Moves_clear 1 = .ok (.iconst 0, 1) := by decide +kernel
theorem d_Moves_clear_2 : decode b_Moves_clear 2 = .ok (.putfield 15, 3) := by decide +kernel
theorem d_Moves_clear_5 : decode b_Moves_clear 5 = .ok (.return_, 1) := by decide +kernel
theorem d_Moves_push_0 : decode b_Moves_push 0 = .ok (.aload_n 0, 1) := by decide +kernel
theorem d_Moves_push_1 : decode b_Moves_push 1 = .ok (.getfield 15, 3) := by decide +kernel
theorem d_Moves_push_4 : decode b_Moves_push 4 = .ok (.ifCond .lt 15, 3) := by decide +kernel
theorem d_Moves_push_7 : decode b_Moves_push 7 = .ok (.aload_n 0, 1) := by decide +kernel
theorem d_Moves_push_8 : decode b_Moves_push 8 = .ok (.getfield 15, 3) := by decide +kernel
theorem d_Moves_push_11 : decode b_Moves_push 11 = .ok (.aload_n 0, 1) := by decide +kernel
theorem d_Moves_push_12 : decode b_Moves_push 12 = .ok (.getfield 9, 3) := by decide +kernel
theorem d_Moves_push_15 : decode b_Moves_push 15 = .ok (.arraylength, 1) := by decide +kernel
theorem d_Moves_push_16 : decode b_Moves_push 16 = .ok (.if_icmp .lt 5, 3) := by decide +kernel
theorem d_Moves_push_19 : decode b_Moves_push 19 = .ok (.iconst 0, 1) := by decide +kernel
theorem d_Moves_push_20 : decode b_Moves_push 20 = .ok (.ireturn, 1) := by decide +kernel
theorem d_Moves_push_21 : decode b_Moves_push 21 = .ok (.aload_n 0, 1) := by decide +kernel
theorem d_Moves_push_22 : decode b_Moves_push 22 = .ok (.getfield 9, 3) := by decide +kernel
theorem d_Moves_push_25 : decode b_Moves_push 25 = .ok (.aload_n 0, 1) := by decide +kernel
theorem d_Moves_push_26 : decode b_Moves_push 26 = .ok (.getfield 15, 3) := by decide +kernel
theorem d_Moves_push_29 : decode b_Moves_push 29 = .ok (.iload_n 1, 1) := by decide +kernel
theorem d_Moves_push_30 : decode b_Moves_push 30 = .ok (.iastore, 1) := by decide +kernel
theorem d_Moves_push_31 : decode b_Moves_push 31 = .ok (.aload_n 0, 1) := by decide +kernel
theorem d_Moves_push_32 : decode b_Moves_push 32 = .ok (.dup, 1) := by decide +kernel
theorem d_Moves_push_33 : decode b_Moves_push 33 = .ok (.getfield 15, 3) := by decide +kernel
theorem d_Moves_push_36 : decode b_Moves_push 36 = .ok (.iconst 1, 1) := by decide +kernel
theorem d_Moves_push_37 : decode b_Moves_push 37 = .ok (.iadd, 1) := by decide +kernel
theorem d_Moves_push_38 : decode b_Moves_push 38 = .ok (.putfield 15, 3) := by decide +kernel
theorem d_Moves_push_41 : decode b_Moves_push 41 = .ok (.iconst 1, 1) := by decide +kernel
theorem d_Moves_push_42 : decode b_Moves_push 42 = .ok (.ireturn, 1) := by decide +kernel
theorem d_Moves_pop_0 : decode b_Moves_pop 0 = .ok (.aload_n 0, 1) := by decide +kernel
theorem d_Moves_pop_1 : decode b_Moves_pop 1 = .ok (.getfield 15, 3) := by decide +kernel
theorem d_Moves_pop_4 : decode b_Moves_pop 4 = .ok (.ifCond .gt 5, 3) := by decide +kernel
theorem d_Moves_pop_7 : decode b_Moves_pop 7 = .ok (.iconst 0, 1) := by decide +kernel
theorem d_Moves_pop_8 : decode b_Moves_pop 8 = .ok (.ireturn, 1) := by decide +kernel
theorem d_Moves_pop_9 : decode b_Moves_pop 9 = .ok (.aload_n 0, 1) := by decide +kernel
theorem d_Moves_pop_10 : decode b_Moves_pop 10 = .ok (.dup, 1) := by decide +kernel
theorem d_Moves_pop_11 : decode b_Moves_pop 11 = .ok (.getfield 15, 3) := by decide +kernel
theorem d_Moves_pop_14 : decode b_Moves_pop 14 = .ok (.iconst 1, 1) := by decide +kernel
theorem d_Moves_pop_15 : decode b_Moves_pop 15 = .ok (.isub, 1) := by decide +kernel
theorem d_Moves_pop_16 : decode b_Moves_pop 16 = .ok (.putfield 15, 3) := by decide +kernel
theorem d_Moves_pop_19 : decode b_Moves_pop 19 = .ok (.iconst 1, 1) := by decide +kernel
theorem d_Moves_pop_20 : decode b_Moves_pop 20 = .ok (.ireturn, 1) := by decide +kernel

-- SwapOrbits$Moves.clear()V
abbrev rm_Moves_clear : Room := { frames := 0, cells := 0, slots := 0, locals := 0 }
abbrev QM_Moves_clear (dC : Nat → ClassId) (dI : Nat → Nat → Nat) (cI cZ : ClassId) (h_t h_t_rows : Nat) (t_rows : Nat → Int32) (post : Int32 → Prop) (A : Nat → Prop) : Array Value → State → Outcome → State → Prop := va_Qv (fun u : Int32 => post u) (fun u t => va_P (dC, dI) classes [(h_t, .inr (1, [.ref h_t_rows, .int u])), (h_t_rows, .inl (cI, 5, .inl t_rows))] t.heap ∧ va_D A [(h_t, .inr (1, [.ref h_t_rows, .int u])), (h_t_rows, .inl (cI, 5, .inl t_rows))]) A
def wp_Moves_clear (post : Int32 → Prop) : Prop := post (0 : Int32)
set_option maxHeartbeats 4000000 in
set_option maxRecDepth 100000 in
theorem met_Moves_clear (l : Launch) (dC : Nat → ClassId) (dI : Nat → Nat → Nat) (cI cZ : ClassId) (h_t h_t_rows : Nat) (sz : Nat) (t_count : Int32) (t_rows : Nat → Int32) (post : Int32 → Prop) (hw : wp_Moves_clear post ) : Met l y_Moves_clear (Cond.code y_Moves_clear b_Moves_clear 1 none :: gw) rm_Moves_clear (va_Pc [.ref h_t] (fun U => U.heap.size = sz ∧ EV (dC, dI) cI cZ U ∧ va_P (dC, dI) classes [(h_t, .inr (1, [.ref h_t_rows, .int t_count])), (h_t_rows, .inl (cI, 5, .inl t_rows))] U.heap ∧ va_D (fun _ => True) [(h_t, .inr (1, [.ref h_t_rows, .int t_count])), (h_t_rows, .inl (cI, 5, .inl t_rows))])) (QM_Moves_clear dC dI cI cZ h_t h_t_rows t_rows post (va_A [(h_t, .inr (1, [.ref h_t_rows, .int t_count])), (h_t_rows, .inl (cI, 5, .inl t_rows))] sz)) 0 0 (va_A [(h_t, .inr (1, [.ref h_t_rows, .int t_count])), (h_t_rows, .inl (cI, 5, .inl t_rows))] sz) := by
  refine Met.ofW (cc := b_Moves_clear) (maxL := 1) (ret := none) (by decide) rfl ?_
  intro p e s m args below meth c s₁ B hml hv
  obtain ⟨rfl, hsz, hE, hP, hD0⟩ := hv
  have C := CX.of (own := R_Moves) (D := (dC, dI)) (cI := cI) (cZ := cZ) B hml rfl hE
  obtain ⟨hx, hb, hr, -, hown, hts, hlocks, -⟩ := id C
  subst hsz
  have hD := hD0.self (sz := s.heap.size)
  generalize hAe : va_A [(h_t, .inr (1, [.ref h_t_rows, .int t_count])), (h_t_rows, .inl (cI, 5, .inl t_rows))] s.heap.size = A at hD ⊢
  have hA : ∀ q : Nat, s.heap.size ≤ q → A q := fun q h => by rw [← hAe]; exact Or.inr h
  have hS : va_S A s.heap s.heap [] := va_S.rf
  have hP : va_P (dC, dI) classes [(h_t, .inr (1, [.ref h_t_rows, .int t_count])), (h_t_rows, .inl (cI, 5, .inl t_rows))] s.heap := hP
  have hl := lv_entry ([.ref h_t]) (n := 1) (Nat.le_of_ble_eq_true rfl)
  rw [lg_entry_eq]
  generalize (lg_sl ([.ref h_t]) ++ List.replicate (1 - (lg_sl ([.ref h_t])).length) Slot.unset).toArray = ls at hl ⊢
  have hl : lv_has ls 1 [(0, .ref h_t)] := hl
  refine keyL (P := fun H locs => va_P (dC, dI) classes [(h_t, .inr (1, [.ref h_t_rows, .int t_count])), (h_t_rows, .inl (cI, 5, .inl t_rows))] H ∧ va_D A [(h_t, .inr (1, [.ref h_t_rows, .int t_count])), (h_t_rows, .inl (cI, 5, .inl t_rows))] ∧ va_S A s.heap H locs) ⟨hP, hD, hS⟩ (fun H locs hPP => ?_)
  clear hP hD hS
  obtain ⟨hP, hD, hS⟩ := hPP
  unfold wp_Moves_clear at hw
  refine lv_aload_n hx hb d_Moves_clear_0 rfl (lv_at hl 0 rfl) ?_
  refine lv_iconst (v := (0 : Int32)) hx hb d_Moves_clear_1 (by decide) ?_
  refine va_put (D := (dC, dI)) (ci := 1) (v := .int (0 : Int32)) (ty := .int) (C := R_Moves) (T := F_Moves) (N := 2) hx hb hts i_Moves t_Moves t_Moves_ok n_Moves hown hE.1 hP hD hS 0 rfl rfl 1 (by decide) (hts _ kf_Moves_15) (fun _ h9 => h9) rfl (by decide +kernel) rfl rfl (Nat.le_of_ble_eq_true rfl) d_Moves_clear_2 (fun H locs hP hD hS => ?_)
  have hP : va_P (dC, dI) classes [(h_t, .inr (1, [.ref h_t_rows, .int (0 : Int32)])), (h_t_rows, .inl (cI, 5, .inl t_rows))] H := hP
  have hD : va_D A [(h_t, .inr (1, [.ref h_t_rows, .int (0 : Int32)])), (h_t_rows, .inl (cI, 5, .inl t_rows))] := hD
  exact W.vret hx hb hr (fun t ht hW => ⟨⟨(0 : Int32), rfl, hw, by rw [ht]; exact hP, hD⟩, hS.F ht⟩) hS.2.2 d_Moves_clear_5

-- SwapOrbits$Moves.push(I)Z
abbrev rm_Moves_push : Room := { frames := 0, cells := 0, slots := 0, locals := 0 }
abbrev QM_Moves_push (dC : Nat → ClassId) (dI : Nat → Nat → Nat) (cI cZ : ClassId) (h_t h_t_rows : Nat) (post : Int32 → Int32 → (Nat → Int32) → Prop) (A : Nat → Prop) : Array Value → State → Outcome → State → Prop := va_Qi (fun r (u : Int32 × (Nat → Int32)) => post r u.1 u.2) (fun u t => va_P (dC, dI) classes [(h_t, .inr (1, [.ref h_t_rows, .int u.1])), (h_t_rows, .inl (cI, 5, .inl u.2))] t.heap ∧ va_D A [(h_t, .inr (1, [.ref h_t_rows, .int u.1])), (h_t_rows, .inl (cI, 5, .inl u.2))]) A
def wp_Moves_push (post : Int32 → Int32 → (Nat → Int32) → Prop) (t_count : Int32) (t_rows : Nat → Int32) (a1 : Int32) : Prop := (t_count < 0 → post (0 : Int32) t_count t_rows) ∧ (¬ t_count < 0 → (t_count < (nI 5) → vp_in t_count 5 ∧ (∀ f38 : Int32, f38 = t_count + (1 : Int32) → (post (1 : Int32) f38 (upd t_rows t_count.toNatClampNeg a1)))) ∧ (¬ t_count < (nI 5) → post (0 : Int32) t_count t_rows))
set_option maxHeartbeats 4000000 in
set_option maxRecDepth 100000 in
theorem met_Moves_push (l : Launch) (dC : Nat → ClassId) (dI : Nat → Nat → Nat) (cI cZ : ClassId) (h_t h_t_rows : Nat) (sz : Nat) (t_count : Int32) (t_rows : Nat → Int32) (a1 : Int32) (post : Int32 → Int32 → (Nat → Int32) → Prop) (hw : wp_Moves_push post t_count t_rows a1) : Met l y_Moves_push (Cond.code y_Moves_push b_Moves_push 2 (some .boolean) :: gw) rm_Moves_push (va_Pc [.ref h_t, .int a1] (fun U => U.heap.size = sz ∧ EV (dC, dI) cI cZ U ∧ va_P (dC, dI) classes [(h_t, .inr (1, [.ref h_t_rows, .int t_count])), (h_t_rows, .inl (cI, 5, .inl t_rows))] U.heap ∧ va_D (fun _ => True) [(h_t, .inr (1, [.ref h_t_rows, .int t_count])), (h_t_rows, .inl (cI, 5, .inl t_rows))])) (QM_Moves_push dC dI cI cZ h_t h_t_rows post (va_A [(h_t, .inr (1, [.ref h_t_rows, .int t_count])), (h_t_rows, .inl (cI, 5, .inl t_rows))] sz)) 0 0 (va_A [(h_t, .inr (1, [.ref h_t_rows, .int t_count])), (h_t_rows, .inl (cI, 5, .inl t_rows))] sz) := by
  refine Met.ofW (cc := b_Moves_push) (maxL := 2) (ret := (some .boolean)) (by decide) rfl ?_
  intro p e s m args below meth c s₁ B hml hv
  obtain ⟨rfl, hsz, hE, hP, hD0⟩ := hv
  have C := CX.of (own := R_Moves) (D := (dC, dI)) (cI := cI) (cZ := cZ) B hml rfl hE
  obtain ⟨hx, hb, hr, -, hown, hts, hlocks, -⟩ := id C
  subst hsz
  have hD := hD0.self (sz := s.heap.size)
  generalize hAe : va_A [(h_t, .inr (1, [.ref h_t_rows, .int t_count])), (h_t_rows, .inl (cI, 5, .inl t_rows))] s.heap.size = A at hD ⊢
  have hA : ∀ q : Nat, s.heap.size ≤ q → A q := fun q h => by rw [← hAe]; exact Or.inr h
  have hS : va_S A s.heap s.heap [] := va_S.rf
  have hP : va_P (dC, dI) classes [(h_t, .inr (1, [.ref h_t_rows, .int t_count])), (h_t_rows, .inl (cI, 5, .inl t_rows))] s.heap := hP
  have hl := lv_entry ([.ref h_t, .int a1]) (n := 2) (Nat.le_of_ble_eq_true rfl)
  rw [lg_entry_eq]
  generalize (lg_sl ([.ref h_t, .int a1]) ++ List.replicate (2 - (lg_sl ([.ref h_t, .int a1])).length) Slot.unset).toArray = ls at hl ⊢
  have hl : lv_has ls 2 [(0, .ref h_t), (1, .int a1)] := hl
  refine keyL (P := fun H locs => va_P (dC, dI) classes [(h_t, .inr (1, [.ref h_t_rows, .int t_count])), (h_t_rows, .inl (cI, 5, .inl t_rows))] H ∧ va_D A [(h_t, .inr (1, [.ref h_t_rows, .int t_count])), (h_t_rows, .inl (cI, 5, .inl t_rows))] ∧ va_S A s.heap H locs) ⟨hP, hD, hS⟩ (fun H locs hPP => ?_)
  clear hP hD hS
  obtain ⟨hP, hD, hS⟩ := hPP
  unfold wp_Moves_push at hw
  refine lv_aload_n hx hb d_Moves_push_0 rfl (lv_at hl 0 rfl) ?_
  refine va_get (D := (dC, dI)) (ci := 1) (v := .int t_count) (C := R_Moves) (T := F_Moves) (N := 2) hx hb hts i_Moves hown hE.1 hP 0 rfl rfl 1 (by decide) (hts _ kf_Moves_15) (fun _ h9 => h9) rfl d_Moves_push_1 ?_
  refine lv_if_lt (tgt := 19) hx hb d_Moves_push_4 (by decide) (fun c4 => ?_) (fun c4 => ?_)
  · have hw := hw.1 c4
    refine lv_iconst (v := (0 : Int32)) hx hb d_Moves_push_19 (by decide) ?_
    exact W.zret (v := (0 : Int32)) hx hb hr rfl (fun t ht hW => ⟨⟨(0 : Int32), (t_count, t_rows), rfl, hw, by rw [ht]; exact hP, hD⟩, hS.F ht⟩) hS.2.2 d_Moves_push_20
  · have hw := hw.2 c4
    refine lv_aload_n hx hb d_Moves_push_7 rfl (lv_at hl 0 rfl) ?_
    refine va_get (D := (dC, dI)) (ci := 1) (v := .int t_count) (C := R_Moves) (T := F_Moves) (N := 2) hx hb hts i_Moves hown hE.1 hP 0 rfl rfl 1 (by decide) (hts _ kf_Moves_15) (fun _ h9 => h9) rfl d_Moves_push_8 ?_
    refine lv_aload_n hx hb d_Moves_push_11 rfl (lv_at hl 0 rfl) ?_
    refine va_get (D := (dC, dI)) (ci := 1) (v := .ref h_t_rows) (C := R_Moves) (T := F_Moves) (N := 2) hx hb hts i_Moves hown hE.1 hP 0 rfl rfl 0 (by decide) (hts _ kf_Moves_9) (fun _ h9 => h9) rfl d_Moves_push_12 ?_
    refine va_alen (v := nI 5) hx hb hE.1 hP 1 0 rfl rfl rfl d_Moves_push_15 ?_
    refine lv_icmp_lt (tgt := 21) hx hb d_Moves_push_16 (by decide) (fun c16 => ?_) (fun c16 => ?_)
    · have hw := hw.1 c16
      refine lv_aload_n hx hb d_Moves_push_21 rfl (lv_at hl 0 rfl) ?_
      refine va_get (D := (dC, dI)) (ci := 1) (v := .ref h_t_rows) (C := R_Moves) (T := F_Moves) (N := 2) hx hb hts i_Moves hown hE.1 hP 0 rfl rfl 0 (by decide) (hts _ kf_Moves_9) (fun _ h9 => h9) rfl d_Moves_push_22 ?_
      refine lv_aload_n hx hb d_Moves_push_25 rfl (lv_at hl 0 rfl) ?_
      refine va_get (D := (dC, dI)) (ci := 1) (v := .int t_count) (C := R_Moves) (T := F_Moves) (N := 2) hx hb hts i_Moves hown hE.1 hP 0 rfl rfl 1 (by decide) (hts _ kf_Moves_15) (fun _ h9 => h9) rfl d_Moves_push_26 ?_
      refine lv_iload_n hx hb d_Moves_push_29 rfl (lv_at hl 1 rfl) ?_
      have hz := hw.1
      have hw := hw.2
      refine va_iast hx hb hE.1 hP hD hS 1 0 rfl rfl hz d_Moves_push_30 (fun H locs hP hD hS => ?_)
      have hP : va_P (dC, dI) classes [(h_t, .inr (1, [.ref h_t_rows, .int t_count])), (h_t_rows, .inl (cI, 5, .inl (upd t_rows t_count.toNatClampNeg a1)))] H := hP
      have hD : va_D A [(h_t, .inr (1, [.ref h_t_rows, .int t_count])), (h_t_rows, .inl (cI, 5, .inl (upd t_rows t_count.toNatClampNeg a1)))] := hD
      refine lv_aload_n hx hb d_Moves_push_31 rfl (lv_at hl 0 rfl) ?_
      refine lv_dup hx hb d_Moves_push_32 rfl ?_
      refine va_get (D := (dC, dI)) (ci := 1) (v := .int t_count) (C := R_Moves) (T := F_Moves) (N := 2) hx hb hts i_Moves hown hE.1 hP 0 rfl rfl 1 (by decide) (hts _ kf_Moves_15) (fun _ h9 => h9) rfl d_Moves_push_33 ?_
      refine lv_iconst (v := (1 : Int32)) hx hb d_Moves_push_36 (by decide) ?_
      refine lv_iadd hx hb d_Moves_push_37 ?_
      refine lv_topi (fun f38 ef38 => ?_)
      have hw := hw f38 ef38
      refine va_put (D := (dC, dI)) (ci := 1) (v := .int f38) (ty := .int) (C := R_Moves) (T := F_Moves) (N := 2) hx hb hts i_Moves t_Moves t_Moves_ok n_Moves hown hE.1 hP hD hS 0 rfl rfl 1 (by decide) (hts _ kf_Moves_15) (fun _ h9 => h9) rfl (by decide +kernel) rfl rfl (Nat.le_of_ble_eq_true rfl) d_Moves_push_38 (fun H locs hP hD hS => ?_)
      have hP : va_P (dC, dI) classes [(h_t, .inr (1, [.ref h_t_rows, .int f38])), (h_t_rows, .inl (cI, 5, .inl (upd t_rows t_count.toNatClampNeg a1)))] H := hP
      have hD : va_D A [(h_t, .inr (1, [.ref h_t_rows, .int f38])), (h_t_rows, .inl (cI, 5, .inl (upd t_rows t_count.toNatClampNeg a1)))] := hD
      refine lv_iconst (v := (1 : Int32)) hx hb d_Moves_push_41 (by decide) ?_
      exact W.zret (v := (1 : Int32)) hx hb hr rfl (fun t ht hW => ⟨⟨(1 : Int32), (f38, upd t_rows t_count.toNatClampNeg a1), rfl, hw, by rw [ht]; exact hP, hD⟩, hS.F ht⟩) hS.2.2 d_Moves_push_42
    · have hw := hw.2 c16
      refine lv_iconst (v := (0 : Int32)) hx hb d_Moves_push_19 (by decide) ?_
      exact W.zret (v := (0 : Int32)) hx hb hr rfl (fun t ht hW => ⟨⟨(0 : Int32), (t_count, t_rows), rfl, hw, by rw [ht]; exact hP, hD⟩, hS.F ht⟩) hS.2.2 d_Moves_push_20

-- SwapOrbits$Moves.pop()Z
abbrev rm_Moves_pop : Room := { frames := 0, cells := 0, slots := 0, locals := 0 }
abbrev QM_Moves_pop (dC : Nat → ClassId) (dI : Nat → Nat → Nat) (cI cZ : ClassId) (h_t h_t_rows : Nat) (t_rows : Nat → Int32) (post : Int32 → Int32 → Prop) (A : Nat → Prop) : Array Value → State → Outcome → State → Prop := va_Qi (fun r (u : Int32) => post r u) (fun u t => va_P (dC, dI) classes [(h_t, .inr (1, [.ref h_t_rows, .int u])), (h_t_rows, .inl (cI, 5, .inl t_rows))] t.heap ∧ va_D A [(h_t, .inr (1, [.ref h_t_rows, .int u])), (h_t_rows, .inl (cI, 5, .inl t_rows))]) A
def wp_Moves_pop (post : Int32 → Int32 → Prop) (t_count : Int32) : Prop := (0 < t_count → ∀ f16 : Int32, f16 = t_count - (1 : Int32) → (post (1 : Int32) f16)) ∧ (¬ 0 < t_count → post (0 : Int32) t_count)
set_option maxHeartbeats 4000000 in
set_option maxRecDepth 100000 in
theorem met_Moves_pop (l : Launch) (dC : Nat → ClassId) (dI : Nat → Nat → Nat) (cI cZ : ClassId) (h_t h_t_rows : Nat) (sz : Nat) (t_count : Int32) (t_rows : Nat → Int32) (post : Int32 → Int32 → Prop) (hw : wp_Moves_pop post t_count) : Met l y_Moves_pop (Cond.code y_Moves_pop b_Moves_pop 1 (some .boolean) :: gw) rm_Moves_pop (va_Pc [.ref h_t] (fun U => U.heap.size = sz ∧ EV (dC, dI) cI cZ U ∧ va_P (dC, dI) classes [(h_t, .inr (1, [.ref h_t_rows, .int t_count])), (h_t_rows, .inl (cI, 5, .inl t_rows))] U.heap ∧ va_D (fun _ => True) [(h_t, .inr (1, [.ref h_t_rows, .int t_count])), (h_t_rows, .inl (cI, 5, .inl t_rows))])) (QM_Moves_pop dC dI cI cZ h_t h_t_rows t_rows post (va_A [(h_t, .inr (1, [.ref h_t_rows, .int t_count])), (h_t_rows, .inl (cI, 5, .inl t_rows))] sz)) 0 0 (va_A [(h_t, .inr (1, [.ref h_t_rows, .int t_count])), (h_t_rows, .inl (cI, 5, .inl t_rows))] sz) := by
  refine Met.ofW (cc := b_Moves_pop) (maxL := 1) (ret := (some .boolean)) (by decide) rfl ?_
  intro p e s m args below meth c s₁ B hml hv
  obtain ⟨rfl, hsz, hE, hP, hD0⟩ := hv
  have C := CX.of (own := R_Moves) (D := (dC, dI)) (cI := cI) (cZ := cZ) B hml rfl hE
  obtain ⟨hx, hb, hr, -, hown, hts, hlocks, -⟩ := id C
  subst hsz
  have hD := hD0.self (sz := s.heap.size)
  generalize hAe : va_A [(h_t, .inr (1, [.ref h_t_rows, .int t_count])), (h_t_rows, .inl (cI, 5, .inl t_rows))] s.heap.size = A at hD ⊢
  have hA : ∀ q : Nat, s.heap.size ≤ q → A q := fun q h => by rw [← hAe]; exact Or.inr h
  have hS : va_S A s.heap s.heap [] := va_S.rf
  have hP : va_P (dC, dI) classes [(h_t, .inr (1, [.ref h_t_rows, .int t_count])), (h_t_rows, .inl (cI, 5, .inl t_rows))] s.heap := hP
  have hl := lv_entry ([.ref h_t]) (n := 1) (Nat.le_of_ble_eq_true rfl)
  rw [lg_entry_eq]
  generalize (lg_sl ([.ref h_t]) ++ List.replicate (1 - (lg_sl ([.ref h_t])).length) Slot.unset).toArray = ls at hl ⊢
  have hl : lv_has ls 1 [(0, .ref h_t)] := hl
  refine keyL (P := fun H locs => va_P (dC, dI) classes [(h_t, .inr (1, [.ref h_t_rows, .int t_count])), (h_t_rows, .inl (cI, 5, .inl t_rows))] H ∧ va_D A [(h_t, .inr (1, [.ref h_t_rows, .int t_count])), (h_t_rows, .inl (cI, 5, .inl t_rows))] ∧ va_S A s.heap H locs) ⟨hP, hD, hS⟩ (fun H locs hPP => ?_)
  clear hP hD hS
  obtain ⟨hP, hD, hS⟩ := hPP
  unfold wp_Moves_pop at hw
  refine lv_aload_n hx hb d_Moves_pop_0 rfl (lv_at hl 0 rfl) ?_
  refine va_get (D := (dC, dI)) (ci := 1) (v := .int t_count) (C := R_Moves) (T := F_Moves) (N := 2) hx hb hts i_Moves hown hE.1 hP 0 rfl rfl 1 (by decide) (hts _ kf_Moves_15) (fun _ h9 => h9) rfl d_Moves_pop_1 ?_
  refine lv_if_gt (tgt := 9) hx hb d_Moves_pop_4 (by decide) (fun c4 => ?_) (fun c4 => ?_)
  · have hw := hw.1 c4
    refine lv_aload_n hx hb d_Moves_pop_9 rfl (lv_at hl 0 rfl) ?_
    refine lv_dup hx hb d_Moves_pop_10 rfl ?_
    refine va_get (D := (dC, dI)) (ci := 1) (v := .int t_count) (C := R_Moves) (T := F_Moves) (N := 2) hx hb hts i_Moves hown hE.1 hP 0 rfl rfl 1 (by decide) (hts _ kf_Moves_15) (fun _ h9 => h9) rfl d_Moves_pop_11 ?_
    refine lv_iconst (v := (1 : Int32)) hx hb d_Moves_pop_14 (by decide) ?_
    refine lv_isub hx hb d_Moves_pop_15 ?_
    refine lv_topi (fun f16 ef16 => ?_)
    have hw := hw f16 ef16
    refine va_put (D := (dC, dI)) (ci := 1) (v := .int f16) (ty := .int) (C := R_Moves) (T := F_Moves) (N := 2) hx hb hts i_Moves t_Moves t_Moves_ok n_Moves hown hE.1 hP hD hS 0 rfl rfl 1 (by decide) (hts _ kf_Moves_15) (fun _ h9 => h9) rfl (by decide +kernel) rfl rfl (Nat.le_of_ble_eq_true rfl) d_Moves_pop_16 (fun H locs hP hD hS => ?_)
    have hP : va_P (dC, dI) classes [(h_t, .inr (1, [.ref h_t_rows, .int f16])), (h_t_rows, .inl (cI, 5, .inl t_rows))] H := hP
    have hD : va_D A [(h_t, .inr (1, [.ref h_t_rows, .int f16])), (h_t_rows, .inl (cI, 5, .inl t_rows))] := hD
    refine lv_iconst (v := (1 : Int32)) hx hb d_Moves_pop_19 (by decide) ?_
    exact W.zret (v := (1 : Int32)) hx hb hr rfl (fun t ht hW => ⟨⟨(1 : Int32), f16, rfl, hw, by rw [ht]; exact hP, hD⟩, hS.F ht⟩) hS.2.2 d_Moves_pop_20
  · have hw := hw.2 c4
    refine lv_iconst (v := (0 : Int32)) hx hb d_Moves_pop_7 (by decide) ?_
    exact W.zret (v := (0 : Int32)) hx hb hr rfl (fun t ht hW => ⟨⟨(0 : Int32), t_count, rfl, hw, by rw [ht]; exact hP, hD⟩, hS.F ht⟩) hS.2.2 d_Moves_pop_8

-- SwapOrbits$Moves.<init>()V
abbrev rm_Moves_init : Room := { frames := 1, cells := 1, slots := 5, locals := 20 }
abbrev QM_Moves_init (dC : Nat → ClassId) (dI : Nat → Nat → Nat) (cI cZ : ClassId) (h_t : Nat) (A : Nat → Prop) : Array Value → State → Outcome → State → Prop := va_Qv (fun _ : Unit => True) (fun _ t => ∃ (h_t_rows : Nat), va_P (dC, dI) classes [(h_t, .inr (1, [.ref h_t_rows, .int (0 : Int32)])), (h_t_rows, .inl (cI, 5, .inl (fun _ => 0)))] t.heap ∧ va_D A [(h_t, .inr (1, [.ref h_t_rows, .int (0 : Int32)])), (h_t_rows, .inl (cI, 5, .inl (fun _ => 0)))]) A
set_option maxHeartbeats 4000000 in
set_option maxRecDepth 100000 in
theorem met_Moves_init (l : Launch) (dC : Nat → ClassId) (dI : Nat → Nat → Nat) (cI cZ : ClassId) (h_t : Nat) (sz : Nat) : Met l y_Moves_init (Cond.code y_Moves_init b_Moves_init 1 none :: gw) rm_Moves_init (va_Pc [.ref h_t] (fun U => U.heap.size = sz ∧ EV (dC, dI) cI cZ U ∧ va_P (dC, dI) classes [(h_t, .inr (1, [.null, .int (0 : Int32)]))] U.heap ∧ va_D (fun _ => True) [(h_t, .inr (1, [.null, .int (0 : Int32)]))])) (QM_Moves_init dC dI cI cZ h_t (va_A [(h_t, .inr (1, [.null, .int (0 : Int32)]))] sz)) 1 5 (va_A [(h_t, .inr (1, [.null, .int (0 : Int32)]))] sz) := by
  refine Met.ofW (cc := b_Moves_init) (maxL := 1) (ret := none) (by decide) rfl ?_
  intro p e s m args below meth c s₁ B hml hv
  obtain ⟨rfl, hsz, hE, hP, hD0⟩ := hv
  have C := CX.of (own := R_Moves) (D := (dC, dI)) (cI := cI) (cZ := cZ) B hml rfl hE
  obtain ⟨hx, hb, hr, -, hown, hts, hlocks, -⟩ := id C
  have hin : meth.name = "<init>" := (name_of_methodNamed B.named B.method).1
  subst hsz
  have hD := hD0.self (sz := s.heap.size)
  generalize hAe : va_A [(h_t, .inr (1, [.null, .int (0 : Int32)]))] s.heap.size = A at hD ⊢
  have hA : ∀ q : Nat, s.heap.size ≤ q → A q := fun q h => by rw [← hAe]; exact Or.inr h
  have hS : va_S A s.heap s.heap [] := va_S.rf
  have hP : va_P (dC, dI) classes [(h_t, .inr (1, [.null, .int (0 : Int32)]))] s.heap := hP
  have hl := lv_entry ([.ref h_t]) (n := 1) (Nat.le_of_ble_eq_true rfl)
  rw [lg_entry_eq]
  generalize (lg_sl ([.ref h_t]) ++ List.replicate (1 - (lg_sl ([.ref h_t])).length) Slot.unset).toArray = ls at hl ⊢
  have hl : lv_has ls 1 [(0, .ref h_t)] := hl
  refine keyL (P := fun H locs => va_P (dC, dI) classes [(h_t, .inr (1, [.null, .int (0 : Int32)]))] H ∧ va_D A [(h_t, .inr (1, [.null, .int (0 : Int32)]))] ∧ va_S A s.heap H locs) ⟨hP, hD, hS⟩ (fun H locs hPP => ?_)
  clear hP hD hS
  obtain ⟨hP, hD, hS⟩ := hPP
  refine lv_aload_n hx hb d_Moves_init_0 rfl (lv_at hl 0 rfl) ?_
  refine W.objInit hx hb hown (hts _ kl_Moves_3) (hts _ kn_oi) (hts _ kc_oi) rfl (by rw [hml]; exact hl.1) rfl d_Moves_init_1 (Nat.le_of_ble_eq_true rfl) (Nat.le_of_ble_eq_true rfl) ?_
  refine W.eq (g2 := F0 m 4 ls []) rfl ?_
  refine lv_aload_n hx hb d_Moves_init_4 rfl (lv_at hl 0 rfl) ?_
  refine lv_iconst (v := (5 : Int32)) hx hb d_Moves_init_5 (by decide) ?_
  refine va_newa (atype := .int) (ty := .int) (a0 := (5, .inl (fun _ => 0))) (N' := 5) hx hb (hts _ ka_int) rfl hE.1 hP hD hS hA (fun _ => rfl) (by decide) (by decide) (by decide) (by decide) (by decide) d_Moves_init_6 (fun h_t_rows cA H hK2 hP hD hS => ?_)
  have hcA := sameI hK2
  subst hcA
  have hP : va_P (dC, dI) classes [(h_t, .inr (1, [.null, .int (0 : Int32)])), (h_t_rows, .inl (cI, 5, .inl (fun _ => 0)))] H := hP
  have hD : va_D A [(h_t, .inr (1, [.null, .int (0 : Int32)])), (h_t_rows, .inl (cI, 5, .inl (fun _ => 0)))] := hD
  refine W.widen (k := 1) (n := 5) (by decide) (by decide) ?_
  refine va_putF (D := (dC, dI)) (ci := 1) (v := .ref h_t_rows) (ty := .array .int) (C := R_Moves) (T := F_Moves) (N := 2) hx hb hts i_Moves t_Moves t_Moves_ok n_Moves hown hE.1 hP hD hS 0 rfl rfl 0 (by decide) (hts _ kf_Moves_9) (fun _ h9 => h9) rfl hin rfl (by decide +kernel) rfl rfl (Nat.le_of_ble_eq_true rfl) d_Moves_init_8 (fun H locs hP hD hS => ?_)
  have hP : va_P (dC, dI) classes [(h_t, .inr (1, [.ref h_t_rows, .int (0 : Int32)])), (h_t_rows, .inl (cI, 5, .inl (fun _ => 0)))] H := hP
  have hD : va_D A [(h_t, .inr (1, [.ref h_t_rows, .int (0 : Int32)])), (h_t_rows, .inl (cI, 5, .inl (fun _ => 0)))] := hD
  have hP9 : va_P (dC, dI) classes [(h_t, .inr (1, [.ref h_t_rows, .int (0 : Int32)])), (h_t_rows, .inl (cI, 5, .inl (fun _ => 0)))] H := hP.sub [0, 1] rfl
  have hD9 : va_D A [(h_t, .inr (1, [.ref h_t_rows, .int (0 : Int32)])), (h_t_rows, .inl (cI, 5, .inl (fun _ => 0)))] := hD.sub [0, 1] (by decide) rfl
  exact W.vret hx hb hr (fun t ht hW => ⟨⟨(), rfl, trivial, h_t_rows, by rw [ht]; exact hP9, hD9⟩, hS.F ht⟩) hS.2.2 d_Moves_init_11

