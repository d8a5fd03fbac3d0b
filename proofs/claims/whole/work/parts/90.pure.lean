/-! the law's start, and its end -/
theorem fac_start : Fac (upd (upd (upd (upd (upd (upd (upd (upd (fun _ => (0 : Int32)) (0 : Int32).toNatClampNeg 1) (1 : Int32).toNatClampNeg 1) (2 : Int32).toNatClampNeg 2) (3 : Int32).toNatClampNeg 6) (4 : Int32).toNatClampNeg 24) (5 : Int32).toNatClampNeg 120) (6 : Int32).toNatClampNeg 720) (7 : Int32).toNatClampNeg 5040) := by
  unfold Fac
  decide +kernel
theorem law_pure {L : Nat} {xs : Nat → Int32} (hL : L ≤ 2048) : wp_Law L xs := by
  unfold wp_Law wp_SO_init
  refine so_begin (n := 1) (c := 1) (by omega) (by omega) (fun en' u' wt' q1 q2 q3 => ?_)
  unfold wp_Mo_init
  refine mo_begins (n := 1) (c := 1) (by omega) (fun e' w' p1 p2 => ?_)
  exact ⟨L / 4 + 1, law_loop hL fac_start (L / 4) 0 (by omega) (n := 1) (c := 1) (k := 0) (mv := fun _ => 0) (ed := fun _ _ => false) ⟨Pk_0 _ (by omega) (by omega) (by omega) (by omega), EdOk_0 _, fun i hi => absurd hi (by omega), q1, q2, fun j hj => (q3 j hj).trans (p2 j hj).symm, fun i hi => absurd hi (by omega), p1⟩ (Or.inl rfl) (Or.inl rfl) (Or.inl rfl) (Or.inl rfl)⟩
