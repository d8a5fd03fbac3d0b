theorem hd_SO_set : y_SO_set.cls ≠ "java/lang/invoke/MethodHandle" ∧ y_SO_set.cls ≠ "java/lang/invoke/VarHandle" ∧ (parseMethodDescriptor y_SO_set.desc).map (fun d => d.parameters.length) = some 2 := by decide +kernel
theorem hd_Mo_set : y_Mo_set.cls ≠ "java/lang/invoke/MethodHandle" ∧ y_Mo_set.cls ≠ "java/lang/invoke/VarHandle" ∧ (parseMethodDescriptor y_Mo_set.desc).map (fun d => d.parameters.length) = some 2 := by decide +kernel
theorem hd_SO_move : y_SO_move.cls ≠ "java/lang/invoke/MethodHandle" ∧ y_SO_move.cls ≠ "java/lang/invoke/VarHandle" ∧ (parseMethodDescriptor y_SO_move.desc).map (fun d => d.parameters.length) = some 1 := by decide +kernel
theorem hd_Mo_move : y_Mo_move.cls ≠ "java/lang/invoke/MethodHandle" ∧ y_Mo_move.cls ≠ "java/lang/invoke/VarHandle" ∧ (parseMethodDescriptor y_Mo_move.desc).map (fun d => d.parameters.length) = some 1 := by decide +kernel
theorem hd_SO_back : y_SO_back.cls ≠ "java/lang/invoke/MethodHandle" ∧ y_SO_back.cls ≠ "java/lang/invoke/VarHandle" ∧ (parseMethodDescriptor y_SO_back.desc).map (fun d => d.parameters.length) = some 0 := by decide +kernel
theorem hd_Mo_back : y_Mo_back.cls ≠ "java/lang/invoke/MethodHandle" ∧ y_Mo_back.cls ≠ "java/lang/invoke/VarHandle" ∧ (parseMethodDescriptor y_Mo_back.desc).map (fun d => d.parameters.length) = some 0 := by decide +kernel
theorem hd_SO_edge : y_SO_edge.cls ≠ "java/lang/invoke/MethodHandle" ∧ y_SO_edge.cls ≠ "java/lang/invoke/VarHandle" ∧ (parseMethodDescriptor y_SO_edge.desc).map (fun d => d.parameters.length) = some 2 := by decide +kernel
theorem hd_Mo_edge : y_Mo_edge.cls ≠ "java/lang/invoke/MethodHandle" ∧ y_Mo_edge.cls ≠ "java/lang/invoke/VarHandle" ∧ (parseMethodDescriptor y_Mo_edge.desc).map (fun d => d.parameters.length) = some 2 := by decide +kernel
theorem hd_SO_weight : y_SO_weight.cls ≠ "java/lang/invoke/MethodHandle" ∧ y_SO_weight.cls ≠ "java/lang/invoke/VarHandle" ∧ (parseMethodDescriptor y_SO_weight.desc).map (fun d => d.parameters.length) = some 2 := by decide +kernel
theorem hd_Mo_weight : y_Mo_weight.cls ≠ "java/lang/invoke/MethodHandle" ∧ y_Mo_weight.cls ≠ "java/lang/invoke/VarHandle" ∧ (parseMethodDescriptor y_Mo_weight.desc).map (fun d => d.parameters.length) = some 2 := by decide +kernel
theorem hd_SO_told : y_SO_told.cls ≠ "java/lang/invoke/MethodHandle" ∧ y_SO_told.cls ≠ "java/lang/invoke/VarHandle" ∧ (parseMethodDescriptor y_SO_told.desc).map (fun d => d.parameters.length) = some 1 := by decide +kernel
theorem hd_Mo_told : y_Mo_told.cls ≠ "java/lang/invoke/MethodHandle" ∧ y_Mo_told.cls ≠ "java/lang/invoke/VarHandle" ∧ (parseMethodDescriptor y_Mo_told.desc).map (fun d => d.parameters.length) = some 1 := by decide +kernel
theorem hd_SO_number : y_SO_number.cls ≠ "java/lang/invoke/MethodHandle" ∧ y_SO_number.cls ≠ "java/lang/invoke/VarHandle" ∧ (parseMethodDescriptor y_SO_number.desc).map (fun d => d.parameters.length) = some 1 := by decide +kernel
theorem hd_Mo_number : y_Mo_number.cls ≠ "java/lang/invoke/MethodHandle" ∧ y_Mo_number.cls ≠ "java/lang/invoke/VarHandle" ∧ (parseMethodDescriptor y_Mo_number.desc).map (fun d => d.parameters.length) = some 1 := by decide +kernel
theorem hd_SO_element : y_SO_element.cls ≠ "java/lang/invoke/MethodHandle" ∧ y_SO_element.cls ≠ "java/lang/invoke/VarHandle" ∧ (parseMethodDescriptor y_SO_element.desc).map (fun d => d.parameters.length) = some 1 := by decide +kernel
theorem hd_Mo_element : y_Mo_element.cls ≠ "java/lang/invoke/MethodHandle" ∧ y_Mo_element.cls ≠ "java/lang/invoke/VarHandle" ∧ (parseMethodDescriptor y_Mo_element.desc).map (fun d => d.parameters.length) = some 1 := by decide +kernel
theorem hd_SO_cycles : y_SO_cycles.cls ≠ "java/lang/invoke/MethodHandle" ∧ y_SO_cycles.cls ≠ "java/lang/invoke/VarHandle" ∧ (parseMethodDescriptor y_SO_cycles.desc).map (fun d => d.parameters.length) = some 1 := by decide +kernel
theorem hd_Mo_cycles : y_Mo_cycles.cls ≠ "java/lang/invoke/MethodHandle" ∧ y_Mo_cycles.cls ≠ "java/lang/invoke/VarHandle" ∧ (parseMethodDescriptor y_Mo_cycles.desc).map (fun d => d.parameters.length) = some 1 := by decide +kernel
theorem hd_SO_keeps : y_SO_keeps.cls ≠ "java/lang/invoke/MethodHandle" ∧ y_SO_keeps.cls ≠ "java/lang/invoke/VarHandle" ∧ (parseMethodDescriptor y_SO_keeps.desc).map (fun d => d.parameters.length) = some 1 := by decide +kernel
theorem hd_Mo_keeps : y_Mo_keeps.cls ≠ "java/lang/invoke/MethodHandle" ∧ y_Mo_keeps.cls ≠ "java/lang/invoke/VarHandle" ∧ (parseMethodDescriptor y_Mo_keeps.desc).map (fun d => d.parameters.length) = some 1 := by decide +kernel
theorem hd_SO_keepsFit : y_SO_keepsFit.cls ≠ "java/lang/invoke/MethodHandle" ∧ y_SO_keepsFit.cls ≠ "java/lang/invoke/VarHandle" ∧ (parseMethodDescriptor y_SO_keepsFit.desc).map (fun d => d.parameters.length) = some 1 := by decide +kernel
theorem hd_Mo_keepsFit : y_Mo_keepsFit.cls ≠ "java/lang/invoke/MethodHandle" ∧ y_Mo_keepsFit.cls ≠ "java/lang/invoke/VarHandle" ∧ (parseMethodDescriptor y_Mo_keepsFit.desc).map (fun d => d.parameters.length) = some 1 := by decide +kernel
theorem hd_SO_reach : y_SO_reach.cls ≠ "java/lang/invoke/MethodHandle" ∧ y_SO_reach.cls ≠ "java/lang/invoke/VarHandle" ∧ (parseMethodDescriptor y_SO_reach.desc).map (fun d => d.parameters.length) = some 1 := by decide +kernel
theorem hd_Mo_reach : y_Mo_reach.cls ≠ "java/lang/invoke/MethodHandle" ∧ y_Mo_reach.cls ≠ "java/lang/invoke/VarHandle" ∧ (parseMethodDescriptor y_Mo_reach.desc).map (fun d => d.parameters.length) = some 1 := by decide +kernel
theorem hd_SO_order : y_SO_order.cls ≠ "java/lang/invoke/MethodHandle" ∧ y_SO_order.cls ≠ "java/lang/invoke/VarHandle" ∧ (parseMethodDescriptor y_SO_order.desc).map (fun d => d.parameters.length) = some 1 := by decide +kernel
theorem hd_Mo_order : y_Mo_order.cls ≠ "java/lang/invoke/MethodHandle" ∧ y_Mo_order.cls ≠ "java/lang/invoke/VarHandle" ∧ (parseMethodDescriptor y_Mo_order.desc).map (fun d => d.parameters.length) = some 1 := by decide +kernel
theorem hd_SO_orbits : y_SO_orbits.cls ≠ "java/lang/invoke/MethodHandle" ∧ y_SO_orbits.cls ≠ "java/lang/invoke/VarHandle" ∧ (parseMethodDescriptor y_SO_orbits.desc).map (fun d => d.parameters.length) = some 0 := by decide +kernel
theorem hd_Mo_orbits : y_Mo_orbits.cls ≠ "java/lang/invoke/MethodHandle" ∧ y_Mo_orbits.cls ≠ "java/lang/invoke/VarHandle" ∧ (parseMethodDescriptor y_Mo_orbits.desc).map (fun d => d.parameters.length) = some 0 := by decide +kernel
theorem hd_SO_orbitsOf : y_SO_orbitsOf.cls ≠ "java/lang/invoke/MethodHandle" ∧ y_SO_orbitsOf.cls ≠ "java/lang/invoke/VarHandle" ∧ (parseMethodDescriptor y_SO_orbitsOf.desc).map (fun d => d.parameters.length) = some 3 := by decide +kernel
theorem hd_Mo_orbitsOf : y_Mo_orbitsOf.cls ≠ "java/lang/invoke/MethodHandle" ∧ y_Mo_orbitsOf.cls ≠ "java/lang/invoke/VarHandle" ∧ (parseMethodDescriptor y_Mo_orbitsOf.desc).map (fun d => d.parameters.length) = some 3 := by decide +kernel
theorem hd_SO_fits : y_SO_fits.cls ≠ "java/lang/invoke/MethodHandle" ∧ y_SO_fits.cls ≠ "java/lang/invoke/VarHandle" ∧ (parseMethodDescriptor y_SO_fits.desc).map (fun d => d.parameters.length) = some 0 := by decide +kernel
theorem hd_Mo_fits : y_Mo_fits.cls ≠ "java/lang/invoke/MethodHandle" ∧ y_Mo_fits.cls ≠ "java/lang/invoke/VarHandle" ∧ (parseMethodDescriptor y_Mo_fits.desc).map (fun d => d.parameters.length) = some 0 := by decide +kernel
theorem hd_SO_full : y_SO_full.cls ≠ "java/lang/invoke/MethodHandle" ∧ y_SO_full.cls ≠ "java/lang/invoke/VarHandle" ∧ (parseMethodDescriptor y_SO_full.desc).map (fun d => d.parameters.length) = some 0 := by decide +kernel
theorem hd_Mo_full : y_Mo_full.cls ≠ "java/lang/invoke/MethodHandle" ∧ y_Mo_full.cls ≠ "java/lang/invoke/VarHandle" ∧ (parseMethodDescriptor y_Mo_full.desc).map (fun d => d.parameters.length) = some 0 := by decide +kernel
theorem hd_SO_sum : y_SO_sum.cls ≠ "java/lang/invoke/MethodHandle" ∧ y_SO_sum.cls ≠ "java/lang/invoke/VarHandle" ∧ (parseMethodDescriptor y_SO_sum.desc).map (fun d => d.parameters.length) = some 0 := by decide +kernel
theorem hd_Mo_sum : y_Mo_sum.cls ≠ "java/lang/invoke/MethodHandle" ∧ y_Mo_sum.cls ≠ "java/lang/invoke/VarHandle" ∧ (parseMethodDescriptor y_Mo_sum.desc).map (fun d => d.parameters.length) = some 0 := by decide +kernel
theorem hd_SO_head : y_SO_head.cls ≠ "java/lang/invoke/MethodHandle" ∧ y_SO_head.cls ≠ "java/lang/invoke/VarHandle" ∧ (parseMethodDescriptor y_SO_head.desc).map (fun d => d.parameters.length) = some 1 := by decide +kernel
theorem hd_Mo_head : y_Mo_head.cls ≠ "java/lang/invoke/MethodHandle" ∧ y_Mo_head.cls ≠ "java/lang/invoke/VarHandle" ∧ (parseMethodDescriptor y_Mo_head.desc).map (fun d => d.parameters.length) = some 1 := by decide +kernel
theorem hd_SO_mates : y_SO_mates.cls ≠ "java/lang/invoke/MethodHandle" ∧ y_SO_mates.cls ≠ "java/lang/invoke/VarHandle" ∧ (parseMethodDescriptor y_SO_mates.desc).map (fun d => d.parameters.length) = some 1 := by decide +kernel
theorem hd_Mo_mates : y_Mo_mates.cls ≠ "java/lang/invoke/MethodHandle" ∧ y_Mo_mates.cls ≠ "java/lang/invoke/VarHandle" ∧ (parseMethodDescriptor y_Mo_mates.desc).map (fun d => d.parameters.length) = some 1 := by decide +kernel
theorem hd_SO_rank : y_SO_rank.cls ≠ "java/lang/invoke/MethodHandle" ∧ y_SO_rank.cls ≠ "java/lang/invoke/VarHandle" ∧ (parseMethodDescriptor y_SO_rank.desc).map (fun d => d.parameters.length) = some 1 := by decide +kernel
theorem hd_Mo_rank : y_Mo_rank.cls ≠ "java/lang/invoke/MethodHandle" ∧ y_Mo_rank.cls ≠ "java/lang/invoke/VarHandle" ∧ (parseMethodDescriptor y_Mo_rank.desc).map (fun d => d.parameters.length) = some 1 := by decide +kernel
theorem hd_SO_nth : y_SO_nth.cls ≠ "java/lang/invoke/MethodHandle" ∧ y_SO_nth.cls ≠ "java/lang/invoke/VarHandle" ∧ (parseMethodDescriptor y_SO_nth.desc).map (fun d => d.parameters.length) = some 1 := by decide +kernel
theorem hd_Mo_nth : y_Mo_nth.cls ≠ "java/lang/invoke/MethodHandle" ∧ y_Mo_nth.cls ≠ "java/lang/invoke/VarHandle" ∧ (parseMethodDescriptor y_Mo_nth.desc).map (fun d => d.parameters.length) = some 1 := by decide +kernel
theorem hd_SO_by : y_SO_by.cls ≠ "java/lang/invoke/MethodHandle" ∧ y_SO_by.cls ≠ "java/lang/invoke/VarHandle" ∧ (parseMethodDescriptor y_SO_by.desc).map (fun d => d.parameters.length) = some 2 := by decide +kernel
theorem hd_Mo_by : y_Mo_by.cls ≠ "java/lang/invoke/MethodHandle" ∧ y_Mo_by.cls ≠ "java/lang/invoke/VarHandle" ∧ (parseMethodDescriptor y_Mo_by.desc).map (fun d => d.parameters.length) = some 2 := by decide +kernel
theorem hd_SO_fit : y_SO_fit.cls ≠ "java/lang/invoke/MethodHandle" ∧ y_SO_fit.cls ≠ "java/lang/invoke/VarHandle" ∧ (parseMethodDescriptor y_SO_fit.desc).map (fun d => d.parameters.length) = some 1 := by decide +kernel
theorem hd_Mo_fit : y_Mo_fit.cls ≠ "java/lang/invoke/MethodHandle" ∧ y_Mo_fit.cls ≠ "java/lang/invoke/VarHandle" ∧ (parseMethodDescriptor y_Mo_fit.desc).map (fun d => d.parameters.length) = some 1 := by decide +kernel
theorem hd_SO_made : y_SO_made.cls ≠ "java/lang/invoke/MethodHandle" ∧ y_SO_made.cls ≠ "java/lang/invoke/VarHandle" ∧ (parseMethodDescriptor y_SO_made.desc).map (fun d => d.parameters.length) = some 2 := by decide +kernel
theorem hd_Mo_made : y_Mo_made.cls ≠ "java/lang/invoke/MethodHandle" ∧ y_Mo_made.cls ≠ "java/lang/invoke/VarHandle" ∧ (parseMethodDescriptor y_Mo_made.desc).map (fun d => d.parameters.length) = some 2 := by decide +kernel
theorem hd_SO_init : y_SO_init.cls ≠ "java/lang/invoke/MethodHandle" ∧ y_SO_init.cls ≠ "java/lang/invoke/VarHandle" ∧ (parseMethodDescriptor y_SO_init.desc).map (fun d => d.parameters.length) = some 0 := by decide +kernel
theorem hd_Mo_init : y_Mo_init.cls ≠ "java/lang/invoke/MethodHandle" ∧ y_Mo_init.cls ≠ "java/lang/invoke/VarHandle" ∧ (parseMethodDescriptor y_Mo_init.desc).map (fun d => d.parameters.length) = some 0 := by decide +kernel
theorem kc_SO_set : Cond.code y_SO_set b_SO_set 3 (some .int) ∈ gw := gw_in 213 (by decide +kernel) rfl
theorem kl_Law_13 : Cond.methodLink R_Law 13 y_SO_set ∈ gw := gw_in 210 (by decide +kernel) rfl
theorem kn_SO_set : Cond.instanceMethod y_SO_set ∈ gw := gw_in 211 (by decide +kernel) rfl
theorem ke_SO_set : Cond.selects R_SO y_SO_set y_SO_set ∈ gw := gw_in 212 (by decide +kernel) rfl
theorem kc_Mo_set : Cond.code y_Mo_set b_Mo_set 3 (some .int) ∈ gw := gw_in 605 (by decide +kernel) rfl
theorem kl_Law_17 : Cond.methodLink R_Law 17 y_Mo_set ∈ gw := gw_in 602 (by decide +kernel) rfl
theorem kn_Mo_set : Cond.instanceMethod y_Mo_set ∈ gw := gw_in 603 (by decide +kernel) rfl
theorem ke_Mo_set : Cond.selects R_Mo y_Mo_set y_Mo_set ∈ gw := gw_in 604 (by decide +kernel) rfl
theorem kc_SO_move : Cond.code y_SO_move b_SO_move 2 (some .int) ∈ gw := gw_in 217 (by decide +kernel) rfl
theorem kl_Law_18 : Cond.methodLink R_Law 18 y_SO_move ∈ gw := gw_in 214 (by decide +kernel) rfl
theorem kn_SO_move : Cond.instanceMethod y_SO_move ∈ gw := gw_in 215 (by decide +kernel) rfl
theorem ke_SO_move : Cond.selects R_SO y_SO_move y_SO_move ∈ gw := gw_in 216 (by decide +kernel) rfl
theorem kc_Mo_move : Cond.code y_Mo_move b_Mo_move 2 (some .int) ∈ gw := gw_in 612 (by decide +kernel) rfl
theorem kl_Law_22 : Cond.methodLink R_Law 22 y_Mo_move ∈ gw := gw_in 609 (by decide +kernel) rfl
theorem kn_Mo_move : Cond.instanceMethod y_Mo_move ∈ gw := gw_in 610 (by decide +kernel) rfl
theorem ke_Mo_move : Cond.selects R_Mo y_Mo_move y_Mo_move ∈ gw := gw_in 611 (by decide +kernel) rfl
theorem kc_SO_back : Cond.code y_SO_back b_SO_back 1 (some .int) ∈ gw := gw_in 235 (by decide +kernel) rfl
theorem kl_Law_23 : Cond.methodLink R_Law 23 y_SO_back ∈ gw := gw_in 232 (by decide +kernel) rfl
theorem kn_SO_back : Cond.instanceMethod y_SO_back ∈ gw := gw_in 233 (by decide +kernel) rfl
theorem ke_SO_back : Cond.selects R_SO y_SO_back y_SO_back ∈ gw := gw_in 234 (by decide +kernel) rfl
theorem kc_Mo_back : Cond.code y_Mo_back b_Mo_back 1 (some .int) ∈ gw := gw_in 620 (by decide +kernel) rfl
theorem kl_Law_27 : Cond.methodLink R_Law 27 y_Mo_back ∈ gw := gw_in 617 (by decide +kernel) rfl
theorem kn_Mo_back : Cond.instanceMethod y_Mo_back ∈ gw := gw_in 618 (by decide +kernel) rfl
theorem ke_Mo_back : Cond.selects R_Mo y_Mo_back y_Mo_back ∈ gw := gw_in 619 (by decide +kernel) rfl
theorem kc_SO_edge : Cond.code y_SO_edge b_SO_edge 3 (some .int) ∈ gw := gw_in 243 (by decide +kernel) rfl
theorem kl_Law_28 : Cond.methodLink R_Law 28 y_SO_edge ∈ gw := gw_in 240 (by decide +kernel) rfl
theorem kn_SO_edge : Cond.instanceMethod y_SO_edge ∈ gw := gw_in 241 (by decide +kernel) rfl
theorem ke_SO_edge : Cond.selects R_SO y_SO_edge y_SO_edge ∈ gw := gw_in 242 (by decide +kernel) rfl
theorem kc_Mo_edge : Cond.code y_Mo_edge b_Mo_edge 4 (some .int) ∈ gw := gw_in 624 (by decide +kernel) rfl
theorem kl_Law_31 : Cond.methodLink R_Law 31 y_Mo_edge ∈ gw := gw_in 621 (by decide +kernel) rfl
theorem kn_Mo_edge : Cond.instanceMethod y_Mo_edge ∈ gw := gw_in 622 (by decide +kernel) rfl
theorem ke_Mo_edge : Cond.selects R_Mo y_Mo_edge y_Mo_edge ∈ gw := gw_in 623 (by decide +kernel) rfl
theorem kc_SO_weight : Cond.code y_SO_weight b_SO_weight 4 (some .int) ∈ gw := gw_in 259 (by decide +kernel) rfl
theorem kl_Law_32 : Cond.methodLink R_Law 32 y_SO_weight ∈ gw := gw_in 256 (by decide +kernel) rfl
theorem kn_SO_weight : Cond.instanceMethod y_SO_weight ∈ gw := gw_in 257 (by decide +kernel) rfl
theorem ke_SO_weight : Cond.selects R_SO y_SO_weight y_SO_weight ∈ gw := gw_in 258 (by decide +kernel) rfl
theorem kc_Mo_weight : Cond.code y_Mo_weight b_Mo_weight 4 (some .int) ∈ gw := gw_in 628 (by decide +kernel) rfl
theorem kl_Law_35 : Cond.methodLink R_Law 35 y_Mo_weight ∈ gw := gw_in 625 (by decide +kernel) rfl
theorem kn_Mo_weight : Cond.instanceMethod y_Mo_weight ∈ gw := gw_in 626 (by decide +kernel) rfl
theorem ke_Mo_weight : Cond.selects R_Mo y_Mo_weight y_Mo_weight ∈ gw := gw_in 627 (by decide +kernel) rfl
theorem kc_SO_told : Cond.code y_SO_told b_SO_told 2 (some .int) ∈ gw := gw_in 263 (by decide +kernel) rfl
theorem kl_Law_36 : Cond.methodLink R_Law 36 y_SO_told ∈ gw := gw_in 260 (by decide +kernel) rfl
theorem kn_SO_told : Cond.instanceMethod y_SO_told ∈ gw := gw_in 261 (by decide +kernel) rfl
theorem ke_SO_told : Cond.selects R_SO y_SO_told y_SO_told ∈ gw := gw_in 262 (by decide +kernel) rfl
theorem kc_Mo_told : Cond.code y_Mo_told b_Mo_told 4 (some .int) ∈ gw := gw_in 680 (by decide +kernel) rfl
theorem kl_Law_39 : Cond.methodLink R_Law 39 y_Mo_told ∈ gw := gw_in 677 (by decide +kernel) rfl
theorem kn_Mo_told : Cond.instanceMethod y_Mo_told ∈ gw := gw_in 678 (by decide +kernel) rfl
theorem ke_Mo_told : Cond.selects R_Mo y_Mo_told y_Mo_told ∈ gw := gw_in 679 (by decide +kernel) rfl
theorem kc_SO_number : Cond.code y_SO_number b_SO_number 2 (some .int) ∈ gw := gw_in 317 (by decide +kernel) rfl
theorem kl_Law_40 : Cond.methodLink R_Law 40 y_SO_number ∈ gw := gw_in 314 (by decide +kernel) rfl
theorem kn_SO_number : Cond.instanceMethod y_SO_number ∈ gw := gw_in 315 (by decide +kernel) rfl
theorem ke_SO_number : Cond.selects R_SO y_SO_number y_SO_number ∈ gw := gw_in 316 (by decide +kernel) rfl
theorem kc_Mo_number : Cond.code y_Mo_number b_Mo_number 3 (some .int) ∈ gw := gw_in 632 (by decide +kernel) rfl
theorem kl_Law_43 : Cond.methodLink R_Law 43 y_Mo_number ∈ gw := gw_in 629 (by decide +kernel) rfl
theorem kn_Mo_number : Cond.instanceMethod y_Mo_number ∈ gw := gw_in 630 (by decide +kernel) rfl
theorem ke_Mo_number : Cond.selects R_Mo y_Mo_number y_Mo_number ∈ gw := gw_in 631 (by decide +kernel) rfl
theorem kc_SO_element : Cond.code y_SO_element b_SO_element 2 (some .int) ∈ gw := gw_in 325 (by decide +kernel) rfl
theorem kl_Law_44 : Cond.methodLink R_Law 44 y_SO_element ∈ gw := gw_in 322 (by decide +kernel) rfl
theorem kn_SO_element : Cond.instanceMethod y_SO_element ∈ gw := gw_in 323 (by decide +kernel) rfl
theorem ke_SO_element : Cond.selects R_SO y_SO_element y_SO_element ∈ gw := gw_in 324 (by decide +kernel) rfl
theorem kc_Mo_element : Cond.code y_Mo_element b_Mo_element 2 (some .int) ∈ gw := gw_in 656 (by decide +kernel) rfl
theorem kl_Law_47 : Cond.methodLink R_Law 47 y_Mo_element ∈ gw := gw_in 653 (by decide +kernel) rfl
theorem kn_Mo_element : Cond.instanceMethod y_Mo_element ∈ gw := gw_in 654 (by decide +kernel) rfl
theorem ke_Mo_element : Cond.selects R_Mo y_Mo_element y_Mo_element ∈ gw := gw_in 655 (by decide +kernel) rfl
theorem kc_SO_cycles : Cond.code y_SO_cycles b_SO_cycles 3 (some .int) ∈ gw := gw_in 333 (by decide +kernel) rfl
theorem kl_Law_48 : Cond.methodLink R_Law 48 y_SO_cycles ∈ gw := gw_in 330 (by decide +kernel) rfl
theorem kn_SO_cycles : Cond.instanceMethod y_SO_cycles ∈ gw := gw_in 331 (by decide +kernel) rfl
theorem ke_SO_cycles : Cond.selects R_SO y_SO_cycles y_SO_cycles ∈ gw := gw_in 332 (by decide +kernel) rfl
theorem kc_Mo_cycles : Cond.code y_Mo_cycles b_Mo_cycles 2 (some .int) ∈ gw := gw_in 664 (by decide +kernel) rfl
theorem kl_Law_51 : Cond.methodLink R_Law 51 y_Mo_cycles ∈ gw := gw_in 661 (by decide +kernel) rfl
theorem kn_Mo_cycles : Cond.instanceMethod y_Mo_cycles ∈ gw := gw_in 662 (by decide +kernel) rfl
theorem ke_Mo_cycles : Cond.selects R_Mo y_Mo_cycles y_Mo_cycles ∈ gw := gw_in 663 (by decide +kernel) rfl
theorem kc_SO_keeps : Cond.code y_SO_keeps b_SO_keeps 3 (some .int) ∈ gw := gw_in 338 (by decide +kernel) rfl
theorem kl_Law_52 : Cond.methodLink R_Law 52 y_SO_keeps ∈ gw := gw_in 335 (by decide +kernel) rfl
theorem kn_SO_keeps : Cond.instanceMethod y_SO_keeps ∈ gw := gw_in 336 (by decide +kernel) rfl
theorem ke_SO_keeps : Cond.selects R_SO y_SO_keeps y_SO_keeps ∈ gw := gw_in 337 (by decide +kernel) rfl
theorem kc_Mo_keeps : Cond.code y_Mo_keeps b_Mo_keeps 2 (some .int) ∈ gw := gw_in 684 (by decide +kernel) rfl
theorem kl_Law_55 : Cond.methodLink R_Law 55 y_Mo_keeps ∈ gw := gw_in 681 (by decide +kernel) rfl
theorem kn_Mo_keeps : Cond.instanceMethod y_Mo_keeps ∈ gw := gw_in 682 (by decide +kernel) rfl
theorem ke_Mo_keeps : Cond.selects R_Mo y_Mo_keeps y_Mo_keeps ∈ gw := gw_in 683 (by decide +kernel) rfl
theorem kc_SO_keepsFit : Cond.code y_SO_keepsFit b_SO_keepsFit 3 (some .int) ∈ gw := gw_in 343 (by decide +kernel) rfl
theorem kl_Law_56 : Cond.methodLink R_Law 56 y_SO_keepsFit ∈ gw := gw_in 340 (by decide +kernel) rfl
theorem kn_SO_keepsFit : Cond.instanceMethod y_SO_keepsFit ∈ gw := gw_in 341 (by decide +kernel) rfl
theorem ke_SO_keepsFit : Cond.selects R_SO y_SO_keepsFit y_SO_keepsFit ∈ gw := gw_in 342 (by decide +kernel) rfl
theorem kc_Mo_keepsFit : Cond.code y_Mo_keepsFit b_Mo_keepsFit 2 (some .int) ∈ gw := gw_in 704 (by decide +kernel) rfl
theorem kl_Law_59 : Cond.methodLink R_Law 59 y_Mo_keepsFit ∈ gw := gw_in 701 (by decide +kernel) rfl
theorem kn_Mo_keepsFit : Cond.instanceMethod y_Mo_keepsFit ∈ gw := gw_in 702 (by decide +kernel) rfl
theorem ke_Mo_keepsFit : Cond.selects R_Mo y_Mo_keepsFit y_Mo_keepsFit ∈ gw := gw_in 703 (by decide +kernel) rfl
theorem kc_SO_reach : Cond.code y_SO_reach b_SO_reach 2 (some .int) ∈ gw := gw_in 382 (by decide +kernel) rfl
theorem kl_Law_60 : Cond.methodLink R_Law 60 y_SO_reach ∈ gw := gw_in 379 (by decide +kernel) rfl
theorem kn_SO_reach : Cond.instanceMethod y_SO_reach ∈ gw := gw_in 380 (by decide +kernel) rfl
theorem ke_SO_reach : Cond.selects R_SO y_SO_reach y_SO_reach ∈ gw := gw_in 381 (by decide +kernel) rfl
theorem kc_Mo_reach : Cond.code y_Mo_reach b_Mo_reach 7 (some .int) ∈ gw := gw_in 676 (by decide +kernel) rfl
theorem kl_Law_63 : Cond.methodLink R_Law 63 y_Mo_reach ∈ gw := gw_in 673 (by decide +kernel) rfl
theorem kn_Mo_reach : Cond.instanceMethod y_Mo_reach ∈ gw := gw_in 674 (by decide +kernel) rfl
theorem ke_Mo_reach : Cond.selects R_Mo y_Mo_reach y_Mo_reach ∈ gw := gw_in 675 (by decide +kernel) rfl
theorem kc_SO_order : Cond.code y_SO_order b_SO_order 3 (some .int) ∈ gw := gw_in 394 (by decide +kernel) rfl
theorem kl_Law_64 : Cond.methodLink R_Law 64 y_SO_order ∈ gw := gw_in 391 (by decide +kernel) rfl
theorem kn_SO_order : Cond.instanceMethod y_SO_order ∈ gw := gw_in 392 (by decide +kernel) rfl
theorem ke_SO_order : Cond.selects R_SO y_SO_order y_SO_order ∈ gw := gw_in 393 (by decide +kernel) rfl
theorem kc_Mo_order : Cond.code y_Mo_order b_Mo_order 9 (some .int) ∈ gw := gw_in 672 (by decide +kernel) rfl
theorem kl_Law_67 : Cond.methodLink R_Law 67 y_Mo_order ∈ gw := gw_in 669 (by decide +kernel) rfl
theorem kn_Mo_order : Cond.instanceMethod y_Mo_order ∈ gw := gw_in 670 (by decide +kernel) rfl
theorem ke_Mo_order : Cond.selects R_Mo y_Mo_order y_Mo_order ∈ gw := gw_in 671 (by decide +kernel) rfl
theorem kc_SO_orbits : Cond.code y_SO_orbits b_SO_orbits 1 (some .int) ∈ gw := gw_in 403 (by decide +kernel) rfl
theorem kl_Law_68 : Cond.methodLink R_Law 68 y_SO_orbits ∈ gw := gw_in 400 (by decide +kernel) rfl
theorem kn_SO_orbits : Cond.instanceMethod y_SO_orbits ∈ gw := gw_in 401 (by decide +kernel) rfl
theorem ke_SO_orbits : Cond.selects R_SO y_SO_orbits y_SO_orbits ∈ gw := gw_in 402 (by decide +kernel) rfl
theorem kc_Mo_orbits : Cond.code y_Mo_orbits b_Mo_orbits 1 (some .int) ∈ gw := gw_in 712 (by decide +kernel) rfl
theorem kl_Law_71 : Cond.methodLink R_Law 71 y_Mo_orbits ∈ gw := gw_in 709 (by decide +kernel) rfl
theorem kn_Mo_orbits : Cond.instanceMethod y_Mo_orbits ∈ gw := gw_in 710 (by decide +kernel) rfl
theorem ke_Mo_orbits : Cond.selects R_Mo y_Mo_orbits y_Mo_orbits ∈ gw := gw_in 711 (by decide +kernel) rfl
theorem kc_SO_orbitsOf : Cond.code y_SO_orbitsOf b_SO_orbitsOf 5 (some .int) ∈ gw := gw_in 432 (by decide +kernel) rfl
theorem kl_Law_72 : Cond.methodLink R_Law 72 y_SO_orbitsOf ∈ gw := gw_in 429 (by decide +kernel) rfl
theorem kn_SO_orbitsOf : Cond.instanceMethod y_SO_orbitsOf ∈ gw := gw_in 430 (by decide +kernel) rfl
theorem ke_SO_orbitsOf : Cond.selects R_SO y_SO_orbitsOf y_SO_orbitsOf ∈ gw := gw_in 431 (by decide +kernel) rfl
theorem kc_Mo_orbitsOf : Cond.code y_Mo_orbitsOf b_Mo_orbitsOf 12 (some .int) ∈ gw := gw_in 728 (by decide +kernel) rfl
theorem kl_Law_76 : Cond.methodLink R_Law 76 y_Mo_orbitsOf ∈ gw := gw_in 725 (by decide +kernel) rfl
theorem kn_Mo_orbitsOf : Cond.instanceMethod y_Mo_orbitsOf ∈ gw := gw_in 726 (by decide +kernel) rfl
theorem ke_Mo_orbitsOf : Cond.selects R_Mo y_Mo_orbitsOf y_Mo_orbitsOf ∈ gw := gw_in 727 (by decide +kernel) rfl
theorem kc_SO_fits : Cond.code y_SO_fits b_SO_fits 1 (some .int) ∈ gw := gw_in 459 (by decide +kernel) rfl
theorem kl_Law_77 : Cond.methodLink R_Law 77 y_SO_fits ∈ gw := gw_in 456 (by decide +kernel) rfl
theorem kn_SO_fits : Cond.instanceMethod y_SO_fits ∈ gw := gw_in 457 (by decide +kernel) rfl
theorem ke_SO_fits : Cond.selects R_SO y_SO_fits y_SO_fits ∈ gw := gw_in 458 (by decide +kernel) rfl
theorem kc_Mo_fits : Cond.code y_Mo_fits b_Mo_fits 3 (some .int) ∈ gw := gw_in 732 (by decide +kernel) rfl
theorem kl_Law_80 : Cond.methodLink R_Law 80 y_Mo_fits ∈ gw := gw_in 729 (by decide +kernel) rfl
theorem kn_Mo_fits : Cond.instanceMethod y_Mo_fits ∈ gw := gw_in 730 (by decide +kernel) rfl
theorem ke_Mo_fits : Cond.selects R_Mo y_Mo_fits y_Mo_fits ∈ gw := gw_in 731 (by decide +kernel) rfl
theorem kc_SO_full : Cond.code y_SO_full b_SO_full 1 (some .int) ∈ gw := gw_in 467 (by decide +kernel) rfl
theorem kl_Law_81 : Cond.methodLink R_Law 81 y_SO_full ∈ gw := gw_in 464 (by decide +kernel) rfl
theorem kn_SO_full : Cond.instanceMethod y_SO_full ∈ gw := gw_in 465 (by decide +kernel) rfl
theorem ke_SO_full : Cond.selects R_SO y_SO_full y_SO_full ∈ gw := gw_in 466 (by decide +kernel) rfl
theorem kc_Mo_full : Cond.code y_Mo_full b_Mo_full 3 (some .int) ∈ gw := gw_in 736 (by decide +kernel) rfl
theorem kl_Law_84 : Cond.methodLink R_Law 84 y_Mo_full ∈ gw := gw_in 733 (by decide +kernel) rfl
theorem kn_Mo_full : Cond.instanceMethod y_Mo_full ∈ gw := gw_in 734 (by decide +kernel) rfl
theorem ke_Mo_full : Cond.selects R_Mo y_Mo_full y_Mo_full ∈ gw := gw_in 735 (by decide +kernel) rfl
theorem kc_SO_sum : Cond.code y_SO_sum b_SO_sum 5 (some .long) ∈ gw := gw_in 475 (by decide +kernel) rfl
theorem kl_Law_85 : Cond.methodLink R_Law 85 y_SO_sum ∈ gw := gw_in 472 (by decide +kernel) rfl
theorem kn_SO_sum : Cond.instanceMethod y_SO_sum ∈ gw := gw_in 473 (by decide +kernel) rfl
theorem ke_SO_sum : Cond.selects R_SO y_SO_sum y_SO_sum ∈ gw := gw_in 474 (by decide +kernel) rfl
theorem kc_Mo_sum : Cond.code y_Mo_sum b_Mo_sum 7 (some .long) ∈ gw := gw_in 740 (by decide +kernel) rfl
theorem kl_Law_89 : Cond.methodLink R_Law 89 y_Mo_sum ∈ gw := gw_in 737 (by decide +kernel) rfl
theorem kn_Mo_sum : Cond.instanceMethod y_Mo_sum ∈ gw := gw_in 738 (by decide +kernel) rfl
theorem ke_Mo_sum : Cond.selects R_Mo y_Mo_sum y_Mo_sum ∈ gw := gw_in 739 (by decide +kernel) rfl
theorem kc_SO_head : Cond.code y_SO_head b_SO_head 3 (some .int) ∈ gw := gw_in 483 (by decide +kernel) rfl
theorem kl_Law_90 : Cond.methodLink R_Law 90 y_SO_head ∈ gw := gw_in 480 (by decide +kernel) rfl
theorem kn_SO_head : Cond.instanceMethod y_SO_head ∈ gw := gw_in 481 (by decide +kernel) rfl
theorem ke_SO_head : Cond.selects R_SO y_SO_head y_SO_head ∈ gw := gw_in 482 (by decide +kernel) rfl
theorem kc_Mo_head : Cond.code y_Mo_head b_Mo_head 2 (some .int) ∈ gw := gw_in 744 (by decide +kernel) rfl
theorem kl_Law_93 : Cond.methodLink R_Law 93 y_Mo_head ∈ gw := gw_in 741 (by decide +kernel) rfl
theorem kn_Mo_head : Cond.instanceMethod y_Mo_head ∈ gw := gw_in 742 (by decide +kernel) rfl
theorem ke_Mo_head : Cond.selects R_Mo y_Mo_head y_Mo_head ∈ gw := gw_in 743 (by decide +kernel) rfl
theorem kc_SO_mates : Cond.code y_SO_mates b_SO_mates 3 (some .int) ∈ gw := gw_in 495 (by decide +kernel) rfl
theorem kl_Law_94 : Cond.methodLink R_Law 94 y_SO_mates ∈ gw := gw_in 492 (by decide +kernel) rfl
theorem kn_SO_mates : Cond.instanceMethod y_SO_mates ∈ gw := gw_in 493 (by decide +kernel) rfl
theorem ke_SO_mates : Cond.selects R_SO y_SO_mates y_SO_mates ∈ gw := gw_in 494 (by decide +kernel) rfl
theorem kc_Mo_mates : Cond.code y_Mo_mates b_Mo_mates 2 (some .int) ∈ gw := gw_in 752 (by decide +kernel) rfl
theorem kl_Law_97 : Cond.methodLink R_Law 97 y_Mo_mates ∈ gw := gw_in 749 (by decide +kernel) rfl
theorem kn_Mo_mates : Cond.instanceMethod y_Mo_mates ∈ gw := gw_in 750 (by decide +kernel) rfl
theorem ke_Mo_mates : Cond.selects R_Mo y_Mo_mates y_Mo_mates ∈ gw := gw_in 751 (by decide +kernel) rfl
theorem kc_SO_rank : Cond.code y_SO_rank b_SO_rank 2 (some .int) ∈ gw := gw_in 503 (by decide +kernel) rfl
theorem kl_Law_98 : Cond.methodLink R_Law 98 y_SO_rank ∈ gw := gw_in 500 (by decide +kernel) rfl
theorem kn_SO_rank : Cond.instanceMethod y_SO_rank ∈ gw := gw_in 501 (by decide +kernel) rfl
theorem ke_SO_rank : Cond.selects R_SO y_SO_rank y_SO_rank ∈ gw := gw_in 502 (by decide +kernel) rfl
theorem kc_Mo_rank : Cond.code y_Mo_rank b_Mo_rank 2 (some .int) ∈ gw := gw_in 756 (by decide +kernel) rfl
theorem kl_Law_101 : Cond.methodLink R_Law 101 y_Mo_rank ∈ gw := gw_in 753 (by decide +kernel) rfl
theorem kn_Mo_rank : Cond.instanceMethod y_Mo_rank ∈ gw := gw_in 754 (by decide +kernel) rfl
theorem ke_Mo_rank : Cond.selects R_Mo y_Mo_rank y_Mo_rank ∈ gw := gw_in 755 (by decide +kernel) rfl
theorem kc_SO_nth : Cond.code y_SO_nth b_SO_nth 2 (some .int) ∈ gw := gw_in 507 (by decide +kernel) rfl
theorem kl_Law_102 : Cond.methodLink R_Law 102 y_SO_nth ∈ gw := gw_in 504 (by decide +kernel) rfl
theorem kn_SO_nth : Cond.instanceMethod y_SO_nth ∈ gw := gw_in 505 (by decide +kernel) rfl
theorem ke_SO_nth : Cond.selects R_SO y_SO_nth y_SO_nth ∈ gw := gw_in 506 (by decide +kernel) rfl
theorem kc_Mo_nth : Cond.code y_Mo_nth b_Mo_nth 2 (some .int) ∈ gw := gw_in 760 (by decide +kernel) rfl
theorem kl_Law_105 : Cond.methodLink R_Law 105 y_Mo_nth ∈ gw := gw_in 757 (by decide +kernel) rfl
theorem kn_Mo_nth : Cond.instanceMethod y_Mo_nth ∈ gw := gw_in 758 (by decide +kernel) rfl
theorem ke_Mo_nth : Cond.selects R_Mo y_Mo_nth y_Mo_nth ∈ gw := gw_in 759 (by decide +kernel) rfl
theorem kc_SO_by : Cond.code y_SO_by b_SO_by 6 (some .int) ∈ gw := gw_in 511 (by decide +kernel) rfl
theorem kl_Law_106 : Cond.methodLink R_Law 106 y_SO_by ∈ gw := gw_in 508 (by decide +kernel) rfl
theorem kn_SO_by : Cond.instanceMethod y_SO_by ∈ gw := gw_in 509 (by decide +kernel) rfl
theorem ke_SO_by : Cond.selects R_SO y_SO_by y_SO_by ∈ gw := gw_in 510 (by decide +kernel) rfl
theorem kc_Mo_by : Cond.code y_Mo_by b_Mo_by 4 (some .int) ∈ gw := gw_in 764 (by decide +kernel) rfl
theorem kl_Law_109 : Cond.methodLink R_Law 109 y_Mo_by ∈ gw := gw_in 761 (by decide +kernel) rfl
theorem kn_Mo_by : Cond.instanceMethod y_Mo_by ∈ gw := gw_in 762 (by decide +kernel) rfl
theorem ke_Mo_by : Cond.selects R_Mo y_Mo_by y_Mo_by ∈ gw := gw_in 763 (by decide +kernel) rfl
theorem kc_SO_fit : Cond.code y_SO_fit b_SO_fit 2 (some .int) ∈ gw := gw_in 516 (by decide +kernel) rfl
theorem kl_Law_110 : Cond.methodLink R_Law 110 y_SO_fit ∈ gw := gw_in 513 (by decide +kernel) rfl
theorem kn_SO_fit : Cond.instanceMethod y_SO_fit ∈ gw := gw_in 514 (by decide +kernel) rfl
theorem ke_SO_fit : Cond.selects R_SO y_SO_fit y_SO_fit ∈ gw := gw_in 515 (by decide +kernel) rfl
theorem kc_Mo_fit : Cond.code y_Mo_fit b_Mo_fit 2 (some .int) ∈ gw := gw_in 768 (by decide +kernel) rfl
theorem kl_Law_113 : Cond.methodLink R_Law 113 y_Mo_fit ∈ gw := gw_in 765 (by decide +kernel) rfl
theorem kn_Mo_fit : Cond.instanceMethod y_Mo_fit ∈ gw := gw_in 766 (by decide +kernel) rfl
theorem ke_Mo_fit : Cond.selects R_Mo y_Mo_fit y_Mo_fit ∈ gw := gw_in 767 (by decide +kernel) rfl
theorem kc_SO_made : Cond.code y_SO_made b_SO_made 3 (some .int) ∈ gw := gw_in 520 (by decide +kernel) rfl
theorem kl_Law_114 : Cond.methodLink R_Law 114 y_SO_made ∈ gw := gw_in 517 (by decide +kernel) rfl
theorem kn_SO_made : Cond.instanceMethod y_SO_made ∈ gw := gw_in 518 (by decide +kernel) rfl
theorem ke_SO_made : Cond.selects R_SO y_SO_made y_SO_made ∈ gw := gw_in 519 (by decide +kernel) rfl
theorem kc_Mo_made : Cond.code y_Mo_made b_Mo_made 3 (some .int) ∈ gw := gw_in 772 (by decide +kernel) rfl
theorem kl_Law_117 : Cond.methodLink R_Law 117 y_Mo_made ∈ gw := gw_in 769 (by decide +kernel) rfl
theorem kn_Mo_made : Cond.instanceMethod y_Mo_made ∈ gw := gw_in 770 (by decide +kernel) rfl
theorem ke_Mo_made : Cond.selects R_Mo y_Mo_made y_Mo_made ∈ gw := gw_in 771 (by decide +kernel) rfl
theorem kq_Law_7 : Cond.classLink R_Law 7 R_SO ∈ gw := gw_in 47 (by decide +kernel) rfl
theorem kt_SO : Cond.instantiable R_SO 8 ∈ gw := gw_in 48 (by decide +kernel) rfl
theorem kc_SO_init : Cond.code y_SO_init b_SO_init 1 none ∈ gw := gw_in 51 (by decide +kernel) rfl
theorem kl_Law_9 : Cond.methodLink R_Law 9 y_SO_init ∈ gw := gw_in 49 (by decide +kernel) rfl
theorem kn_SO_init : Cond.instanceMethod y_SO_init ∈ gw := gw_in 50 (by decide +kernel) rfl
theorem kq_Law_10 : Cond.classLink R_Law 10 R_Mo ∈ gw := gw_in 521 (by decide +kernel) rfl
theorem kt_Mo : Cond.instantiable R_Mo 23 ∈ gw := gw_in 522 (by decide +kernel) rfl
theorem kc_Mo_init : Cond.code y_Mo_init b_Mo_init 1 none ∈ gw := gw_in 525 (by decide +kernel) rfl
theorem kl_Law_12 : Cond.methodLink R_Law 12 y_Mo_init ∈ gw := gw_in 523 (by decide +kernel) rfl
theorem kn_Mo_init : Cond.instanceMethod y_Mo_init ∈ gw := gw_in 524 (by decide +kernel) rfl
