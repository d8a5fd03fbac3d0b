theorem hd_Rows_target : y_Rows_target.cls ≠ "java/lang/invoke/MethodHandle" ∧ y_Rows_target.cls ≠ "java/lang/invoke/VarHandle" ∧ (parseMethodDescriptor y_Rows_target.desc).map (fun d => d.parameters.length) = some 2 := by decide +kernel
theorem hd_Integer_bitCount : y_Integer_bitCount.cls ≠ "java/lang/invoke/MethodHandle" ∧ y_Integer_bitCount.cls ≠ "java/lang/invoke/VarHandle" ∧ (parseMethodDescriptor y_Integer_bitCount.desc).map (fun d => d.parameters.length) = some 1 := by decide +kernel
theorem hd_Rows_cycleOf : y_Rows_cycleOf.cls ≠ "java/lang/invoke/MethodHandle" ∧ y_Rows_cycleOf.cls ≠ "java/lang/invoke/VarHandle" ∧ (parseMethodDescriptor y_Rows_cycleOf.desc).map (fun d => d.parameters.length) = some 3 := by decide +kernel
theorem hd_Rows_identity : y_Rows_identity.cls ≠ "java/lang/invoke/MethodHandle" ∧ y_Rows_identity.cls ≠ "java/lang/invoke/VarHandle" ∧ (parseMethodDescriptor y_Rows_identity.desc).map (fun d => d.parameters.length) = some 1 := by decide +kernel
theorem hd_Rows_chain : y_Rows_chain.cls ≠ "java/lang/invoke/MethodHandle" ∧ y_Rows_chain.cls ≠ "java/lang/invoke/VarHandle" ∧ (parseMethodDescriptor y_Rows_chain.desc).map (fun d => d.parameters.length) = some 3 := by decide +kernel
theorem hd_Plans_power : y_Plans_power.cls ≠ "java/lang/invoke/MethodHandle" ∧ y_Plans_power.cls ≠ "java/lang/invoke/VarHandle" ∧ (parseMethodDescriptor y_Plans_power.desc).map (fun d => d.parameters.length) = some 2 := by decide +kernel
theorem hd_Plans_colourAt : y_Plans_colourAt.cls ≠ "java/lang/invoke/MethodHandle" ∧ y_Plans_colourAt.cls ≠ "java/lang/invoke/VarHandle" ∧ (parseMethodDescriptor y_Plans_colourAt.desc).map (fun d => d.parameters.length) = some 2 := by decide +kernel
theorem hd_Arrays_fill : y_Arrays_fill.cls ≠ "java/lang/invoke/MethodHandle" ∧ y_Arrays_fill.cls ≠ "java/lang/invoke/VarHandle" ∧ (parseMethodDescriptor y_Arrays_fill.desc).map (fun d => d.parameters.length) = some 2 := by decide +kernel
theorem hd_Edges_joins : y_Edges_joins.cls ≠ "java/lang/invoke/MethodHandle" ∧ y_Edges_joins.cls ≠ "java/lang/invoke/VarHandle" ∧ (parseMethodDescriptor y_Edges_joins.desc).map (fun d => d.parameters.length) = some 2 := by decide +kernel
theorem hd_Edges_areAllTakenToEdges : y_Edges_areAllTakenToEdges.cls ≠ "java/lang/invoke/MethodHandle" ∧ y_Edges_areAllTakenToEdges.cls ≠ "java/lang/invoke/VarHandle" ∧ (parseMethodDescriptor y_Edges_areAllTakenToEdges.desc).map (fun d => d.parameters.length) = some 1 := by decide +kernel
theorem hd_Edges_isLikeALesserNeighbour : y_Edges_isLikeALesserNeighbour.cls ≠ "java/lang/invoke/MethodHandle" ∧ y_Edges_isLikeALesserNeighbour.cls ≠ "java/lang/invoke/VarHandle" ∧ (parseMethodDescriptor y_Edges_isLikeALesserNeighbour.desc).map (fun d => d.parameters.length) = some 2 := by decide +kernel
theorem hd_Rows_place : y_Rows_place.cls ≠ "java/lang/invoke/MethodHandle" ∧ y_Rows_place.cls ≠ "java/lang/invoke/VarHandle" ∧ (parseMethodDescriptor y_Rows_place.desc).map (fun d => d.parameters.length) = some 2 := by decide +kernel
theorem hd_Group_isCell : y_Group_isCell.cls ≠ "java/lang/invoke/MethodHandle" ∧ y_Group_isCell.cls ≠ "java/lang/invoke/VarHandle" ∧ (parseMethodDescriptor y_Group_isCell.desc).map (fun d => d.parameters.length) = some 1 := by decide +kernel
theorem hd_Group_find : y_Group_find.cls ≠ "java/lang/invoke/MethodHandle" ∧ y_Group_find.cls ≠ "java/lang/invoke/VarHandle" ∧ (parseMethodDescriptor y_Group_find.desc).map (fun d => d.parameters.length) = some 1 := by decide +kernel
theorem hd_Group_putInOrder : y_Group_putInOrder.cls ≠ "java/lang/invoke/MethodHandle" ∧ y_Group_putInOrder.cls ≠ "java/lang/invoke/VarHandle" ∧ (parseMethodDescriptor y_Group_putInOrder.desc).map (fun d => d.parameters.length) = some 0 := by decide +kernel
theorem hd_Rows_countCycles : y_Rows_countCycles.cls ≠ "java/lang/invoke/MethodHandle" ∧ y_Rows_countCycles.cls ≠ "java/lang/invoke/VarHandle" ∧ (parseMethodDescriptor y_Rows_countCycles.desc).map (fun d => d.parameters.length) = some 2 := by decide +kernel
theorem hd_Table_isCell : y_Table_isCell.cls ≠ "java/lang/invoke/MethodHandle" ∧ y_Table_isCell.cls ≠ "java/lang/invoke/VarHandle" ∧ (parseMethodDescriptor y_Table_isCell.desc).map (fun d => d.parameters.length) = some 1 := by decide +kernel
theorem hd_Table_find : y_Table_find.cls ≠ "java/lang/invoke/MethodHandle" ∧ y_Table_find.cls ≠ "java/lang/invoke/VarHandle" ∧ (parseMethodDescriptor y_Table_find.desc).map (fun d => d.parameters.length) = some 1 := by decide +kernel
theorem hd_Plans_spread : y_Plans_spread.cls ≠ "java/lang/invoke/MethodHandle" ∧ y_Plans_spread.cls ≠ "java/lang/invoke/VarHandle" ∧ (parseMethodDescriptor y_Plans_spread.desc).map (fun d => d.parameters.length) = some 1 := by decide +kernel
theorem hd_Plans_moved : y_Plans_moved.cls ≠ "java/lang/invoke/MethodHandle" ∧ y_Plans_moved.cls ≠ "java/lang/invoke/VarHandle" ∧ (parseMethodDescriptor y_Plans_moved.desc).map (fun d => d.parameters.length) = some 2 := by decide +kernel
theorem hd_Table_flood : y_Table_flood.cls ≠ "java/lang/invoke/MethodHandle" ∧ y_Table_flood.cls ≠ "java/lang/invoke/VarHandle" ∧ (parseMethodDescriptor y_Table_flood.desc).map (fun d => d.parameters.length) = some 3 := by decide +kernel
theorem hd_Plans_shape : y_Plans_shape.cls ≠ "java/lang/invoke/MethodHandle" ∧ y_Plans_shape.cls ≠ "java/lang/invoke/VarHandle" ∧ (parseMethodDescriptor y_Plans_shape.desc).map (fun d => d.parameters.length) = some 2 := by decide +kernel
theorem hd_Moves_clear : y_Moves_clear.cls ≠ "java/lang/invoke/MethodHandle" ∧ y_Moves_clear.cls ≠ "java/lang/invoke/VarHandle" ∧ (parseMethodDescriptor y_Moves_clear.desc).map (fun d => d.parameters.length) = some 0 := by decide +kernel
theorem hd_Edges_clear : y_Edges_clear.cls ≠ "java/lang/invoke/MethodHandle" ∧ y_Edges_clear.cls ≠ "java/lang/invoke/VarHandle" ∧ (parseMethodDescriptor y_Edges_clear.desc).map (fun d => d.parameters.length) = some 0 := by decide +kernel
theorem hd_SO_forgetGroup : y_SO_forgetGroup.cls ≠ "java/lang/invoke/MethodHandle" ∧ y_SO_forgetGroup.cls ≠ "java/lang/invoke/VarHandle" ∧ (parseMethodDescriptor y_SO_forgetGroup.desc).map (fun d => d.parameters.length) = some 0 := by decide +kernel
theorem hd_SO_begin : y_SO_begin.cls ≠ "java/lang/invoke/MethodHandle" ∧ y_SO_begin.cls ≠ "java/lang/invoke/VarHandle" ∧ (parseMethodDescriptor y_SO_begin.desc).map (fun d => d.parameters.length) = some 2 := by decide +kernel
theorem hd_Rows_isPermutation : y_Rows_isPermutation.cls ≠ "java/lang/invoke/MethodHandle" ∧ y_Rows_isPermutation.cls ≠ "java/lang/invoke/VarHandle" ∧ (parseMethodDescriptor y_Rows_isPermutation.desc).map (fun d => d.parameters.length) = some 2 := by decide +kernel
theorem hd_SO_isRow : y_SO_isRow.cls ≠ "java/lang/invoke/MethodHandle" ∧ y_SO_isRow.cls ≠ "java/lang/invoke/VarHandle" ∧ (parseMethodDescriptor y_SO_isRow.desc).map (fun d => d.parameters.length) = some 1 := by decide +kernel
theorem hd_Moves_push : y_Moves_push.cls ≠ "java/lang/invoke/MethodHandle" ∧ y_Moves_push.cls ≠ "java/lang/invoke/VarHandle" ∧ (parseMethodDescriptor y_Moves_push.desc).map (fun d => d.parameters.length) = some 1 := by decide +kernel
theorem hd_Moves_pop : y_Moves_pop.cls ≠ "java/lang/invoke/MethodHandle" ∧ y_Moves_pop.cls ≠ "java/lang/invoke/VarHandle" ∧ (parseMethodDescriptor y_Moves_pop.desc).map (fun d => d.parameters.length) = some 0 := by decide +kernel
theorem hd_SO_isPoint : y_SO_isPoint.cls ≠ "java/lang/invoke/MethodHandle" ∧ y_SO_isPoint.cls ≠ "java/lang/invoke/VarHandle" ∧ (parseMethodDescriptor y_SO_isPoint.desc).map (fun d => d.parameters.length) = some 1 := by decide +kernel
theorem hd_Edges_flip : y_Edges_flip.cls ≠ "java/lang/invoke/MethodHandle" ∧ y_Edges_flip.cls ≠ "java/lang/invoke/VarHandle" ∧ (parseMethodDescriptor y_Edges_flip.desc).map (fun d => d.parameters.length) = some 2 := by decide +kernel
theorem hd_Edges_total : y_Edges_total.cls ≠ "java/lang/invoke/MethodHandle" ∧ y_Edges_total.cls ≠ "java/lang/invoke/VarHandle" ∧ (parseMethodDescriptor y_Edges_total.desc).map (fun d => d.parameters.length) = some 0 := by decide +kernel
theorem hd_Group_close : y_Group_close.cls ≠ "java/lang/invoke/MethodHandle" ∧ y_Group_close.cls ≠ "java/lang/invoke/VarHandle" ∧ (parseMethodDescriptor y_Group_close.desc).map (fun d => d.parameters.length) = some 2 := by decide +kernel
theorem hd_SO_knownGroup : y_SO_knownGroup.cls ≠ "java/lang/invoke/MethodHandle" ∧ y_SO_knownGroup.cls ≠ "java/lang/invoke/VarHandle" ∧ (parseMethodDescriptor y_SO_knownGroup.desc).map (fun d => d.parameters.length) = some 0 := by decide +kernel
theorem hd_Group_allCycles : y_Group_allCycles.cls ≠ "java/lang/invoke/MethodHandle" ∧ y_Group_allCycles.cls ≠ "java/lang/invoke/VarHandle" ∧ (parseMethodDescriptor y_Group_allCycles.desc).map (fun d => d.parameters.length) = some 0 := by decide +kernel
theorem hd_Group_numberOf : y_Group_numberOf.cls ≠ "java/lang/invoke/MethodHandle" ∧ y_Group_numberOf.cls ≠ "java/lang/invoke/VarHandle" ∧ (parseMethodDescriptor y_Group_numberOf.desc).map (fun d => d.parameters.length) = some 1 := by decide +kernel
theorem hd_Group_rowAt : y_Group_rowAt.cls ≠ "java/lang/invoke/MethodHandle" ∧ y_Group_rowAt.cls ≠ "java/lang/invoke/VarHandle" ∧ (parseMethodDescriptor y_Group_rowAt.desc).map (fun d => d.parameters.length) = some 1 := by decide +kernel
theorem hd_Edges_areKeptBy : y_Edges_areKeptBy.cls ≠ "java/lang/invoke/MethodHandle" ∧ y_Edges_areKeptBy.cls ≠ "java/lang/invoke/VarHandle" ∧ (parseMethodDescriptor y_Edges_areKeptBy.desc).map (fun d => d.parameters.length) = some 1 := by decide +kernel
theorem hd_Plans_isKept : y_Plans_isKept.cls ≠ "java/lang/invoke/MethodHandle" ∧ y_Plans_isKept.cls ≠ "java/lang/invoke/VarHandle" ∧ (parseMethodDescriptor y_Plans_isKept.desc).map (fun d => d.parameters.length) = some 2 := by decide +kernel
theorem hd_Edges_allow : y_Edges_allow.cls ≠ "java/lang/invoke/MethodHandle" ∧ y_Edges_allow.cls ≠ "java/lang/invoke/VarHandle" ∧ (parseMethodDescriptor y_Edges_allow.desc).map (fun d => d.parameters.length) = some 1 := by decide +kernel
theorem hd_SO_countKeptAndFit : y_SO_countKeptAndFit.cls ≠ "java/lang/invoke/MethodHandle" ∧ y_SO_countKeptAndFit.cls ≠ "java/lang/invoke/VarHandle" ∧ (parseMethodDescriptor y_SO_countKeptAndFit.desc).map (fun d => d.parameters.length) = some 1 := by decide +kernel
theorem hd_Group_leastTarget : y_Group_leastTarget.cls ≠ "java/lang/invoke/MethodHandle" ∧ y_Group_leastTarget.cls ≠ "java/lang/invoke/VarHandle" ∧ (parseMethodDescriptor y_Group_leastTarget.desc).map (fun d => d.parameters.length) = some 1 := by decide +kernel
theorem hd_Rows_period : y_Rows_period.cls ≠ "java/lang/invoke/MethodHandle" ∧ y_Rows_period.cls ≠ "java/lang/invoke/VarHandle" ∧ (parseMethodDescriptor y_Rows_period.desc).map (fun d => d.parameters.length) = some 2 := by decide +kernel
theorem hd_Table_build : y_Table_build.cls ≠ "java/lang/invoke/MethodHandle" ∧ y_Table_build.cls ≠ "java/lang/invoke/VarHandle" ∧ (parseMethodDescriptor y_Table_build.desc).map (fun d => d.parameters.length) = some 2 := by decide +kernel
theorem hd_SO_knownTable : y_SO_knownTable.cls ≠ "java/lang/invoke/MethodHandle" ∧ y_SO_knownTable.cls ≠ "java/lang/invoke/VarHandle" ∧ (parseMethodDescriptor y_SO_knownTable.desc).map (fun d => d.parameters.length) = some 0 := by decide +kernel
theorem hd_SO_isShare : y_SO_isShare.cls ≠ "java/lang/invoke/MethodHandle" ∧ y_SO_isShare.cls ≠ "java/lang/invoke/VarHandle" ∧ (parseMethodDescriptor y_SO_isShare.desc).map (fun d => d.parameters.length) = some 1 := by decide +kernel
theorem hd_SO_mayHave : y_SO_mayHave.cls ≠ "java/lang/invoke/MethodHandle" ∧ y_SO_mayHave.cls ≠ "java/lang/invoke/VarHandle" ∧ (parseMethodDescriptor y_SO_mayHave.desc).map (fun d => d.parameters.length) = some 2 := by decide +kernel
theorem hd_Plans_tallyOf : y_Plans_tallyOf.cls ≠ "java/lang/invoke/MethodHandle" ∧ y_Plans_tallyOf.cls ≠ "java/lang/invoke/VarHandle" ∧ (parseMethodDescriptor y_Plans_tallyOf.desc).map (fun d => d.parameters.length) = some 4 := by decide +kernel
theorem hd_Table_headAt : y_Table_headAt.cls ≠ "java/lang/invoke/MethodHandle" ∧ y_Table_headAt.cls ≠ "java/lang/invoke/VarHandle" ∧ (parseMethodDescriptor y_Table_headAt.desc).map (fun d => d.parameters.length) = some 1 := by decide +kernel
theorem hd_Plans_tally : y_Plans_tally.cls ≠ "java/lang/invoke/MethodHandle" ∧ y_Plans_tally.cls ≠ "java/lang/invoke/VarHandle" ∧ (parseMethodDescriptor y_Plans_tally.desc).map (fun d => d.parameters.length) = some 1 := by decide +kernel
theorem hd_SO_countHeadsOf : y_SO_countHeadsOf.cls ≠ "java/lang/invoke/MethodHandle" ∧ y_SO_countHeadsOf.cls ≠ "java/lang/invoke/VarHandle" ∧ (parseMethodDescriptor y_SO_countHeadsOf.desc).map (fun d => d.parameters.length) = some 1 := by decide +kernel
theorem hd_SO_countFitHeads : y_SO_countFitHeads.cls ≠ "java/lang/invoke/MethodHandle" ∧ y_SO_countFitHeads.cls ≠ "java/lang/invoke/VarHandle" ∧ (parseMethodDescriptor y_SO_countFitHeads.desc).map (fun d => d.parameters.length) = some 0 := by decide +kernel
theorem hd_Table_countOfSize : y_Table_countOfSize.cls ≠ "java/lang/invoke/MethodHandle" ∧ y_Table_countOfSize.cls ≠ "java/lang/invoke/VarHandle" ∧ (parseMethodDescriptor y_Table_countOfSize.desc).map (fun d => d.parameters.length) = some 1 := by decide +kernel
theorem hd_Plans_product : y_Plans_product.cls ≠ "java/lang/invoke/MethodHandle" ∧ y_Plans_product.cls ≠ "java/lang/invoke/VarHandle" ∧ (parseMethodDescriptor y_Plans_product.desc).map (fun d => d.parameters.length) = some 2 := by decide +kernel
theorem hd_Plans_has : y_Plans_has.cls ≠ "java/lang/invoke/MethodHandle" ∧ y_Plans_has.cls ≠ "java/lang/invoke/VarHandle" ∧ (parseMethodDescriptor y_Plans_has.desc).map (fun d => d.parameters.length) = some 1 := by decide +kernel
theorem hd_Table_rankOf : y_Table_rankOf.cls ≠ "java/lang/invoke/MethodHandle" ∧ y_Table_rankOf.cls ≠ "java/lang/invoke/VarHandle" ∧ (parseMethodDescriptor y_Table_rankOf.desc).map (fun d => d.parameters.length) = some 1 := by decide +kernel
theorem hd_Table_sizeAt : y_Table_sizeAt.cls ≠ "java/lang/invoke/MethodHandle" ∧ y_Table_sizeAt.cls ≠ "java/lang/invoke/VarHandle" ∧ (parseMethodDescriptor y_Table_sizeAt.desc).map (fun d => d.parameters.length) = some 1 := by decide +kernel
theorem hd_Mo_within : y_Mo_within.cls ≠ "java/lang/invoke/MethodHandle" ∧ y_Mo_within.cls ≠ "java/lang/invoke/VarHandle" ∧ (parseMethodDescriptor y_Mo_within.desc).map (fun d => d.parameters.length) = some 3 := by decide +kernel
theorem hd_Mo_begins : y_Mo_begins.cls ≠ "java/lang/invoke/MethodHandle" ∧ y_Mo_begins.cls ≠ "java/lang/invoke/VarHandle" ∧ (parseMethodDescriptor y_Mo_begins.desc).map (fun d => d.parameters.length) = some 2 := by decide +kernel
theorem hd_Mo_factorial : y_Mo_factorial.cls ≠ "java/lang/invoke/MethodHandle" ∧ y_Mo_factorial.cls ≠ "java/lang/invoke/VarHandle" ∧ (parseMethodDescriptor y_Mo_factorial.desc).map (fun d => d.parameters.length) = some 1 := by decide +kernel
theorem hd_Mo_reads : y_Mo_reads.cls ≠ "java/lang/invoke/MethodHandle" ∧ y_Mo_reads.cls ≠ "java/lang/invoke/VarHandle" ∧ (parseMethodDescriptor y_Mo_reads.desc).map (fun d => d.parameters.length) = some 1 := by decide +kernel
theorem hd_Mo_take : y_Mo_take.cls ≠ "java/lang/invoke/MethodHandle" ∧ y_Mo_take.cls ≠ "java/lang/invoke/VarHandle" ∧ (parseMethodDescriptor y_Mo_take.desc).map (fun d => d.parameters.length) = some 1 := by decide +kernel
theorem hd_Mo_rowAtHand : y_Mo_rowAtHand.cls ≠ "java/lang/invoke/MethodHandle" ∧ y_Mo_rowAtHand.cls ≠ "java/lang/invoke/VarHandle" ∧ (parseMethodDescriptor y_Mo_rowAtHand.desc).map (fun d => d.parameters.length) = some 0 := by decide +kernel
theorem hd_Mo_placeAtHand : y_Mo_placeAtHand.cls ≠ "java/lang/invoke/MethodHandle" ∧ y_Mo_placeAtHand.cls ≠ "java/lang/invoke/VarHandle" ∧ (parseMethodDescriptor y_Mo_placeAtHand.desc).map (fun d => d.parameters.length) = some 0 := by decide +kernel
theorem hd_Mo_findGroup : y_Mo_findGroup.cls ≠ "java/lang/invoke/MethodHandle" ∧ y_Mo_findGroup.cls ≠ "java/lang/invoke/VarHandle" ∧ (parseMethodDescriptor y_Mo_findGroup.desc).map (fun d => d.parameters.length) = some 0 := by decide +kernel
theorem hd_Mo_isNumber : y_Mo_isNumber.cls ≠ "java/lang/invoke/MethodHandle" ∧ y_Mo_isNumber.cls ≠ "java/lang/invoke/VarHandle" ∧ (parseMethodDescriptor y_Mo_isNumber.desc).map (fun d => d.parameters.length) = some 1 := by decide +kernel
theorem hd_Mo_cyclesOf : y_Mo_cyclesOf.cls ≠ "java/lang/invoke/MethodHandle" ∧ y_Mo_cyclesOf.cls ≠ "java/lang/invoke/VarHandle" ∧ (parseMethodDescriptor y_Mo_cyclesOf.desc).map (fun d => d.parameters.length) = some 1 := by decide +kernel
theorem hd_Mo_looksOn : y_Mo_looksOn.cls ≠ "java/lang/invoke/MethodHandle" ∧ y_Mo_looksOn.cls ≠ "java/lang/invoke/VarHandle" ∧ (parseMethodDescriptor y_Mo_looksOn.desc).map (fun d => d.parameters.length) = some 0 := by decide +kernel
theorem hd_Mo_isFitNow : y_Mo_isFitNow.cls ≠ "java/lang/invoke/MethodHandle" ∧ y_Mo_isFitNow.cls ≠ "java/lang/invoke/VarHandle" ∧ (parseMethodDescriptor y_Mo_isFitNow.desc).map (fun d => d.parameters.length) = some 0 := by decide +kernel
theorem hd_Mo_look : y_Mo_look.cls ≠ "java/lang/invoke/MethodHandle" ∧ y_Mo_look.cls ≠ "java/lang/invoke/VarHandle" ∧ (parseMethodDescriptor y_Mo_look.desc).map (fun d => d.parameters.length) = some 1 := by decide +kernel
theorem hd_Mo_keptBy : y_Mo_keptBy.cls ≠ "java/lang/invoke/MethodHandle" ∧ y_Mo_keptBy.cls ≠ "java/lang/invoke/VarHandle" ∧ (parseMethodDescriptor y_Mo_keptBy.desc).map (fun d => d.parameters.length) = some 2 := by decide +kernel
theorem hd_Mo_areKept : y_Mo_areKept.cls ≠ "java/lang/invoke/MethodHandle" ∧ y_Mo_areKept.cls ≠ "java/lang/invoke/VarHandle" ∧ (parseMethodDescriptor y_Mo_areKept.desc).map (fun d => d.parameters.length) = some 0 := by decide +kernel
theorem hd_Mo_makes : y_Mo_makes.cls ≠ "java/lang/invoke/MethodHandle" ∧ y_Mo_makes.cls ≠ "java/lang/invoke/VarHandle" ∧ (parseMethodDescriptor y_Mo_makes.desc).map (fun d => d.parameters.length) = some 1 := by decide +kernel
theorem hd_Mo_joins : y_Mo_joins.cls ≠ "java/lang/invoke/MethodHandle" ∧ y_Mo_joins.cls ≠ "java/lang/invoke/VarHandle" ∧ (parseMethodDescriptor y_Mo_joins.desc).map (fun d => d.parameters.length) = some 1 := by decide +kernel
theorem hd_Mo_findOrbits : y_Mo_findOrbits.cls ≠ "java/lang/invoke/MethodHandle" ∧ y_Mo_findOrbits.cls ≠ "java/lang/invoke/VarHandle" ∧ (parseMethodDescriptor y_Mo_findOrbits.desc).map (fun d => d.parameters.length) = some 0 := by decide +kernel
theorem hd_Mo_isPlan : y_Mo_isPlan.cls ≠ "java/lang/invoke/MethodHandle" ∧ y_Mo_isPlan.cls ≠ "java/lang/invoke/VarHandle" ∧ (parseMethodDescriptor y_Mo_isPlan.desc).map (fun d => d.parameters.length) = some 1 := by decide +kernel
theorem hd_Moves_init : y_Moves_init.cls ≠ "java/lang/invoke/MethodHandle" ∧ y_Moves_init.cls ≠ "java/lang/invoke/VarHandle" ∧ (parseMethodDescriptor y_Moves_init.desc).map (fun d => d.parameters.length) = some 0 := by decide +kernel
theorem hd_Edges_init : y_Edges_init.cls ≠ "java/lang/invoke/MethodHandle" ∧ y_Edges_init.cls ≠ "java/lang/invoke/VarHandle" ∧ (parseMethodDescriptor y_Edges_init.desc).map (fun d => d.parameters.length) = some 0 := by decide +kernel
theorem hd_Plans_init : y_Plans_init.cls ≠ "java/lang/invoke/MethodHandle" ∧ y_Plans_init.cls ≠ "java/lang/invoke/VarHandle" ∧ (parseMethodDescriptor y_Plans_init.desc).map (fun d => d.parameters.length) = some 0 := by decide +kernel
theorem hd_Group_init : y_Group_init.cls ≠ "java/lang/invoke/MethodHandle" ∧ y_Group_init.cls ≠ "java/lang/invoke/VarHandle" ∧ (parseMethodDescriptor y_Group_init.desc).map (fun d => d.parameters.length) = some 0 := by decide +kernel
theorem hd_Table_init : y_Table_init.cls ≠ "java/lang/invoke/MethodHandle" ∧ y_Table_init.cls ≠ "java/lang/invoke/VarHandle" ∧ (parseMethodDescriptor y_Table_init.desc).map (fun d => d.parameters.length) = some 0 := by decide +kernel
theorem kk_Integer_265 : Cond.constant R_Integer 265 1431655765 ∈ gw := gw_in 271 (by decide +kernel) rfl
theorem kk_Integer_266 : Cond.constant R_Integer 266 858993459 ∈ gw := gw_in 272 (by decide +kernel) rfl
theorem kk_Integer_267 : Cond.constant R_Integer 267 252645135 ∈ gw := gw_in 273 (by decide +kernel) rfl
theorem kc_Rows_target : Cond.code y_Rows_target b_Rows_target 2 (some .int) ∈ gw := gw_in 227 (by decide +kernel) rfl
theorem ki_Rows : Cond.initialized R_Rows ∈ gw := gw_in 44 (by decide +kernel) rfl
theorem kl_Rows_9 : Cond.methodLink R_Rows 9 y_Rows_target ∈ gw := gw_in 225 (by decide +kernel) rfl
theorem ks_Rows_target : Cond.static y_Rows_target ∈ gw := gw_in 226 (by decide +kernel) rfl
theorem kc_Integer_bitCount : Cond.code y_Integer_bitCount b_Integer_bitCount 1 (some .int) ∈ gw := gw_in 270 (by decide +kernel) rfl
theorem ki_Integer : Cond.initialized R_Integer ∈ gw := gw_in 45 (by decide +kernel) rfl
theorem kl_Rows_15 : Cond.methodLink R_Rows 15 y_Integer_bitCount ∈ gw := gw_in 293 (by decide +kernel) rfl
theorem ks_Integer_bitCount : Cond.static y_Integer_bitCount ∈ gw := gw_in 269 (by decide +kernel) rfl
theorem kc_Rows_cycleOf : Cond.code y_Rows_cycleOf b_Rows_cycleOf 6 (some .int) ∈ gw := gw_in 313 (by decide +kernel) rfl
theorem kl_Rows_21 : Cond.methodLink R_Rows 21 y_Rows_cycleOf ∈ gw := gw_in 311 (by decide +kernel) rfl
theorem ks_Rows_cycleOf : Cond.static y_Rows_cycleOf ∈ gw := gw_in 312 (by decide +kernel) rfl
theorem kc_Rows_identity : Cond.code y_Rows_identity b_Rows_identity 3 (some .int) ∈ gw := gw_in 285 (by decide +kernel) rfl
theorem kl_Rows_25 : Cond.methodLink R_Rows 25 y_Rows_identity ∈ gw := gw_in 398 (by decide +kernel) rfl
theorem ks_Rows_identity : Cond.static y_Rows_identity ∈ gw := gw_in 284 (by decide +kernel) rfl
theorem kc_Rows_chain : Cond.code y_Rows_chain b_Rows_chain 5 (some .int) ∈ gw := gw_in 299 (by decide +kernel) rfl
theorem kl_Rows_28 : Cond.methodLink R_Rows 28 y_Rows_chain ∈ gw := gw_in 399 (by decide +kernel) rfl
theorem ks_Rows_chain : Cond.static y_Rows_chain ∈ gw := gw_in 298 (by decide +kernel) rfl
theorem kf_Moves_15 : Cond.fieldLink R_Moves 15 "SwapOrbits$Moves" "count" "I" ∈ gw := gw_in 65 (by decide +kernel) rfl
theorem kf_Moves_9 : Cond.fieldLink R_Moves 9 "SwapOrbits$Moves" "rows" "[I" ∈ gw := gw_in 61 (by decide +kernel) rfl
theorem kf_Plans_15 : Cond.fieldLink R_Plans 15 "SwapOrbits$Plans" "points" "I" ∈ gw := gw_in 93 (by decide +kernel) rfl
theorem kf_Plans_19 : Cond.fieldLink R_Plans 19 "SwapOrbits$Plans" "colours" "I" ∈ gw := gw_in 95 (by decide +kernel) rfl
theorem kc_Plans_power : Cond.code y_Plans_power b_Plans_power 4 (some .int) ∈ gw := gw_in 168 (by decide +kernel) rfl
theorem ki_Plans : Cond.initialized R_Plans ∈ gw := gw_in 39 (by decide +kernel) rfl
theorem kl_Plans_22 : Cond.methodLink R_Plans 22 y_Plans_power ∈ gw := gw_in 166 (by decide +kernel) rfl
theorem ks_Plans_power : Cond.static y_Plans_power ∈ gw := gw_in 167 (by decide +kernel) rfl
theorem kf_Plans_26 : Cond.fieldLink R_Plans 26 "SwapOrbits$Plans" "count" "I" ∈ gw := gw_in 98 (by decide +kernel) rfl
theorem kf_Plans_9 : Cond.fieldLink R_Plans 9 "SwapOrbits$Plans" "units" "[I" ∈ gw := gw_in 92 (by decide +kernel) rfl
theorem kc_Plans_colourAt : Cond.code y_Plans_colourAt b_Plans_colourAt 2 (some .int) ∈ gw := gw_in 368 (by decide +kernel) rfl
theorem kl_Plans_29 : Cond.methodLink R_Plans 29 y_Plans_colourAt ∈ gw := gw_in 366 (by decide +kernel) rfl
theorem ks_Plans_colourAt : Cond.static y_Plans_colourAt ∈ gw := gw_in 367 (by decide +kernel) rfl
theorem kl_Plans_32 : Cond.methodLink R_Plans 32 y_Rows_target ∈ gw := gw_in 369 (by decide +kernel) rfl
theorem kf_Edges_9 : Cond.fieldLink R_Edges 9 "SwapOrbits$Edges" "neighbours" "[I" ∈ gw := gw_in 82 (by decide +kernel) rfl
theorem kc_Arrays_fill : Cond.code y_Arrays_fill b_Arrays_fill 4 none ∈ gw := gw_in 179 (by decide +kernel) rfl
theorem ki_Arrays : Cond.initialized R_Arrays ∈ gw := gw_in 42 (by decide +kernel) rfl
theorem kl_Edges_15 : Cond.methodLink R_Edges 15 y_Arrays_fill ∈ gw := gw_in 177 (by decide +kernel) rfl
theorem ks_Arrays_fill : Cond.static y_Arrays_fill ∈ gw := gw_in 178 (by decide +kernel) rfl
theorem kl_Edges_21 : Cond.methodLink R_Edges 21 y_Integer_bitCount ∈ gw := gw_in 268 (by decide +kernel) rfl
theorem kf_Edges_27 : Cond.fieldLinkNest R_Edges 27 "SwapOrbits$Moves" "count" "I" "SwapOrbits" ∈ lw_tbl := tb_in 69 (by decide +kernel)
theorem kf_Edges_33 : Cond.fieldLinkNest R_Edges 33 "SwapOrbits$Moves" "rows" "[I" "SwapOrbits" ∈ lw_tbl := tb_in 64 (by decide +kernel)
theorem kc_Edges_joins : Cond.code y_Edges_joins b_Edges_joins 3 (some .boolean) ∈ gw := gw_in 255 (by decide +kernel) rfl
theorem ki_Edges : Cond.initialized R_Edges ∈ gw := gw_in 38 (by decide +kernel) rfl
theorem kl_Edges_40 : Cond.methodLink R_Edges 40 y_Edges_joins ∈ gw := gw_in 352 (by decide +kernel) rfl
theorem kn_Edges_joins : Cond.instanceMethod y_Edges_joins ∈ gw := gw_in 253 (by decide +kernel) rfl
theorem ke_Edges_joins : Cond.selects R_Edges y_Edges_joins y_Edges_joins ∈ gw := gw_in 254 (by decide +kernel) rfl
theorem kl_Edges_44 : Cond.methodLink R_Edges 44 y_Rows_target ∈ gw := gw_in 353 (by decide +kernel) rfl
theorem kc_Edges_areAllTakenToEdges : Cond.code y_Edges_areAllTakenToEdges b_Edges_areAllTakenToEdges 4 (some .boolean) ∈ gw := gw_in 351 (by decide +kernel) rfl
theorem kl_Edges_36 : Cond.methodLink R_Edges 36 y_Edges_areAllTakenToEdges ∈ gw := gw_in 348 (by decide +kernel) rfl
theorem kn_Edges_areAllTakenToEdges : Cond.instanceMethod y_Edges_areAllTakenToEdges ∈ gw := gw_in 350 (by decide +kernel) rfl
theorem ke_Edges_areAllTakenToEdges : Cond.selects R_Edges y_Edges_areAllTakenToEdges y_Edges_areAllTakenToEdges ∈ gw := gw_in 7 (by decide +kernel) rfl
theorem kl_Edges_53 : Cond.methodLink R_Edges 53 y_Plans_colourAt ∈ gw := gw_in 378 (by decide +kernel) rfl
theorem kc_Edges_isLikeALesserNeighbour : Cond.code y_Edges_isLikeALesserNeighbour b_Edges_isLikeALesserNeighbour 5 (some .boolean) ∈ gw := gw_in 377 (by decide +kernel) rfl
theorem kl_Edges_50 : Cond.methodLink R_Edges 50 y_Edges_isLikeALesserNeighbour ∈ gw := gw_in 374 (by decide +kernel) rfl
theorem kn_Edges_isLikeALesserNeighbour : Cond.instanceMethod y_Edges_isLikeALesserNeighbour ∈ gw := gw_in 376 (by decide +kernel) rfl
theorem ke_Edges_isLikeALesserNeighbour : Cond.selects R_Edges y_Edges_isLikeALesserNeighbour y_Edges_isLikeALesserNeighbour ∈ gw := gw_in 9 (by decide +kernel) rfl
theorem kf_Group_21 : Cond.fieldLink R_Group 21 "SwapOrbits$Group" "points" "I" ∈ gw := gw_in 118 (by decide +kernel) rfl
theorem kf_Group_25 : Cond.fieldLink R_Group 25 "SwapOrbits$Group" "size" "I" ∈ gw := gw_in 119 (by decide +kernel) rfl
theorem kf_Group_15 : Cond.fieldLink R_Group 15 "SwapOrbits$Group" "rowByPlace" "[I" ∈ gw := gw_in 116 (by decide +kernel) rfl
theorem kl_Group_28 : Cond.methodLink R_Group 28 y_Arrays_fill ∈ gw := gw_in 282 (by decide +kernel) rfl
theorem kl_Group_34 : Cond.methodLink R_Group 34 y_Rows_identity ∈ gw := gw_in 283 (by decide +kernel) rfl
theorem kc_Rows_place : Cond.code y_Rows_place b_Rows_place 7 (some .int) ∈ gw := gw_in 292 (by decide +kernel) rfl
theorem kl_Group_57 : Cond.methodLink R_Group 57 y_Rows_place ∈ gw := gw_in 290 (by decide +kernel) rfl
theorem ks_Rows_place : Cond.static y_Rows_place ∈ gw := gw_in 291 (by decide +kernel) rfl
theorem kc_Group_isCell : Cond.code y_Group_isCell b_Group_isCell 1 (some .boolean) ∈ gw := gw_in 296 (by decide +kernel) rfl
theorem ki_Group : Cond.initialized R_Group ∈ gw := gw_in 40 (by decide +kernel) rfl
theorem kl_Group_61 : Cond.methodLink R_Group 61 y_Group_isCell ∈ gw := gw_in 294 (by decide +kernel) rfl
theorem ks_Group_isCell : Cond.static y_Group_isCell ∈ gw := gw_in 295 (by decide +kernel) rfl
theorem kf_Group_9 : Cond.fieldLink R_Group 9 "SwapOrbits$Group" "rows" "[I" ∈ gw := gw_in 115 (by decide +kernel) rfl
theorem kc_Group_find : Cond.code y_Group_find b_Group_find 3 none ∈ gw := gw_in 289 (by decide +kernel) rfl
theorem kl_Group_40 : Cond.methodLink R_Group 40 y_Group_find ∈ gw := gw_in 286 (by decide +kernel) rfl
theorem kn_Group_find : Cond.instanceMethod y_Group_find ∈ gw := gw_in 288 (by decide +kernel) rfl
theorem ke_Group_find : Cond.selects R_Group y_Group_find y_Group_find ∈ gw := gw_in 5 (by decide +kernel) rfl
theorem kf_Group_18 : Cond.fieldLink R_Group 18 "SwapOrbits$Group" "numberByPlace" "[I" ∈ gw := gw_in 117 (by decide +kernel) rfl
theorem kc_Group_putInOrder : Cond.code y_Group_putInOrder b_Group_putInOrder 3 none ∈ gw := gw_in 303 (by decide +kernel) rfl
theorem kl_Group_54 : Cond.methodLink R_Group 54 y_Group_putInOrder ∈ gw := gw_in 300 (by decide +kernel) rfl
theorem kn_Group_putInOrder : Cond.instanceMethod y_Group_putInOrder ∈ gw := gw_in 302 (by decide +kernel) rfl
theorem ke_Group_putInOrder : Cond.selects R_Group y_Group_putInOrder y_Group_putInOrder ∈ gw := gw_in 6 (by decide +kernel) rfl
theorem kf_Group_44 : Cond.fieldLinkNest R_Group 44 "SwapOrbits$Moves" "count" "I" "SwapOrbits" ∈ lw_tbl := tb_in 66 (by decide +kernel)
theorem kf_Group_49 : Cond.fieldLinkNest R_Group 49 "SwapOrbits$Moves" "rows" "[I" "SwapOrbits" ∈ lw_tbl := tb_in 62 (by decide +kernel)
theorem kl_Group_50 : Cond.methodLink R_Group 50 y_Rows_chain ∈ gw := gw_in 297 (by decide +kernel) rfl
theorem kc_Rows_countCycles : Cond.code y_Rows_countCycles b_Rows_countCycles 5 (some .int) ∈ gw := gw_in 310 (by decide +kernel) rfl
theorem kl_Group_65 : Cond.methodLink R_Group 65 y_Rows_countCycles ∈ gw := gw_in 308 (by decide +kernel) rfl
theorem ks_Rows_countCycles : Cond.static y_Rows_countCycles ∈ gw := gw_in 309 (by decide +kernel) rfl
theorem kl_Group_68 : Cond.methodLink R_Group 68 y_Rows_target ∈ gw := gw_in 387 (by decide +kernel) rfl
theorem kl_Group_71 : Cond.methodLink R_Group 71 Lib.Math.min.name ∈ gw := gw_in 388 (by decide +kernel) rfl
theorem ks_min : Cond.static Lib.Math.min.name ∈ gw := gw_in 389 (by decide +kernel) rfl
theorem ki_Math : Cond.initialized "java/lang/Math" ∈ gw := gw_in 46 (by decide +kernel) rfl
theorem kc_min : Cond.code Lib.Math.min.name Lib.Math.min.code 2 (some .int) ∈ gw := gw_in 390 (by decide +kernel) rfl
theorem kf_Table_24 : Cond.fieldLink R_Table 24 "SwapOrbits$OrbitTable" "count" "I" ∈ gw := gw_in 143 (by decide +kernel) rfl
theorem kf_Table_9 : Cond.fieldLink R_Table 9 "SwapOrbits$OrbitTable" "ranks" "[I" ∈ gw := gw_in 138 (by decide +kernel) rfl
theorem kl_Table_28 : Cond.methodLink R_Table 28 y_Arrays_fill ∈ gw := gw_in 412 (by decide +kernel) rfl
theorem kf_Table_34 : Cond.fieldLinkNest R_Table 34 "SwapOrbits$Plans" "count" "I" "SwapOrbits" ∈ lw_tbl := tb_in 97 (by decide +kernel)
theorem kc_Table_isCell : Cond.code y_Table_isCell b_Table_isCell 1 (some .boolean) ∈ gw := gw_in 415 (by decide +kernel) rfl
theorem ki_Table : Cond.initialized R_Table ∈ gw := gw_in 41 (by decide +kernel) rfl
theorem kl_Table_37 : Cond.methodLink R_Table 37 y_Table_isCell ∈ gw := gw_in 413 (by decide +kernel) rfl
theorem ks_Table_isCell : Cond.static y_Table_isCell ∈ gw := gw_in 414 (by decide +kernel) rfl
theorem kf_Table_15 : Cond.fieldLink R_Table 15 "SwapOrbits$OrbitTable" "heads" "[I" ∈ gw := gw_in 139 (by decide +kernel) rfl
theorem kf_Table_18 : Cond.fieldLink R_Table 18 "SwapOrbits$OrbitTable" "sizes" "[I" ∈ gw := gw_in 140 (by decide +kernel) rfl
theorem kf_Table_45 : Cond.fieldLink R_Table 45 "SwapOrbits$OrbitTable" "foundCount" "I" ∈ gw := gw_in 142 (by decide +kernel) rfl
theorem kf_Table_21 : Cond.fieldLink R_Table 21 "SwapOrbits$OrbitTable" "found" "[I" ∈ gw := gw_in 141 (by decide +kernel) rfl
theorem kc_Table_find : Cond.code y_Table_find b_Table_find 2 none ∈ gw := gw_in 423 (by decide +kernel) rfl
theorem kl_Table_48 : Cond.methodLink R_Table 48 y_Table_find ∈ gw := gw_in 420 (by decide +kernel) rfl
theorem kn_Table_find : Cond.instanceMethod y_Table_find ∈ gw := gw_in 422 (by decide +kernel) rfl
theorem ke_Table_find : Cond.selects R_Table y_Table_find y_Table_find ∈ gw := gw_in 12 (by decide +kernel) rfl
theorem kc_Plans_spread : Cond.code y_Plans_spread b_Plans_spread 5 (some .int) ∈ gw := gw_in 361 (by decide +kernel) rfl
theorem kl_Table_52 : Cond.methodLink R_Table 52 y_Plans_spread ∈ gw := gw_in 424 (by decide +kernel) rfl
theorem kn_Plans_spread : Cond.instanceMethod y_Plans_spread ∈ gw := gw_in 359 (by decide +kernel) rfl
theorem ke_Plans_spread : Cond.selects R_Plans y_Plans_spread y_Plans_spread ∈ gw := gw_in 360 (by decide +kernel) rfl
theorem kf_Table_56 : Cond.fieldLinkNest R_Table 56 "SwapOrbits$Moves" "count" "I" "SwapOrbits" ∈ lw_tbl := tb_in 68 (by decide +kernel)
theorem kf_Table_59 : Cond.fieldLinkNest R_Table 59 "SwapOrbits$Moves" "rows" "[I" "SwapOrbits" ∈ lw_tbl := tb_in 63 (by decide +kernel)
theorem kc_Plans_moved : Cond.code y_Plans_moved b_Plans_moved 5 (some .int) ∈ gw := gw_in 428 (by decide +kernel) rfl
theorem kl_Table_62 : Cond.methodLink R_Table 62 y_Plans_moved ∈ gw := gw_in 425 (by decide +kernel) rfl
theorem kn_Plans_moved : Cond.instanceMethod y_Plans_moved ∈ gw := gw_in 426 (by decide +kernel) rfl
theorem ke_Plans_moved : Cond.selects R_Plans y_Plans_moved y_Plans_moved ∈ gw := gw_in 427 (by decide +kernel) rfl
theorem kc_Table_flood : Cond.code y_Table_flood b_Table_flood 7 (some .int) ∈ gw := gw_in 419 (by decide +kernel) rfl
theorem kl_Table_41 : Cond.methodLink R_Table 41 y_Table_flood ∈ gw := gw_in 416 (by decide +kernel) rfl
theorem kn_Table_flood : Cond.instanceMethod y_Table_flood ∈ gw := gw_in 418 (by decide +kernel) rfl
theorem ke_Table_flood : Cond.selects R_Table y_Table_flood y_Table_flood ∈ gw := gw_in 11 (by decide +kernel) rfl
theorem kf_SO_26 : Cond.fieldLink R_SO 26 "SwapOrbits" "plans" "LSwapOrbits$Plans;" ∈ gw := gw_in 187 (by decide +kernel) rfl
theorem kc_Plans_shape : Cond.code y_Plans_shape b_Plans_shape 4 none ∈ gw := gw_in 165 (by decide +kernel) rfl
theorem kl_SO_179 : Cond.methodLink R_SO 179 y_Plans_shape ∈ gw := gw_in 162 (by decide +kernel) rfl
theorem kn_Plans_shape : Cond.instanceMethod y_Plans_shape ∈ gw := gw_in 163 (by decide +kernel) rfl
theorem ke_Plans_shape : Cond.selects R_Plans y_Plans_shape y_Plans_shape ∈ gw := gw_in 164 (by decide +kernel) rfl
theorem kf_SO_10 : Cond.fieldLink R_SO 10 "SwapOrbits" "moves" "LSwapOrbits$Moves;" ∈ gw := gw_in 185 (by decide +kernel) rfl
theorem kc_Moves_clear : Cond.code y_Moves_clear b_Moves_clear 1 none ∈ gw := gw_in 172 (by decide +kernel) rfl
theorem ki_Moves : Cond.initialized R_Moves ∈ gw := gw_in 37 (by decide +kernel) rfl
theorem kl_SO_182 : Cond.methodLink R_SO 182 y_Moves_clear ∈ gw := gw_in 169 (by decide +kernel) rfl
theorem kn_Moves_clear : Cond.instanceMethod y_Moves_clear ∈ gw := gw_in 170 (by decide +kernel) rfl
theorem ke_Moves_clear : Cond.selects R_Moves y_Moves_clear y_Moves_clear ∈ gw := gw_in 171 (by decide +kernel) rfl
theorem kf_SO_19 : Cond.fieldLink R_SO 19 "SwapOrbits" "edges" "LSwapOrbits$Edges;" ∈ gw := gw_in 186 (by decide +kernel) rfl
theorem kc_Edges_clear : Cond.code y_Edges_clear b_Edges_clear 1 none ∈ gw := gw_in 176 (by decide +kernel) rfl
theorem kl_SO_185 : Cond.methodLink R_SO 185 y_Edges_clear ∈ gw := gw_in 173 (by decide +kernel) rfl
theorem kn_Edges_clear : Cond.instanceMethod y_Edges_clear ∈ gw := gw_in 174 (by decide +kernel) rfl
theorem ke_Edges_clear : Cond.selects R_Edges y_Edges_clear y_Edges_clear ∈ gw := gw_in 175 (by decide +kernel) rfl
theorem kf_SO_30 : Cond.fieldLink R_SO 30 "SwapOrbits" "weights" "[I" ∈ gw := gw_in 188 (by decide +kernel) rfl
theorem kl_SO_186 : Cond.methodLink R_SO 186 y_Arrays_fill ∈ gw := gw_in 180 (by decide +kernel) rfl
theorem kf_SO_192 : Cond.fieldLink R_SO 192 "SwapOrbits" "groupKnown" "Z" ∈ gw := gw_in 191 (by decide +kernel) rfl
theorem kf_SO_196 : Cond.fieldLink R_SO 196 "SwapOrbits" "tableKnown" "Z" ∈ gw := gw_in 192 (by decide +kernel) rfl
theorem kc_SO_forgetGroup : Cond.code y_SO_forgetGroup b_SO_forgetGroup 1 none ∈ gw := gw_in 184 (by decide +kernel) rfl
theorem ki_SO : Cond.initialized R_SO ∈ gw := gw_in 36 (by decide +kernel) rfl
theorem kl_SO_63 : Cond.methodLink R_SO 63 y_SO_forgetGroup ∈ gw := gw_in 181 (by decide +kernel) rfl
theorem kn_SO_forgetGroup : Cond.instanceMethod y_SO_forgetGroup ∈ gw := gw_in 183 (by decide +kernel) rfl
theorem ke_SO_forgetGroup : Cond.selects R_SO y_SO_forgetGroup y_SO_forgetGroup ∈ gw := gw_in 1 (by decide +kernel) rfl
theorem kc_SO_begin : Cond.code y_SO_begin b_SO_begin 3 none ∈ gw := gw_in 161 (by decide +kernel) rfl
theorem kl_SO_48 : Cond.methodLink R_SO 48 y_SO_begin ∈ gw := gw_in 158 (by decide +kernel) rfl
theorem kn_SO_begin : Cond.instanceMethod y_SO_begin ∈ gw := gw_in 160 (by decide +kernel) rfl
theorem ke_SO_begin : Cond.selects R_SO y_SO_begin y_SO_begin ∈ gw := gw_in 0 (by decide +kernel) rfl
theorem kf_SO_52 : Cond.fieldLinkNest R_SO 52 "SwapOrbits$Plans" "count" "I" "SwapOrbits" ∈ lw_tbl := tb_in 99 (by decide +kernel)
theorem kf_SO_84 : Cond.fieldLinkNest R_SO 84 "SwapOrbits$Plans" "points" "I" "SwapOrbits" ∈ lw_tbl := tb_in 94 (by decide +kernel)
theorem kc_Rows_isPermutation : Cond.code y_Rows_isPermutation b_Rows_isPermutation 4 (some .boolean) ∈ gw := gw_in 224 (by decide +kernel) rfl
theorem kl_SO_207 : Cond.methodLink R_SO 207 y_Rows_isPermutation ∈ gw := gw_in 222 (by decide +kernel) rfl
theorem ks_Rows_isPermutation : Cond.static y_Rows_isPermutation ∈ gw := gw_in 223 (by decide +kernel) rfl
theorem kc_SO_isRow : Cond.code y_SO_isRow b_SO_isRow 2 (some .boolean) ∈ gw := gw_in 221 (by decide +kernel) rfl
theorem kl_SO_56 : Cond.methodLink R_SO 56 y_SO_isRow ∈ gw := gw_in 218 (by decide +kernel) rfl
theorem kn_SO_isRow : Cond.instanceMethod y_SO_isRow ∈ gw := gw_in 220 (by decide +kernel) rfl
theorem ke_SO_isRow : Cond.selects R_SO y_SO_isRow y_SO_isRow ∈ gw := gw_in 2 (by decide +kernel) rfl
theorem kc_Moves_push : Cond.code y_Moves_push b_Moves_push 2 (some .boolean) ∈ gw := gw_in 231 (by decide +kernel) rfl
theorem kl_SO_60 : Cond.methodLink R_SO 60 y_Moves_push ∈ gw := gw_in 228 (by decide +kernel) rfl
theorem kn_Moves_push : Cond.instanceMethod y_Moves_push ∈ gw := gw_in 229 (by decide +kernel) rfl
theorem ke_Moves_push : Cond.selects R_Moves y_Moves_push y_Moves_push ∈ gw := gw_in 230 (by decide +kernel) rfl
theorem kf_SO_66 : Cond.fieldLinkNest R_SO 66 "SwapOrbits$Moves" "count" "I" "SwapOrbits" ∈ lw_tbl := tb_in 67 (by decide +kernel)
theorem kc_Moves_pop : Cond.code y_Moves_pop b_Moves_pop 1 (some .boolean) ∈ gw := gw_in 239 (by decide +kernel) rfl
theorem kl_SO_67 : Cond.methodLink R_SO 67 y_Moves_pop ∈ gw := gw_in 236 (by decide +kernel) rfl
theorem kn_Moves_pop : Cond.instanceMethod y_Moves_pop ∈ gw := gw_in 237 (by decide +kernel) rfl
theorem ke_Moves_pop : Cond.selects R_Moves y_Moves_pop y_Moves_pop ∈ gw := gw_in 238 (by decide +kernel) rfl
theorem kc_SO_isPoint : Cond.code y_SO_isPoint b_SO_isPoint 2 (some .boolean) ∈ gw := gw_in 247 (by decide +kernel) rfl
theorem kl_SO_71 : Cond.methodLink R_SO 71 y_SO_isPoint ∈ gw := gw_in 244 (by decide +kernel) rfl
theorem kn_SO_isPoint : Cond.instanceMethod y_SO_isPoint ∈ gw := gw_in 246 (by decide +kernel) rfl
theorem ke_SO_isPoint : Cond.selects R_SO y_SO_isPoint y_SO_isPoint ∈ gw := gw_in 3 (by decide +kernel) rfl
theorem kc_Edges_flip : Cond.code y_Edges_flip b_Edges_flip 3 none ∈ gw := gw_in 251 (by decide +kernel) rfl
theorem kl_SO_74 : Cond.methodLink R_SO 74 y_Edges_flip ∈ gw := gw_in 248 (by decide +kernel) rfl
theorem kn_Edges_flip : Cond.instanceMethod y_Edges_flip ∈ gw := gw_in 249 (by decide +kernel) rfl
theorem ke_Edges_flip : Cond.selects R_Edges y_Edges_flip y_Edges_flip ∈ gw := gw_in 250 (by decide +kernel) rfl
theorem kl_SO_77 : Cond.methodLink R_SO 77 y_Edges_joins ∈ gw := gw_in 252 (by decide +kernel) rfl
theorem kf_SO_81 : Cond.fieldLinkNest R_SO 81 "SwapOrbits$Plans" "colours" "I" "SwapOrbits" ∈ lw_tbl := tb_in 96 (by decide +kernel)
theorem kc_Edges_total : Cond.code y_Edges_total b_Edges_total 3 (some .int) ∈ gw := gw_in 267 (by decide +kernel) rfl
theorem kl_SO_87 : Cond.methodLink R_SO 87 y_Edges_total ∈ gw := gw_in 264 (by decide +kernel) rfl
theorem kn_Edges_total : Cond.instanceMethod y_Edges_total ∈ gw := gw_in 265 (by decide +kernel) rfl
theorem ke_Edges_total : Cond.selects R_Edges y_Edges_total y_Edges_total ∈ gw := gw_in 266 (by decide +kernel) rfl
theorem kf_SO_37 : Cond.fieldLink R_SO 37 "SwapOrbits" "group" "LSwapOrbits$Group;" ∈ gw := gw_in 189 (by decide +kernel) rfl
theorem kc_Group_close : Cond.code y_Group_close b_Group_close 5 none ∈ gw := gw_in 281 (by decide +kernel) rfl
theorem kl_SO_199 : Cond.methodLink R_SO 199 y_Group_close ∈ gw := gw_in 278 (by decide +kernel) rfl
theorem kn_Group_close : Cond.instanceMethod y_Group_close ∈ gw := gw_in 279 (by decide +kernel) rfl
theorem ke_Group_close : Cond.selects R_Group y_Group_close y_Group_close ∈ gw := gw_in 280 (by decide +kernel) rfl
theorem kc_SO_knownGroup : Cond.code y_SO_knownGroup b_SO_knownGroup 1 (some (.object "SwapOrbits$Group")) ∈ gw := gw_in 277 (by decide +kernel) rfl
theorem kl_SO_91 : Cond.methodLink R_SO 91 y_SO_knownGroup ∈ gw := gw_in 274 (by decide +kernel) rfl
theorem kn_SO_knownGroup : Cond.instanceMethod y_SO_knownGroup ∈ gw := gw_in 276 (by decide +kernel) rfl
theorem ke_SO_knownGroup : Cond.selects R_SO y_SO_knownGroup y_SO_knownGroup ∈ gw := gw_in 4 (by decide +kernel) rfl
theorem kf_SO_95 : Cond.fieldLinkNest R_SO 95 "SwapOrbits$Group" "size" "I" "SwapOrbits" ∈ lw_tbl := tb_in 120 (by decide +kernel)
theorem kc_Group_allCycles : Cond.code y_Group_allCycles b_Group_allCycles 3 (some .int) ∈ gw := gw_in 307 (by decide +kernel) rfl
theorem kl_SO_98 : Cond.methodLink R_SO 98 y_Group_allCycles ∈ gw := gw_in 304 (by decide +kernel) rfl
theorem kn_Group_allCycles : Cond.instanceMethod y_Group_allCycles ∈ gw := gw_in 305 (by decide +kernel) rfl
theorem ke_Group_allCycles : Cond.selects R_Group y_Group_allCycles y_Group_allCycles ∈ gw := gw_in 306 (by decide +kernel) rfl
theorem kc_Group_numberOf : Cond.code y_Group_numberOf b_Group_numberOf 3 (some .int) ∈ gw := gw_in 321 (by decide +kernel) rfl
theorem kl_SO_101 : Cond.methodLink R_SO 101 y_Group_numberOf ∈ gw := gw_in 318 (by decide +kernel) rfl
theorem kn_Group_numberOf : Cond.instanceMethod y_Group_numberOf ∈ gw := gw_in 319 (by decide +kernel) rfl
theorem ke_Group_numberOf : Cond.selects R_Group y_Group_numberOf y_Group_numberOf ∈ gw := gw_in 320 (by decide +kernel) rfl
theorem kc_Group_rowAt : Cond.code y_Group_rowAt b_Group_rowAt 2 (some .int) ∈ gw := gw_in 329 (by decide +kernel) rfl
theorem kl_SO_105 : Cond.methodLink R_SO 105 y_Group_rowAt ∈ gw := gw_in 326 (by decide +kernel) rfl
theorem kn_Group_rowAt : Cond.instanceMethod y_Group_rowAt ∈ gw := gw_in 327 (by decide +kernel) rfl
theorem ke_Group_rowAt : Cond.selects R_Group y_Group_rowAt y_Group_rowAt ∈ gw := gw_in 328 (by decide +kernel) rfl
theorem kl_SO_108 : Cond.methodLink R_SO 108 y_Rows_countCycles ∈ gw := gw_in 334 (by decide +kernel) rfl
theorem kl_SO_114 : Cond.methodLink R_SO 114 y_Plans_power ∈ gw := gw_in 339 (by decide +kernel) rfl
theorem kc_Edges_areKeptBy : Cond.code y_Edges_areKeptBy b_Edges_areKeptBy 3 (some .boolean) ∈ gw := gw_in 347 (by decide +kernel) rfl
theorem kl_SO_117 : Cond.methodLink R_SO 117 y_Edges_areKeptBy ∈ gw := gw_in 344 (by decide +kernel) rfl
theorem kn_Edges_areKeptBy : Cond.instanceMethod y_Edges_areKeptBy ∈ gw := gw_in 345 (by decide +kernel) rfl
theorem ke_Edges_areKeptBy : Cond.selects R_Edges y_Edges_areKeptBy y_Edges_areKeptBy ∈ gw := gw_in 346 (by decide +kernel) rfl
theorem kl_SO_157 : Cond.methodLink R_SO 157 y_Plans_spread ∈ gw := gw_in 358 (by decide +kernel) rfl
theorem kc_Plans_isKept : Cond.code y_Plans_isKept b_Plans_isKept 4 (some .boolean) ∈ gw := gw_in 365 (by decide +kernel) rfl
theorem kl_SO_210 : Cond.methodLink R_SO 210 y_Plans_isKept ∈ gw := gw_in 362 (by decide +kernel) rfl
theorem kn_Plans_isKept : Cond.instanceMethod y_Plans_isKept ∈ gw := gw_in 363 (by decide +kernel) rfl
theorem ke_Plans_isKept : Cond.selects R_Plans y_Plans_isKept y_Plans_isKept ∈ gw := gw_in 364 (by decide +kernel) rfl
theorem kc_Edges_allow : Cond.code y_Edges_allow b_Edges_allow 3 (some .boolean) ∈ gw := gw_in 373 (by decide +kernel) rfl
theorem kl_SO_176 : Cond.methodLink R_SO 176 y_Edges_allow ∈ gw := gw_in 370 (by decide +kernel) rfl
theorem kn_Edges_allow : Cond.instanceMethod y_Edges_allow ∈ gw := gw_in 371 (by decide +kernel) rfl
theorem ke_Edges_allow : Cond.selects R_Edges y_Edges_allow y_Edges_allow ∈ gw := gw_in 372 (by decide +kernel) rfl
theorem kc_SO_countKeptAndFit : Cond.code y_SO_countKeptAndFit b_SO_countKeptAndFit 5 (some .int) ∈ gw := gw_in 357 (by decide +kernel) rfl
theorem kl_SO_121 : Cond.methodLink R_SO 121 y_SO_countKeptAndFit ∈ gw := gw_in 354 (by decide +kernel) rfl
theorem kn_SO_countKeptAndFit : Cond.instanceMethod y_SO_countKeptAndFit ∈ gw := gw_in 356 (by decide +kernel) rfl
theorem ke_SO_countKeptAndFit : Cond.selects R_SO y_SO_countKeptAndFit y_SO_countKeptAndFit ∈ gw := gw_in 8 (by decide +kernel) rfl
theorem kc_Group_leastTarget : Cond.code y_Group_leastTarget b_Group_leastTarget 4 (some .int) ∈ gw := gw_in 386 (by decide +kernel) rfl
theorem kl_SO_124 : Cond.methodLink R_SO 124 y_Group_leastTarget ∈ gw := gw_in 383 (by decide +kernel) rfl
theorem kn_Group_leastTarget : Cond.instanceMethod y_Group_leastTarget ∈ gw := gw_in 384 (by decide +kernel) rfl
theorem ke_Group_leastTarget : Cond.selects R_Group y_Group_leastTarget y_Group_leastTarget ∈ gw := gw_in 385 (by decide +kernel) rfl
theorem kc_Rows_period : Cond.code y_Rows_period b_Rows_period 5 (some .int) ∈ gw := gw_in 397 (by decide +kernel) rfl
theorem kl_SO_127 : Cond.methodLink R_SO 127 y_Rows_period ∈ gw := gw_in 395 (by decide +kernel) rfl
theorem ks_Rows_period : Cond.static y_Rows_period ∈ gw := gw_in 396 (by decide +kernel) rfl
theorem kf_SO_44 : Cond.fieldLink R_SO 44 "SwapOrbits" "table" "LSwapOrbits$OrbitTable;" ∈ gw := gw_in 190 (by decide +kernel) rfl
theorem kc_Table_build : Cond.code y_Table_build b_Table_build 4 none ∈ gw := gw_in 411 (by decide +kernel) rfl
theorem kl_SO_203 : Cond.methodLink R_SO 203 y_Table_build ∈ gw := gw_in 408 (by decide +kernel) rfl
theorem kn_Table_build : Cond.instanceMethod y_Table_build ∈ gw := gw_in 409 (by decide +kernel) rfl
theorem ke_Table_build : Cond.selects R_Table y_Table_build y_Table_build ∈ gw := gw_in 410 (by decide +kernel) rfl
theorem kc_SO_knownTable : Cond.code y_SO_knownTable b_SO_knownTable 1 (some (.object "SwapOrbits$OrbitTable")) ∈ gw := gw_in 407 (by decide +kernel) rfl
theorem kl_SO_130 : Cond.methodLink R_SO 130 y_SO_knownTable ∈ gw := gw_in 404 (by decide +kernel) rfl
theorem kn_SO_knownTable : Cond.instanceMethod y_SO_knownTable ∈ gw := gw_in 406 (by decide +kernel) rfl
theorem ke_SO_knownTable : Cond.selects R_SO y_SO_knownTable y_SO_knownTable ∈ gw := gw_in 10 (by decide +kernel) rfl
theorem kf_SO_134 : Cond.fieldLinkNest R_SO 134 "SwapOrbits$OrbitTable" "count" "I" "SwapOrbits" ∈ lw_tbl := tb_in 144 (by decide +kernel)
theorem kc_SO_isShare : Cond.code y_SO_isShare b_SO_isShare 2 (some .boolean) ∈ gw := gw_in 436 (by decide +kernel) rfl
theorem kl_SO_135 : Cond.methodLink R_SO 135 y_SO_isShare ∈ gw := gw_in 433 (by decide +kernel) rfl
theorem kn_SO_isShare : Cond.instanceMethod y_SO_isShare ∈ gw := gw_in 435 (by decide +kernel) rfl
theorem ke_SO_isShare : Cond.selects R_SO y_SO_isShare y_SO_isShare ∈ gw := gw_in 13 (by decide +kernel) rfl
theorem kc_SO_mayHave : Cond.code y_SO_mayHave b_SO_mayHave 3 (some .boolean) ∈ gw := gw_in 440 (by decide +kernel) rfl
theorem kl_SO_138 : Cond.methodLink R_SO 138 y_SO_mayHave ∈ gw := gw_in 437 (by decide +kernel) rfl
theorem kn_SO_mayHave : Cond.instanceMethod y_SO_mayHave ∈ gw := gw_in 439 (by decide +kernel) rfl
theorem ke_SO_mayHave : Cond.selects R_SO y_SO_mayHave y_SO_mayHave ∈ gw := gw_in 14 (by decide +kernel) rfl
theorem kc_Plans_tallyOf : Cond.code y_Plans_tallyOf b_Plans_tallyOf 4 (some .int) ∈ gw := gw_in 443 (by decide +kernel) rfl
theorem kl_SO_141 : Cond.methodLink R_SO 141 y_Plans_tallyOf ∈ gw := gw_in 441 (by decide +kernel) rfl
theorem ks_Plans_tallyOf : Cond.static y_Plans_tallyOf ∈ gw := gw_in 442 (by decide +kernel) rfl
theorem kc_Table_headAt : Cond.code y_Table_headAt b_Table_headAt 2 (some .int) ∈ gw := gw_in 451 (by decide +kernel) rfl
theorem kl_SO_154 : Cond.methodLink R_SO 154 y_Table_headAt ∈ gw := gw_in 448 (by decide +kernel) rfl
theorem kn_Table_headAt : Cond.instanceMethod y_Table_headAt ∈ gw := gw_in 449 (by decide +kernel) rfl
theorem ke_Table_headAt : Cond.selects R_Table y_Table_headAt y_Table_headAt ∈ gw := gw_in 450 (by decide +kernel) rfl
theorem kc_Plans_tally : Cond.code y_Plans_tally b_Plans_tally 4 (some .int) ∈ gw := gw_in 455 (by decide +kernel) rfl
theorem kl_SO_213 : Cond.methodLink R_SO 213 y_Plans_tally ∈ gw := gw_in 452 (by decide +kernel) rfl
theorem kn_Plans_tally : Cond.instanceMethod y_Plans_tally ∈ gw := gw_in 453 (by decide +kernel) rfl
theorem ke_Plans_tally : Cond.selects R_Plans y_Plans_tally y_Plans_tally ∈ gw := gw_in 454 (by decide +kernel) rfl
theorem kc_SO_countHeadsOf : Cond.code y_SO_countHeadsOf b_SO_countHeadsOf 5 (some .int) ∈ gw := gw_in 447 (by decide +kernel) rfl
theorem kl_SO_145 : Cond.methodLink R_SO 145 y_SO_countHeadsOf ∈ gw := gw_in 444 (by decide +kernel) rfl
theorem kn_SO_countHeadsOf : Cond.instanceMethod y_SO_countHeadsOf ∈ gw := gw_in 446 (by decide +kernel) rfl
theorem ke_SO_countHeadsOf : Cond.selects R_SO y_SO_countHeadsOf y_SO_countHeadsOf ∈ gw := gw_in 15 (by decide +kernel) rfl
theorem kc_SO_countFitHeads : Cond.code y_SO_countFitHeads b_SO_countFitHeads 4 (some .int) ∈ gw := gw_in 463 (by decide +kernel) rfl
theorem kl_SO_148 : Cond.methodLink R_SO 148 y_SO_countFitHeads ∈ gw := gw_in 460 (by decide +kernel) rfl
theorem kn_SO_countFitHeads : Cond.instanceMethod y_SO_countFitHeads ∈ gw := gw_in 462 (by decide +kernel) rfl
theorem ke_SO_countFitHeads : Cond.selects R_SO y_SO_countFitHeads y_SO_countFitHeads ∈ gw := gw_in 16 (by decide +kernel) rfl
theorem kc_Table_countOfSize : Cond.code y_Table_countOfSize b_Table_countOfSize 4 (some .int) ∈ gw := gw_in 471 (by decide +kernel) rfl
theorem kl_SO_151 : Cond.methodLink R_SO 151 y_Table_countOfSize ∈ gw := gw_in 468 (by decide +kernel) rfl
theorem kn_Table_countOfSize : Cond.instanceMethod y_Table_countOfSize ∈ gw := gw_in 469 (by decide +kernel) rfl
theorem ke_Table_countOfSize : Cond.selects R_Table y_Table_countOfSize y_Table_countOfSize ∈ gw := gw_in 470 (by decide +kernel) rfl
theorem kc_Plans_product : Cond.code y_Plans_product b_Plans_product 7 (some .long) ∈ gw := gw_in 479 (by decide +kernel) rfl
theorem kl_SO_160 : Cond.methodLink R_SO 160 y_Plans_product ∈ gw := gw_in 476 (by decide +kernel) rfl
theorem kn_Plans_product : Cond.instanceMethod y_Plans_product ∈ gw := gw_in 477 (by decide +kernel) rfl
theorem ke_Plans_product : Cond.selects R_Plans y_Plans_product y_Plans_product ∈ gw := gw_in 478 (by decide +kernel) rfl
theorem kc_Plans_has : Cond.code y_Plans_has b_Plans_has 2 (some .boolean) ∈ gw := gw_in 487 (by decide +kernel) rfl
theorem kl_SO_164 : Cond.methodLink R_SO 164 y_Plans_has ∈ gw := gw_in 484 (by decide +kernel) rfl
theorem kn_Plans_has : Cond.instanceMethod y_Plans_has ∈ gw := gw_in 485 (by decide +kernel) rfl
theorem ke_Plans_has : Cond.selects R_Plans y_Plans_has y_Plans_has ∈ gw := gw_in 486 (by decide +kernel) rfl
theorem kc_Table_rankOf : Cond.code y_Table_rankOf b_Table_rankOf 2 (some .int) ∈ gw := gw_in 491 (by decide +kernel) rfl
theorem kl_SO_167 : Cond.methodLink R_SO 167 y_Table_rankOf ∈ gw := gw_in 488 (by decide +kernel) rfl
theorem kn_Table_rankOf : Cond.instanceMethod y_Table_rankOf ∈ gw := gw_in 489 (by decide +kernel) rfl
theorem ke_Table_rankOf : Cond.selects R_Table y_Table_rankOf y_Table_rankOf ∈ gw := gw_in 490 (by decide +kernel) rfl
theorem kc_Table_sizeAt : Cond.code y_Table_sizeAt b_Table_sizeAt 2 (some .int) ∈ gw := gw_in 499 (by decide +kernel) rfl
theorem kl_SO_170 : Cond.methodLink R_SO 170 y_Table_sizeAt ∈ gw := gw_in 496 (by decide +kernel) rfl
theorem kn_Table_sizeAt : Cond.instanceMethod y_Table_sizeAt ∈ gw := gw_in 497 (by decide +kernel) rfl
theorem ke_Table_sizeAt : Cond.selects R_Table y_Table_sizeAt y_Table_sizeAt ∈ gw := gw_in 498 (by decide +kernel) rfl
theorem kl_SO_173 : Cond.methodLink R_SO 173 y_Plans_moved ∈ gw := gw_in 512 (by decide +kernel) rfl
theorem kf_Mo_60 : Cond.fieldLink R_Mo 60 "SwapOrbitsModel" "n" "I" ∈ gw := gw_in 531 (by decide +kernel) rfl
theorem kf_Mo_64 : Cond.fieldLink R_Mo 64 "SwapOrbitsModel" "c" "I" ∈ gw := gw_in 532 (by decide +kernel) rfl
theorem kf_Mo_67 : Cond.fieldLink R_Mo 67 "SwapOrbitsModel" "plans" "I" ∈ gw := gw_in 533 (by decide +kernel) rfl
theorem kf_Mo_70 : Cond.fieldLink R_Mo 70 "SwapOrbitsModel" "moveMany" "I" ∈ gw := gw_in 534 (by decide +kernel) rfl
theorem kf_Mo_73 : Cond.fieldLink R_Mo 73 "SwapOrbitsModel" "hasGroup" "Z" ∈ gw := gw_in 540 (by decide +kernel) rfl
theorem kf_Mo_77 : Cond.fieldLink R_Mo 77 "SwapOrbitsModel" "hasOrbits" "Z" ∈ gw := gw_in 548 (by decide +kernel) rfl
theorem kf_Mo_17 : Cond.fieldLink R_Mo 17 "SwapOrbitsModel" "weights" "[I" ∈ gw := gw_in 537 (by decide +kernel) rfl
theorem kf_Mo_13 : Cond.fieldLink R_Mo 13 "SwapOrbitsModel" "edges" "[Z" ∈ gw := gw_in 536 (by decide +kernel) rfl
theorem kc_Mo_within : Cond.code y_Mo_within b_Mo_within 3 (some .boolean) ∈ gw := gw_in 608 (by decide +kernel) rfl
theorem ki_Mo : Cond.initialized R_Mo ∈ gw := gw_in 43 (by decide +kernel) rfl
theorem kl_Mo_80 : Cond.methodLink R_Mo 80 y_Mo_within ∈ gw := gw_in 606 (by decide +kernel) rfl
theorem ks_Mo_within : Cond.static y_Mo_within ∈ gw := gw_in 607 (by decide +kernel) rfl
theorem kc_Mo_begins : Cond.code y_Mo_begins b_Mo_begins 4 none ∈ gw := gw_in 530 (by decide +kernel) rfl
theorem kl_Mo_56 : Cond.methodLink R_Mo 56 y_Mo_begins ∈ gw := gw_in 527 (by decide +kernel) rfl
theorem kn_Mo_begins : Cond.instanceMethod y_Mo_begins ∈ gw := gw_in 529 (by decide +kernel) rfl
theorem ke_Mo_begins : Cond.selects R_Mo y_Mo_begins y_Mo_begins ∈ gw := gw_in 17 (by decide +kernel) rfl
theorem kf_Mo_20 : Cond.fieldLink R_Mo 20 "SwapOrbitsModel" "image" "[I" ∈ gw := gw_in 538 (by decide +kernel) rfl
theorem kf_Mo_23 : Cond.fieldLink R_Mo 23 "SwapOrbitsModel" "factorials" "[I" ∈ gw := gw_in 539 (by decide +kernel) rfl
theorem kc_Mo_factorial : Cond.code y_Mo_factorial b_Mo_factorial 2 (some .int) ∈ gw := gw_in 640 (by decide +kernel) rfl
theorem kl_Mo_84 : Cond.methodLink R_Mo 84 y_Mo_factorial ∈ gw := gw_in 637 (by decide +kernel) rfl
theorem kn_Mo_factorial : Cond.instanceMethod y_Mo_factorial ∈ gw := gw_in 639 (by decide +kernel) rfl
theorem ke_Mo_factorial : Cond.selects R_Mo y_Mo_factorial y_Mo_factorial ∈ gw := gw_in 20 (by decide +kernel) rfl
theorem kc_Mo_reads : Cond.code y_Mo_reads b_Mo_reads 5 (some .boolean) ∈ gw := gw_in 616 (by decide +kernel) rfl
theorem kl_Mo_88 : Cond.methodLink R_Mo 88 y_Mo_reads ∈ gw := gw_in 613 (by decide +kernel) rfl
theorem kn_Mo_reads : Cond.instanceMethod y_Mo_reads ∈ gw := gw_in 615 (by decide +kernel) rfl
theorem ke_Mo_reads : Cond.selects R_Mo y_Mo_reads y_Mo_reads ∈ gw := gw_in 18 (by decide +kernel) rfl
theorem kf_Mo_7 : Cond.fieldLink R_Mo 7 "SwapOrbitsModel" "moves" "[I" ∈ gw := gw_in 535 (by decide +kernel) rfl
theorem kf_Mo_35 : Cond.fieldLink R_Mo 35 "SwapOrbitsModel" "todo" "[I" ∈ gw := gw_in 545 (by decide +kernel) rfl
theorem kf_Mo_26 : Cond.fieldLink R_Mo 26 "SwapOrbitsModel" "isIn" "[Z" ∈ gw := gw_in 541 (by decide +kernel) rfl
theorem kf_Mo_100 : Cond.fieldLink R_Mo 100 "SwapOrbitsModel" "order" "I" ∈ gw := gw_in 542 (by decide +kernel) rfl
theorem kc_Mo_take : Cond.code y_Mo_take b_Mo_take 8 none ∈ gw := gw_in 648 (by decide +kernel) rfl
theorem kl_Mo_92 : Cond.methodLink R_Mo 92 y_Mo_take ∈ gw := gw_in 645 (by decide +kernel) rfl
theorem kn_Mo_take : Cond.instanceMethod y_Mo_take ∈ gw := gw_in 647 (by decide +kernel) rfl
theorem ke_Mo_take : Cond.selects R_Mo y_Mo_take y_Mo_take ∈ gw := gw_in 22 (by decide +kernel) rfl
theorem kf_Mo_29 : Cond.fieldLink R_Mo 29 "SwapOrbitsModel" "rows" "[I" ∈ gw := gw_in 543 (by decide +kernel) rfl
theorem kc_Mo_rowAtHand : Cond.code y_Mo_rowAtHand b_Mo_rowAtHand 3 (some .int) ∈ gw := gw_in 652 (by decide +kernel) rfl
theorem kl_Mo_103 : Cond.methodLink R_Mo 103 y_Mo_rowAtHand ∈ gw := gw_in 649 (by decide +kernel) rfl
theorem kn_Mo_rowAtHand : Cond.instanceMethod y_Mo_rowAtHand ∈ gw := gw_in 651 (by decide +kernel) rfl
theorem ke_Mo_rowAtHand : Cond.selects R_Mo y_Mo_rowAtHand y_Mo_rowAtHand ∈ gw := gw_in 23 (by decide +kernel) rfl
theorem kf_Mo_32 : Cond.fieldLink R_Mo 32 "SwapOrbitsModel" "numbers" "[I" ∈ gw := gw_in 544 (by decide +kernel) rfl
theorem kc_Mo_placeAtHand : Cond.code y_Mo_placeAtHand b_Mo_placeAtHand 5 (some .int) ∈ gw := gw_in 636 (by decide +kernel) rfl
theorem kl_Mo_96 : Cond.methodLink R_Mo 96 y_Mo_placeAtHand ∈ gw := gw_in 633 (by decide +kernel) rfl
theorem kn_Mo_placeAtHand : Cond.instanceMethod y_Mo_placeAtHand ∈ gw := gw_in 635 (by decide +kernel) rfl
theorem ke_Mo_placeAtHand : Cond.selects R_Mo y_Mo_placeAtHand y_Mo_placeAtHand ∈ gw := gw_in 19 (by decide +kernel) rfl
theorem kc_Mo_findGroup : Cond.code y_Mo_findGroup b_Mo_findGroup 5 none ∈ gw := gw_in 644 (by decide +kernel) rfl
theorem kl_Mo_106 : Cond.methodLink R_Mo 106 y_Mo_findGroup ∈ gw := gw_in 641 (by decide +kernel) rfl
theorem kn_Mo_findGroup : Cond.instanceMethod y_Mo_findGroup ∈ gw := gw_in 643 (by decide +kernel) rfl
theorem ke_Mo_findGroup : Cond.selects R_Mo y_Mo_findGroup y_Mo_findGroup ∈ gw := gw_in 21 (by decide +kernel) rfl
theorem kc_Mo_isNumber : Cond.code y_Mo_isNumber b_Mo_isNumber 2 (some .boolean) ∈ gw := gw_in 660 (by decide +kernel) rfl
theorem kl_Mo_109 : Cond.methodLink R_Mo 109 y_Mo_isNumber ∈ gw := gw_in 657 (by decide +kernel) rfl
theorem kn_Mo_isNumber : Cond.instanceMethod y_Mo_isNumber ∈ gw := gw_in 659 (by decide +kernel) rfl
theorem ke_Mo_isNumber : Cond.selects R_Mo y_Mo_isNumber y_Mo_isNumber ∈ gw := gw_in 24 (by decide +kernel) rfl
theorem kc_Mo_cyclesOf : Cond.code y_Mo_cyclesOf b_Mo_cyclesOf 7 (some .int) ∈ gw := gw_in 668 (by decide +kernel) rfl
theorem kl_Mo_112 : Cond.methodLink R_Mo 112 y_Mo_cyclesOf ∈ gw := gw_in 665 (by decide +kernel) rfl
theorem kn_Mo_cyclesOf : Cond.instanceMethod y_Mo_cyclesOf ∈ gw := gw_in 667 (by decide +kernel) rfl
theorem ke_Mo_cyclesOf : Cond.selects R_Mo y_Mo_cyclesOf y_Mo_cyclesOf ∈ gw := gw_in 25 (by decide +kernel) rfl
theorem kf_Mo_38 : Cond.fieldLink R_Mo 38 "SwapOrbitsModel" "colour" "[I" ∈ gw := gw_in 546 (by decide +kernel) rfl
theorem kf_Mo_41 : Cond.fieldLink R_Mo 41 "SwapOrbitsModel" "turned" "[I" ∈ gw := gw_in 547 (by decide +kernel) rfl
theorem kc_Mo_looksOn : Cond.code y_Mo_looksOn b_Mo_looksOn 2 none ∈ gw := gw_in 696 (by decide +kernel) rfl
theorem kl_Mo_118 : Cond.methodLink R_Mo 118 y_Mo_looksOn ∈ gw := gw_in 693 (by decide +kernel) rfl
theorem kn_Mo_looksOn : Cond.instanceMethod y_Mo_looksOn ∈ gw := gw_in 695 (by decide +kernel) rfl
theorem ke_Mo_looksOn : Cond.selects R_Mo y_Mo_looksOn y_Mo_looksOn ∈ gw := gw_in 28 (by decide +kernel) rfl
theorem kc_Mo_isFitNow : Cond.code y_Mo_isFitNow b_Mo_isFitNow 4 (some .boolean) ∈ gw := gw_in 700 (by decide +kernel) rfl
theorem kl_Mo_121 : Cond.methodLink R_Mo 121 y_Mo_isFitNow ∈ gw := gw_in 697 (by decide +kernel) rfl
theorem kn_Mo_isFitNow : Cond.instanceMethod y_Mo_isFitNow ∈ gw := gw_in 699 (by decide +kernel) rfl
theorem ke_Mo_isFitNow : Cond.selects R_Mo y_Mo_isFitNow y_Mo_isFitNow ∈ gw := gw_in 29 (by decide +kernel) rfl
theorem kc_Mo_look : Cond.code y_Mo_look b_Mo_look 4 none ∈ gw := gw_in 692 (by decide +kernel) rfl
theorem kl_Mo_115 : Cond.methodLink R_Mo 115 y_Mo_look ∈ gw := gw_in 689 (by decide +kernel) rfl
theorem kn_Mo_look : Cond.instanceMethod y_Mo_look ∈ gw := gw_in 691 (by decide +kernel) rfl
theorem ke_Mo_look : Cond.selects R_Mo y_Mo_look y_Mo_look ∈ gw := gw_in 27 (by decide +kernel) rfl
theorem kc_Mo_keptBy : Cond.code y_Mo_keptBy b_Mo_keptBy 8 (some .int) ∈ gw := gw_in 688 (by decide +kernel) rfl
theorem kl_Mo_125 : Cond.methodLink R_Mo 125 y_Mo_keptBy ∈ gw := gw_in 685 (by decide +kernel) rfl
theorem kn_Mo_keptBy : Cond.instanceMethod y_Mo_keptBy ∈ gw := gw_in 687 (by decide +kernel) rfl
theorem ke_Mo_keptBy : Cond.selects R_Mo y_Mo_keptBy y_Mo_keptBy ∈ gw := gw_in 26 (by decide +kernel) rfl
theorem kc_Mo_areKept : Cond.code y_Mo_areKept b_Mo_areKept 7 (some .boolean) ∈ gw := gw_in 708 (by decide +kernel) rfl
theorem kl_Mo_129 : Cond.methodLink R_Mo 129 y_Mo_areKept ∈ gw := gw_in 705 (by decide +kernel) rfl
theorem kn_Mo_areKept : Cond.instanceMethod y_Mo_areKept ∈ gw := gw_in 707 (by decide +kernel) rfl
theorem ke_Mo_areKept : Cond.selects R_Mo y_Mo_areKept y_Mo_areKept ∈ gw := gw_in 30 (by decide +kernel) rfl
theorem kf_Mo_132 : Cond.fieldLink R_Mo 132 "SwapOrbitsModel" "headMany" "I" ∈ gw := gw_in 551 (by decide +kernel) rfl
theorem kf_Mo_44 : Cond.fieldLink R_Mo 44 "SwapOrbitsModel" "heads" "[I" ∈ gw := gw_in 549 (by decide +kernel) rfl
theorem kf_Mo_53 : Cond.fieldLink R_Mo 53 "SwapOrbitsModel" "ranks" "[I" ∈ gw := gw_in 553 (by decide +kernel) rfl
theorem kf_Mo_50 : Cond.fieldLink R_Mo 50 "SwapOrbitsModel" "headList" "[I" ∈ gw := gw_in 552 (by decide +kernel) rfl
theorem kf_Mo_47 : Cond.fieldLink R_Mo 47 "SwapOrbitsModel" "mates" "[I" ∈ gw := gw_in 550 (by decide +kernel) rfl
theorem kc_Mo_makes : Cond.code y_Mo_makes b_Mo_makes 5 (some .int) ∈ gw := gw_in 724 (by decide +kernel) rfl
theorem kl_Mo_138 : Cond.methodLink R_Mo 138 y_Mo_makes ∈ gw := gw_in 721 (by decide +kernel) rfl
theorem kn_Mo_makes : Cond.instanceMethod y_Mo_makes ∈ gw := gw_in 723 (by decide +kernel) rfl
theorem ke_Mo_makes : Cond.selects R_Mo y_Mo_makes y_Mo_makes ∈ gw := gw_in 33 (by decide +kernel) rfl
theorem kc_Mo_joins : Cond.code y_Mo_joins b_Mo_joins 6 none ∈ gw := gw_in 720 (by decide +kernel) rfl
theorem kl_Mo_135 : Cond.methodLink R_Mo 135 y_Mo_joins ∈ gw := gw_in 717 (by decide +kernel) rfl
theorem kn_Mo_joins : Cond.instanceMethod y_Mo_joins ∈ gw := gw_in 719 (by decide +kernel) rfl
theorem ke_Mo_joins : Cond.selects R_Mo y_Mo_joins y_Mo_joins ∈ gw := gw_in 32 (by decide +kernel) rfl
theorem kc_Mo_findOrbits : Cond.code y_Mo_findOrbits b_Mo_findOrbits 2 none ∈ gw := gw_in 716 (by decide +kernel) rfl
theorem kl_Mo_141 : Cond.methodLink R_Mo 141 y_Mo_findOrbits ∈ gw := gw_in 713 (by decide +kernel) rfl
theorem kn_Mo_findOrbits : Cond.instanceMethod y_Mo_findOrbits ∈ gw := gw_in 715 (by decide +kernel) rfl
theorem ke_Mo_findOrbits : Cond.selects R_Mo y_Mo_findOrbits y_Mo_findOrbits ∈ gw := gw_in 31 (by decide +kernel) rfl
theorem kc_Mo_isPlan : Cond.code y_Mo_isPlan b_Mo_isPlan 2 (some .boolean) ∈ gw := gw_in 748 (by decide +kernel) rfl
theorem kl_Mo_144 : Cond.methodLink R_Mo 144 y_Mo_isPlan ∈ gw := gw_in 745 (by decide +kernel) rfl
theorem kn_Mo_isPlan : Cond.instanceMethod y_Mo_isPlan ∈ gw := gw_in 747 (by decide +kernel) rfl
theorem ke_Mo_isPlan : Cond.selects R_Mo y_Mo_isPlan y_Mo_isPlan ∈ gw := gw_in 34 (by decide +kernel) rfl
theorem kl_Moves_3 : Cond.methodLink R_Moves 3 objectInit ∈ gw := gw_in 60 (by decide +kernel) rfl
theorem kn_oi : Cond.instanceMethod objectInit ∈ gw := gw_in 53 (by decide +kernel) rfl
theorem kc_oi : Cond.code objectInit ⟨#[0xb1]⟩ 1 none ∈ gw := gw_in 54 (by decide +kernel) rfl
theorem ka_int : Cond.arrayClass .int ∈ gw := gw_in 75 (by decide +kernel) rfl
theorem kl_Edges_3 : Cond.methodLink R_Edges 3 objectInit ∈ gw := gw_in 81 (by decide +kernel) rfl
theorem kl_Group_3 : Cond.methodLink R_Group 3 objectInit ∈ gw := gw_in 114 (by decide +kernel) rfl
theorem kl_Plans_3 : Cond.methodLink R_Plans 3 objectInit ∈ gw := gw_in 91 (by decide +kernel) rfl
theorem kl_Table_3 : Cond.methodLink R_Table 3 objectInit ∈ gw := gw_in 137 (by decide +kernel) rfl
theorem kl_SO_1 : Cond.methodLink R_SO 1 objectInit ∈ gw := gw_in 52 (by decide +kernel) rfl
theorem kq_SO_7 : Cond.classLink R_SO 7 R_Moves ∈ gw := gw_in 55 (by decide +kernel) rfl
theorem kt_Moves : Cond.instantiable R_Moves 2 ∈ gw := gw_in 56 (by decide +kernel) rfl
theorem kc_Moves_init : Cond.code y_Moves_init b_Moves_init 1 none ∈ gw := gw_in 59 (by decide +kernel) rfl
theorem kl_SO_9 : Cond.methodLinkNest R_SO 9 y_Moves_init "SwapOrbits" ∈ lw_tbl := tb_in 57 (by decide +kernel)
theorem kn_Moves_init : Cond.instanceMethod y_Moves_init ∈ gw := gw_in 58 (by decide +kernel) rfl
theorem kq_SO_16 : Cond.classLink R_SO 16 R_Edges ∈ gw := gw_in 76 (by decide +kernel) rfl
theorem kt_Edges : Cond.instantiable R_Edges 1 ∈ gw := gw_in 77 (by decide +kernel) rfl
theorem kc_Edges_init : Cond.code y_Edges_init b_Edges_init 1 none ∈ gw := gw_in 80 (by decide +kernel) rfl
theorem kl_SO_18 : Cond.methodLinkNest R_SO 18 y_Edges_init "SwapOrbits" ∈ lw_tbl := tb_in 78 (by decide +kernel)
theorem kn_Edges_init : Cond.instanceMethod y_Edges_init ∈ gw := gw_in 79 (by decide +kernel) rfl
theorem kq_SO_23 : Cond.classLink R_SO 23 R_Plans ∈ gw := gw_in 86 (by decide +kernel) rfl
theorem kt_Plans : Cond.instantiable R_Plans 4 ∈ gw := gw_in 87 (by decide +kernel) rfl
theorem kc_Plans_init : Cond.code y_Plans_init b_Plans_init 1 none ∈ gw := gw_in 90 (by decide +kernel) rfl
theorem kl_SO_25 : Cond.methodLinkNest R_SO 25 y_Plans_init "SwapOrbits" ∈ lw_tbl := tb_in 88 (by decide +kernel)
theorem kn_Plans_init : Cond.instanceMethod y_Plans_init ∈ gw := gw_in 89 (by decide +kernel) rfl
theorem kq_SO_34 : Cond.classLink R_SO 34 R_Group ∈ gw := gw_in 109 (by decide +kernel) rfl
theorem kt_Group : Cond.instantiable R_Group 5 ∈ gw := gw_in 110 (by decide +kernel) rfl
theorem kc_Group_init : Cond.code y_Group_init b_Group_init 1 none ∈ gw := gw_in 113 (by decide +kernel) rfl
theorem kl_SO_36 : Cond.methodLinkNest R_SO 36 y_Group_init "SwapOrbits" ∈ lw_tbl := tb_in 111 (by decide +kernel)
theorem kn_Group_init : Cond.instanceMethod y_Group_init ∈ gw := gw_in 112 (by decide +kernel) rfl
theorem kq_SO_41 : Cond.classLink R_SO 41 R_Table ∈ gw := gw_in 132 (by decide +kernel) rfl
theorem kt_Table : Cond.instantiable R_Table 6 ∈ gw := gw_in 133 (by decide +kernel) rfl
theorem kc_Table_init : Cond.code y_Table_init b_Table_init 1 none ∈ gw := gw_in 136 (by decide +kernel) rfl
theorem kl_SO_43 : Cond.methodLinkNest R_SO 43 y_Table_init "SwapOrbits" ∈ lw_tbl := tb_in 134 (by decide +kernel)
theorem kn_Table_init : Cond.instanceMethod y_Table_init ∈ gw := gw_in 135 (by decide +kernel) rfl
theorem kl_Mo_1 : Cond.methodLink R_Mo 1 objectInit ∈ gw := gw_in 526 (by decide +kernel) rfl
theorem ka_boolean : Cond.arrayClass .boolean ∈ gw := gw_in 601 (by decide +kernel) rfl
theorem i_SO : ∀ w ∈ u_ws R_SO F_SO 8, w ∈ gw := by decide +kernel
theorem i_Moves : ∀ w ∈ u_ws R_Moves F_Moves 2, w ∈ gw := by decide +kernel
theorem i_Edges : ∀ w ∈ u_ws R_Edges F_Edges 1, w ∈ gw := by decide +kernel
theorem i_Group : ∀ w ∈ u_ws R_Group F_Group 5, w ∈ gw := by decide +kernel
theorem i_Plans : ∀ w ∈ u_ws R_Plans F_Plans 4, w ∈ gw := by decide +kernel
theorem i_Table : ∀ w ∈ u_ws R_Table F_Table 6, w ∈ gw := by decide +kernel
theorem i_Mo : ∀ w ∈ u_ws R_Mo F_Mo 23, w ∈ gw := by decide +kernel
