theorem d_Rows_target_0 : decode b_Rows_target 0 = .ok (.iload_n 0, 1) := by decide +kernel
theorem d_Rows_target_1 : decode b_Rows_target 1 = .ok (.iconst 3, 1) := by decide +kernel
theorem d_Rows_target_2 : decode b_Rows_target 2 = .ok (.iload_n 1, 1) := by decide +kernel
theorem d_Rows_target_3 : decode b_Rows_target 3 = .ok (.imul, 1) := by decide +kernel
theorem d_Rows_target_4 : decode b_Rows_target 4 = .ok (.iushr, 1) := by decide +kernel
theorem d_Rows_target_5 : decode b_Rows_target 5 = .ok (.bipush 7, 2) := by decide +kernel
theorem d_Rows_target_7 : decode b_Rows_target 7 = .ok (.iand, 1) := by decide +kernel
theorem d_Rows_target_8 : decode b_Rows_target 8 = .ok (.ireturn, 1) := by decide +kernel
theorem d_Rows_isPermutation_0 : decode b_Rows_isPermutation 0 = .ok (.iload_n 0, 1) := by decide +kernel
theorem d_Rows_isPermutation_1 : decode b_Rows_isPermutation 1 = .ok (.iconst 3, 1) := by decide +kernel
theorem d_Rows_isPermutation_2 : decode b_Rows_isPermutation 2 = .ok (.iload_n 1, 1) := by decide +kernel
theorem d_Rows_isPermutation_3 : decode b_Rows_isPermutation 3 = .ok (.imul, 1) := by decide +kernel
theorem d_Rows_isPermutation_4 : decode b_Rows_isPermutation 4 = .ok (.iushr, 1) := by decide +kernel
theorem d_Rows_isPermutation_5 : decode b_Rows_isPermutation 5 = .ok (.ifCond .eq 5, 3) := by decide +kernel
theorem d_Rows_isPermutation_8 : decode b_Rows_isPermutation 8 = .ok (.iconst 0, 1) := by decide +kernel
theorem d_Rows_isPermutation_9 : decode b_Rows_isPermutation 9 = .ok (.ireturn, 1) := by decide +kernel
theorem d_Rows_isPermutation_10 : decode b_Rows_isPermutation 10 = .ok (.iconst 0, 1) := by decide +kernel
theorem d_Rows_isPermutation_11 : decode b_Rows_isPermutation 11 = .ok (.istore_n 2, 1) := by decide +kernel
theorem d_Rows_isPermutation_12 : decode b_Rows_isPermutation 12 = .ok (.iconst 0, 1) := by decide +kernel
theorem d_Rows_isPermutation_13 : decode b_Rows_isPermutation 13 = .ok (.istore_n 3, 1) := by decide +kernel
theorem d_Rows_isPermutation_14 : decode b_Rows_isPermutation 14 = .ok (.iload_n 3, 1) := by decide +kernel
theorem d_Rows_isPermutation_15 : decode b_Rows_isPermutation 15 = .ok (.iload_n 1, 1) := by decide +kernel
theorem d_Rows_isPermutation_16 : decode b_Rows_isPermutation 16 = .ok (.if_icmp .ge 19, 3) := by decide +kernel
theorem d_Rows_isPermutation_19 : decode b_Rows_isPermutation 19 = .ok (.iload_n 2, 1) := by decide +kernel
theorem d_Rows_isPermutation_20 : decode b_Rows_isPermutation 20 = .ok (.iconst 1, 1) := by decide +kernel
theorem d_Rows_isPermutation_21 : decode b_Rows_isPermutation 21 = .ok (.iload_n 0, 1) := by decide +kernel
theorem d_Rows_isPermutation_22 : decode b_Rows_isPermutation 22 = .ok (.iload_n 3, 1) := by decide +kernel
theorem d_Rows_isPermutation_23 : decode b_Rows_isPermutation 23 = .ok (.invokestatic 9, 3) := by decide +kernel
theorem d_Rows_isPermutation_26 : decode b_Rows_isPermutation 26 = .ok (.ishl, 1) := by decide +kernel
theorem d_Rows_isPermutation_27 : decode b_Rows_isPermutation 27 = .ok (.ior, 1) := by decide +kernel
theorem d_Rows_isPermutation_28 : decode b_Rows_isPermutation 28 = .ok (.istore_n 2, 1) := by decide +kernel
theorem d_Rows_isPermutation_29 : decode b_Rows_isPermutation 29 = .ok (.iinc 3 1, 3) := by decide +kernel
theorem d_Rows_isPermutation_32 : decode b_Rows_isPermutation 32 = .ok (.goto (-18), 3) := by decide +kernel
theorem d_Rows_isPermutation_35 : decode b_Rows_isPermutation 35 = .ok (.iload_n 2, 1) := by decide +kernel
theorem d_Rows_isPermutation_36 : decode b_Rows_isPermutation 36 = .ok (.iconst 1, 1) := by decide +kernel
theorem d_Rows_isPermutation_37 : decode b_Rows_isPermutation 37 = .ok (.iload_n 1, 1) := by decide +kernel
theorem d_Rows_isPermutation_38 : decode b_Rows_isPermutation 38 = .ok (.ishl, 1) := by decide +kernel
theorem d_Rows_isPermutation_39 : decode b_Rows_isPermutation 39 = .ok (.iconst 1, 1) := by decide +kernel
theorem d_Rows_isPermutation_40 : decode b_Rows_isPermutation 40 = .ok (.isub, 1) := by decide +kernel
theorem d_Rows_isPermutation_41 : decode b_Rows_isPermutation 41 = .ok (.if_icmp .ne 7, 3) := by decide +kernel
theorem d_Rows_isPermutation_44 : decode b_Rows_isPermutation 44 = .ok (.iconst 1, 1) := by decide +kernel
theorem d_Rows_isPermutation_45 : decode b_Rows_isPermutation 45 = .ok (.goto 4, 3) := by decide +kernel
theorem d_Rows_isPermutation_48 : decode b_Rows_isPermutation 48 = .ok (.iconst 0, 1) := by decide +kernel
theorem d_Rows_isPermutation_49 : decode b_Rows_isPermutation 49 = .ok (.ireturn, 1) := by decide +kernel
theorem d_Rows_identity_0 : decode b_Rows_identity 0 = .ok (.iconst 0, 1) := by decide +kernel
theorem d_Rows_identity_1 : decode b_Rows_identity 1 = .ok (.istore_n 1, 1) := by decide +kernel
theorem d_Rows_identity_2 : decode b_Rows_identity 2 = .ok (.iconst 0, 1) := by decide +kernel
theorem d_Rows_identity_3 : decode b_Rows_identity 3 = .ok (.istore_n 2, 1) := by decide +kernel
theorem d_Rows_identity_4 : decode b_Rows_identity 4 = .ok (.iload_n 2, 1) := by decide +kernel
theorem d_Rows_identity_5 : decode b_Rows_identity 5 = .ok (.iload_n 0, 1) := by decide +kernel
theorem d_Rows_identity_6 : decode b_Rows_identity 6 = .ok (.if_icmp .ge 17, 3) := by decide +kernel
theorem d_Rows_identity_9 : decode b_Rows_identity 9 = .ok (.iload_n 1, 1) := by decide +kernel
theorem d_Rows_identity_10 : decode b_Rows_identity 10 = .ok (.iload_n 2, 1) := by decide +kernel
theorem d_Rows_identity_11 : decode b_Rows_identity 11 = .ok (.iconst 3, 1) := by decide +kernel
theorem d_Rows_identity_12 : decode b_Rows_identity 12 = .ok (.iload_n 2, 1) := by decide +kernel
theorem d_Rows_identity_13 : decode b_Rows_identity 13 = .ok (.imul, 1) := by decide +kernel
theorem d_Rows_identity_14 : decode b_Rows_identity 14 = .ok (.ishl, 1) := by decide +kernel
theorem d_Rows_identity_15 : decode b_Rows_identity 15 = .ok (.ior, 1) := by decide +kernel
theorem d_Rows_identity_16 : decode b_Rows_identity 16 = .ok (.istore_n 1, 1) := by decide +kernel
theorem d_Rows_identity_17 : decode b_Rows_identity 17 = .ok (.iinc 2 1, 3) := by decide +kernel
theorem d_Rows_identity_20 : decode b_Rows_identity 20 = .ok (.goto (-16), 3) := by decide +kernel
theorem d_Rows_identity_23 : decode b_Rows_identity 23 = .ok (.iload_n 1, 1) := by decide +kernel
theorem d_Rows_identity_24 : decode b_Rows_identity 24 = .ok (.ireturn, 1) := by decide +kernel
theorem d_Rows_chain_0 : decode b_Rows_chain 0 = .ok (.iconst 0, 1) := by decide +kernel
theorem d_Rows_chain_1 : decode b_Rows_chain 1 = .ok (.istore_n 3, 1) := by decide +kernel
theorem d_Rows_chain_2 : decode b_Rows_chain 2 = .ok (.iconst 0, 1) := by decide +kernel
theorem d_Rows_chain_3 : decode b_Rows_chain 3 = .ok (.istore 4, 2) := by decide +kernel
theorem d_Rows_chain_5 : decode b_Rows_chain 5 = .ok (.iload 4, 2) := by decide +kernel
theorem d_Rows_chain_7 : decode b_Rows_chain 7 = .ok (.iload_n 2, 1) := by decide +kernel
theorem d_Rows_chain_8 : decode b_Rows_chain 8 = .ok (.if_icmp .ge 27, 3) := by decide +kernel
theorem d_Rows_chain_11 : decode b_Rows_chain 11 = .ok (.iload_n 3, 1) := by decide +kernel
theorem d_Rows_chain_12 : decode b_Rows_chain 12 = .ok (.iload_n 1, 1) := by decide +kernel
theorem d_Rows_chain_13 : decode b_Rows_chain 13 = .ok (.iload_n 0, 1) := by decide +kernel
theorem d_Rows_chain_14 : decode b_Rows_chain 14 = .ok (.iload 4, 2) := by decide +kernel
theorem d_Rows_chain_16 : decode b_Rows_chain 16 = .ok (.invokestatic 9, 3) := by decide +kernel
theorem d_Rows_chain_19 : decode b_Rows_chain 19 = .ok (.invokestatic 9, 3) := by decide +kernel
theorem d_Rows_chain_22 : decode b_Rows_chain 22 = .ok (.iconst 3, 1) := by decide +kernel
theorem d_Rows_chain_23 : decode b_Rows_chain 23 = .ok (.iload 4, 2) := by decide +kernel
theorem d_Rows_chain_25 : decode b_Rows_chain 25 = .ok (.imul, 1) := by decide +kernel
theorem d_Rows_chain_26 : decode b_Rows_chain 26 = .ok (.ishl, 1) := by decide +kernel
theorem d_Rows_chain_27 : decode b_Rows_chain 27 = .ok (.ior, 1) := by decide +kernel
theorem d_Rows_chain_28 : decode b_Rows_chain 28 = .ok (.istore_n 3, 1) := by decide +kernel
theorem d_Rows_chain_29 : decode b_Rows_chain 29 = .ok (.iinc 4 1, 3) := by decide +kernel
theorem d_Rows_chain_32 : decode b_Rows_chain 32 = .ok (.goto (-27), 3) := by decide +kernel
theorem d_Rows_chain_35 : decode b_Rows_chain 35 = .ok (.iload_n 3, 1) := by decide +kernel
theorem d_Rows_chain_36 : decode b_Rows_chain 36 = .ok (.ireturn, 1) := by decide +kernel
theorem d_Rows_place_0 : decode b_Rows_place 0 = .ok (.iconst 0, 1) := by decide +kernel
theorem d_Rows_place_1 : decode b_Rows_place 1 = .ok (.istore_n 2, 1) := by decide +kernel
theorem d_Rows_place_2 : decode b_Rows_place 2 = .ok (.iconst 0, 1) := by decide +kernel
theorem d_Rows_place_3 : decode b_Rows_place 3 = .ok (.istore_n 3, 1) := by decide +kernel
theorem d_Rows_place_4 : decode b_Rows_place 4 = .ok (.iconst 0, 1) := by decide +kernel
theorem d_Rows_place_5 : decode b_Rows_place 5 = .ok (.istore 4, 2) := by decide +kernel
theorem d_Rows_place_7 : decode b_Rows_place 7 = .ok (.iload 4, 2) := by decide +kernel
theorem d_Rows_place_9 : decode b_Rows_place 9 = .ok (.iload_n 1, 1) := by decide +kernel
theorem d_Rows_place_10 : decode b_Rows_place 10 = .ok (.if_icmp .ge 52, 3) := by decide +kernel
theorem d_Rows_place_13 : decode b_Rows_place 13 = .ok (.iconst 1, 1) := by decide +kernel
theorem d_Rows_place_14 : decode b_Rows_place 14 = .ok (.iload_n 0, 1) := by decide +kernel
theorem d_Rows_place_15 : decode b_Rows_place 15 = .ok (.iload 4, 2) := by decide +kernel
theorem d_Rows_place_17 : decode b_Rows_place 17 = .ok (.invokestatic 9, 3) := by decide +kernel
theorem d_Rows_place_20 : decode b_Rows_place 20 = .ok (.ishl, 1) := by decide +kernel
theorem d_Rows_place_21 : decode b_Rows_place 21 = .ok (.istore 5, 2) := by decide +kernel
theorem d_Rows_place_23 : decode b_Rows_place 23 = .ok (.iload_n 0, 1) := by decide +kernel
theorem d_Rows_place_24 : decode b_Rows_place 24 = .ok (.iload 4, 2) := by decide +kernel
theorem d_Rows_place_26 : decode b_Rows_place 26 = .ok (.invokestatic 9, 3) := by decide +kernel
theorem d_Rows_place_29 : decode b_Rows_place 29 = .ok (.iload_n 3, 1) := by decide +kernel
theorem d_Rows_place_30 : decode b_Rows_place 30 = .ok (.iload 5, 2) := by decide +kernel
theorem d_Rows_place_32 : decode b_Rows_place 32 = .ok (.iconst 1, 1) := by decide +kernel
theorem d_Rows_place_33 : decode b_Rows_place 33 = .ok (.isub, 1) := by decide +kernel
theorem d_Rows_place_34 : decode b_Rows_place 34 = .ok (.iand, 1) := by decide +kernel
theorem d_Rows_place_35 : decode b_Rows_place 35 = .ok (.invokestatic 15, 3) := by decide +kernel
theorem d_Rows_place_38 : decode b_Rows_place 38 = .ok (.isub, 1) := by decide +kernel
theorem d_Rows_place_39 : decode b_Rows_place 39 = .ok (.istore 6, 2) := by decide +kernel
theorem d_Rows_place_41 : decode b_Rows_place 41 = .ok (.iload_n 2, 1) := by decide +kernel
theorem d_Rows_place_42 : decode b_Rows_place 42 = .ok (.iload_n 1, 1) := by decide +kernel
theorem d_Rows_place_43 : decode b_Rows_place 43 = .ok (.iload 4, 2) := by decide +kernel
theorem d_Rows_place_45 : decode b_Rows_place 45 = .ok (.isub, 1) := by decide +kernel
theorem d_Rows_place_46 : decode b_Rows_place 46 = .ok (.imul, 1) := by decide +kernel
theorem d_Rows_place_47 : decode b_Rows_place 47 = .ok (.iload 6, 2) := by decide +kernel
theorem d_Rows_place_49 : decode b_Rows_place 49 = .ok (.iadd, 1) := by decide +kernel
theorem d_Rows_place_50 : decode b_Rows_place 50 = .ok (.istore_n 2, 1) := by decide +kernel
theorem d_Rows_place_51 : decode b_Rows_place 51 = .ok (.iload_n 3, 1) := by decide +kernel
theorem d_Rows_place_52 : decode b_Rows_place 52 = .ok (.iload 5, 2) := by decide +kernel
theorem d_Rows_place_54 : decode b_Rows_place 54 = .ok (.ior, 1) := by decide +kernel
theorem d_Rows_place_55 : decode b_Rows_place 55 = .ok (.istore_n 3, 1) := by decide +kernel
theorem d_Rows_place_56 : decode b_Rows_place 56 = .ok (.iinc 4 1, 3) := by decide +kernel
theorem d_Rows_place_59 : decode b_Rows_place 59 = .ok (.goto (-52), 3) := by decide +kernel
theorem d_Rows_place_62 : decode b_Rows_place 62 = .ok (.iload_n 2, 1) := by decide +kernel
theorem d_Rows_place_63 : decode b_Rows_place 63 = .ok (.ireturn, 1) := by decide +kernel
theorem d_Rows_countCycles_0 : decode b_Rows_countCycles 0 = .ok (.iconst 0, 1) := by decide +kernel
theorem d_Rows_countCycles_1 : decode b_Rows_countCycles 1 = .ok (.istore_n 2, 1) := by decide +kernel
theorem d_Rows_countCycles_2 : decode b_Rows_countCycles 2 = .ok (.iconst 0, 1) := by decide +kernel
theorem d_Rows_countCycles_3 : decode b_Rows_countCycles 3 = .ok (.istore_n 3, 1) := by decide +kernel
theorem d_Rows_countCycles_4 : decode b_Rows_countCycles 4 = .ok (.iconst 0, 1) := by decide +kernel
theorem d_Rows_countCycles_5 : decode b_Rows_countCycles 5 = .ok (.istore 4, 2) := by decide +kernel
theorem d_Rows_countCycles_7 : decode b_Rows_countCycles 7 = .ok (.iload 4, 2) := by decide +kernel
theorem d_Rows_countCycles_9 : decode b_Rows_countCycles 9 = .ok (.iload_n 1, 1) := by decide +kernel
theorem d_Rows_countCycles_10 : decode b_Rows_countCycles 10 = .ok (.if_icmp .ge 31, 3) := by decide +kernel
theorem d_Rows_countCycles_13 : decode b_Rows_countCycles 13 = .ok (.iload_n 2, 1) := by decide +kernel
theorem d_Rows_countCycles_14 : decode b_Rows_countCycles 14 = .ok (.iload 4, 2) := by decide +kernel
theorem d_Rows_countCycles_16 : decode b_Rows_countCycles 16 = .ok (.iushr, 1) := by decide +kernel
theorem d_Rows_countCycles_17 : decode b_Rows_countCycles 17 = .ok (.iconst 1, 1) := by decide +kernel
theorem d_Rows_countCycles_18 : decode b_Rows_countCycles 18 = .ok (.iand, 1) := by decide +kernel
theorem d_Rows_countCycles_19 : decode b_Rows_countCycles 19 = .ok (.ifCond .ne 16, 3) := by decide +kernel
theorem d_Rows_countCycles_22 : decode b_Rows_countCycles 22 = .ok (.iload_n 2, 1) := by decide +kernel
theorem d_Rows_countCycles_23 : decode b_Rows_countCycles 23 = .ok (.iload_n 0, 1) := by decide +kernel
theorem d_Rows_countCycles_24 : decode b_Rows_countCycles 24 = .ok (.iload 4, 2) := by decide +kernel
theorem d_Rows_countCycles_26 : decode b_Rows_countCycles 26 = .ok (.iload_n 1, 1) := by decide +kernel
theorem d_Rows_countCycles_27 : decode b_Rows_countCycles 27 = .ok (.invokestatic 21, 3) := by decide +kernel
theorem d_Rows_countCycles_30 : decode b_Rows_countCycles 30 = .ok (.ior, 1) := by decide +kernel
theorem d_Rows_countCycles_31 : decode b_Rows_countCycles 31 = .ok (.istore_n 2, 1) := by decide +kernel
theorem d_Rows_countCycles_32 : decode b_Rows_countCycles 32 = .ok (.iinc 3 1, 3) := by decide +kernel
theorem d_Rows_countCycles_35 : decode b_Rows_countCycles 35 = .ok (.iinc 4 1, 3) := by decide +kernel
theorem d_Rows_countCycles_38 : decode b_Rows_countCycles 38 = .ok (.goto (-31), 3) := by decide +kernel
theorem d_Rows_countCycles_41 : decode b_Rows_countCycles 41 = .ok (.iload_n 3, 1) := by decide +kernel
theorem d_Rows_countCycles_42 : decode b_Rows_countCycles 42 = .ok (.ireturn, 1) := by decide +kernel
theorem d_Rows_cycleOf_0 : decode b_Rows_cycleOf 0 = .ok (.iconst 0, 1) := by decide +kernel
theorem d_Rows_cycleOf_1 : decode b_Rows_cycleOf 1 = .ok (.istore_n 3, 1) := by decide +kernel
theorem d_Rows_cycleOf_2 : decode b_Rows_cycleOf 2 = .ok (.iload_n 1, 1) := by decide +kernel
theorem d_Rows_cycleOf_3 : decode b_Rows_cycleOf 3 = .ok (.istore 4, 2) := by decide +kernel
theorem d_Rows_cycleOf_5 : decode b_Rows_cycleOf 5 = .ok (.iconst 0, 1) := by decide +kernel
theorem d_Rows_cycleOf_6 : decode b_Rows_cycleOf 6 = .ok (.istore 5, 2) := by decide +kernel
theorem d_Rows_cycleOf_8 : decode b_Rows_cycleOf 8 = .ok (.iload 5, 2) := by decide +kernel
theorem d_Rows_cycleOf_10 : decode b_Rows_cycleOf 10 = .ok (.iload_n 2, 1) := by decide +kernel
theorem d_Rows_cycleOf_11 : decode b_Rows_cycleOf 11 = .ok (.if_icmp .ge 24, 3) := by decide +kernel
theorem d_Rows_cycleOf_14 : decode b_Rows_cycleOf 14 = .ok (.iload_n 3, 1) := by decide +kernel
theorem d_Rows_cycleOf_15 : decode b_Rows_cycleOf 15 = .ok (.iconst 1, 1) := by decide +kernel
theorem d_Rows_cycleOf_16 : decode b_Rows_cycleOf 16 = .ok (.iload 4, 2) := by decide +kernel
theorem d_Rows_cycleOf_18 : decode b_Rows_cycleOf 18 = .ok (.ishl, 1) := by decide +kernel
theorem d_Rows_cycleOf_19 : decode b_Rows_cycleOf 19 = .ok (.ior, 1) := by decide +kernel
theorem d_Rows_cycleOf_20 : decode b_Rows_cycleOf 20 = .ok (.istore_n 3, 1) := by decide +kernel
theorem d_Rows_cycleOf_21 : decode b_Rows_cycleOf 21 = .ok (.iload_n 0, 1) := by decide +kernel
theorem d_Rows_cycleOf_22 : decode b_Rows_cycleOf 22 = .ok (.iload 4, 2) := by decide +kernel
theorem d_Rows_cycleOf_24 : decode b_Rows_cycleOf 24 = .ok (.invokestatic 9, 3) := by decide +kernel
theorem d_Rows_cycleOf_27 : decode b_Rows_cycleOf 27 = .ok (.istore 4, 2) := by decide +kernel
theorem d_Rows_cycleOf_29 : decode b_Rows_cycleOf 29 = .ok (.iinc 5 1, 3) := by decide +kernel
theorem d_Rows_cycleOf_32 : decode b_Rows_cycleOf 32 = .ok (.goto (-24), 3) := by decide +kernel
theorem d_Rows_cycleOf_35 : decode b_Rows_cycleOf 35 = .ok (.iload_n 3, 1) := by decide +kernel
theorem d_Rows_cycleOf_36 : decode b_Rows_cycleOf 36 = .ok (.ireturn, 1) := by decide +kernel
theorem d_Rows_period_0 : decode b_Rows_period 0 = .ok (.iload_n 1, 1) := by decide +kernel
theorem d_Rows_period_1 : decode b_Rows_period 1 = .ok (.invokestatic 25, 3) := by decide +kernel
theorem d_Rows_period_4 : decode b_Rows_period 4 = .ok (.istore_n 2, 1) := by decide +kernel
theorem d_Rows_period_5 : decode b_Rows_period 5 = .ok (.iload_n 0, 1) := by decide +kernel
theorem d_Rows_period_6 : decode b_Rows_period 6 = .ok (.istore_n 3, 1) := by decide +kernel
theorem d_Rows_period_7 : decode b_Rows_period 7 = .ok (.iconst 1, 1) := by decide +kernel
theorem d_Rows_period_8 : decode b_Rows_period 8 = .ok (.istore 4, 2) := by decide +kernel
theorem d_Rows_period_10 : decode b_Rows_period 10 = .ok (.iload_n 3, 1) := by decide +kernel
theorem d_Rows_period_11 : decode b_Rows_period 11 = .ok (.iload_n 2, 1) := by decide +kernel
theorem d_Rows_period_12 : decode b_Rows_period 12 = .ok (.if_icmp .eq 24, 3) := by decide +kernel
theorem d_Rows_period_15 : decode b_Rows_period 15 = .ok (.iload 4, 2) := by decide +kernel
theorem d_Rows_period_17 : decode b_Rows_period 17 = .ok (.sipush 5040, 3) := by decide +kernel
theorem d_Rows_period_20 : decode b_Rows_period 20 = .ok (.if_icmp .ge 16, 3) := by decide +kernel
theorem d_Rows_period_23 : decode b_Rows_period 23 = .ok (.iload_n 3, 1) := by decide +kernel
theorem d_Rows_period_24 : decode b_Rows_period 24 = .ok (.iload_n 0, 1) := by decide +kernel
theorem d_Rows_period_25 : decode b_Rows_period 25 = .ok (.iload_n 1, 1) := by decide +kernel
theorem d_Rows_period_26 : decode b_Rows_period 26 = .ok (.invokestatic 28, 3) := by decide +kernel
theorem d_Rows_period_29 : decode b_Rows_period 29 = .ok (.istore_n 3, 1) := by decide +kernel
theorem d_Rows_period_30 : decode b_Rows_period 30 = .ok (.iinc 4 1, 3) := by decide +kernel
theorem d_Rows_period_33 : decode b_Rows_period 33 = .ok (.goto (-23), 3) := by decide +kernel
theorem d_Rows_period_36 : decode b_Rows_period 36 = .ok (.iload 4, 2) := by decide +kernel
theorem d_Rows_period_38 : decode b_Rows_period 38 = .ok (.ireturn, 1) := by decide +kernel

-- SwapOrbits$Rows.target(II)I
abbrev rm_Rows_target : Room := { frames := 0, cells := 0, slots := 0, locals := 0 }
def wp_Rows_target (post : Int32 → Prop) (a1 : Int32) (a2 : Int32) : Prop := post (((a1.toUInt32 >>> (((3 : Int32) * a2).toUInt32 &&& Int32.toUInt32 31)).toInt32) &&& (7 : Int32))
set_option maxHeartbeats 4000000 in
set_option maxRecDepth 100000 in
theorem met_Rows_target (l : Launch) (dC : Nat → ClassId) (dI : Nat → Nat → Nat) (cI cZ : ClassId) (a1 : Int32) (a2 : Int32) (post : Int32 → Prop) (hw : wp_Rows_target post a1 a2) : Met l y_Rows_target (Cond.code y_Rows_target b_Rows_target 2 (some .int) :: gw) rm_Rows_target (va_Pc [.int a1, .int a2] (fun U => EV (dC, dI) cI cZ U ∧ va_P (dC, dI) classes [] U.heap)) (vp_Si post) 0 0 (fun _ => False) := by
  refine Met.ofW (cc := b_Rows_target) (maxL := 2) (ret := (some .int)) (by decide) rfl ?_
  intro p e s m args below meth c s₁ B hml hv
  obtain ⟨rfl, hE, hP⟩ := hv
  have C := CX.of (own := R_Rows) (D := (dC, dI)) (cI := cI) (cZ := cZ) B hml rfl hE
  obtain ⟨hx, hb, hr, -, hown, hts, hlocks, -⟩ := id C
  have hl := lv_entry ([.int a1, .int a2]) (n := 2) (Nat.le_of_ble_eq_true rfl)
  rw [lg_entry_eq]
  generalize (lg_sl ([.int a1, .int a2]) ++ List.replicate (2 - (lg_sl ([.int a1, .int a2])).length) Slot.unset).toArray = ls at hl ⊢
  have hl : lv_has ls 2 [(0, .int a1), (1, .int a2)] := hl
  unfold wp_Rows_target at hw
  refine lv_iload_n hx hb d_Rows_target_0 rfl (lv_at hl 0 rfl) ?_
  refine lv_iconst (v := (3 : Int32)) hx hb d_Rows_target_1 (by decide) ?_
  refine lv_iload_n hx hb d_Rows_target_2 rfl (lv_at hl 1 rfl) ?_
  refine lv_imul hx hb d_Rows_target_3 ?_
  refine lv_iushr (v := (a1.toUInt32 >>> (((3 : Int32) * a2).toUInt32 &&& Int32.toUInt32 31)).toInt32) hx hb d_Rows_target_4 rfl ?_
  refine lv_bipush (v := (7 : Int32)) hx hb d_Rows_target_5 (by decide) ?_
  refine lv_iand hx hb d_Rows_target_7 ?_
  exact W.iret (v := (((a1.toUInt32 >>> (((3 : Int32) * a2).toUInt32 &&& Int32.toUInt32 31)).toInt32) &&& (7 : Int32))) hx hb hr (fun t ht hW => ⟨(((a1.toUInt32 >>> (((3 : Int32) * a2).toUInt32 &&& Int32.toUInt32 31)).toInt32) &&& (7 : Int32)), rfl, hw, by rw [ht]⟩) (fun _ h => by cases h) d_Rows_target_8

-- SwapOrbits$Rows.isPermutation(II)Z
abbrev rm_Rows_isPermutation : Room := { frames := 1, cells := 0, slots := 0, locals := 21 }
def L_Rows_isPermutation_14b (post : Int32 → Prop) (v0 : Int32) (v1 : Int32) (K14 : Int32 → Int32 → Prop) (v2 : Int32) (v3 : Int32) : Prop := (v1 ≤ v3 → (v2 = (((1 : Int32) <<< (v1 &&& 31)) - (1 : Int32)) → post (1 : Int32)) ∧ (¬ v2 = (((1 : Int32) <<< (v1 &&& 31)) - (1 : Int32)) → post (0 : Int32))) ∧ (¬ v1 ≤ v3 → wp_Rows_target (fun r23 => ∀ x2_28 : Int32, x2_28 = v2 ||| ((1 : Int32) <<< (r23 &&& 31)) → (∀ x3_29 : Int32, x3_29 = v3 + 1 → (K14 x2_28 x3_29))) v0 v3)
def L_Rows_isPermutation_14 (post : Int32 → Prop) (v0 : Int32) (v1 : Int32) : Nat → Int32 → Int32 → Prop
  | 0, _, _ => False
  | n + 1, v2, v3 => L_Rows_isPermutation_14b post v0 v1 (L_Rows_isPermutation_14 post v0 v1 n) v2 v3
def wp_Rows_isPermutation (post : Int32 → Prop) (a1 : Int32) (a2 : Int32) : Prop := (((a1.toUInt32 >>> (((3 : Int32) * a2).toUInt32 &&& Int32.toUInt32 31)).toInt32) = 0 → ∃ n, L_Rows_isPermutation_14 post a1 a2 n (0 : Int32) (0 : Int32)) ∧ (¬ ((a1.toUInt32 >>> (((3 : Int32) * a2).toUInt32 &&& Int32.toUInt32 31)).toInt32) = 0 → post (0 : Int32))
set_option maxHeartbeats 4000000 in
set_option maxRecDepth 100000 in
theorem qL_Rows_isPermutation_14 {p : Program} {l : Launch} {e : Env} {s : State} {m : MethodId} {args : Array Value} {below : List Frame} {meth : Method} {c : Code} {dC : Nat → ClassId} {dI : Nat → Nat → Nat} {cI cZ : ClassId} (C : CX p s m args meth c R_Rows b_Rows_isPermutation 4 (some .boolean) (dC, dI) cI cZ) (post : Int32 → Prop) (v0 : Int32) (v1 : Int32) (hP : va_P (dC, dI) classes [] s.heap) : ∀ (n : Nat) (v2 : Int32) (v3 : Int32) , L_Rows_isPermutation_14 post v0 v1 n v2 v3 → ∀ (ls : Array Slot), lv_has ls 4 [(0, .int v0), (1, .int v1), (2, .int v2), (3, .int v3)] → W p l e rm_Rows_isPermutation s m args below meth c s.heap [] 0 0 (MQ below (vp_Si post) args s 0 0 (fun _ => False)) (F0 m 14 ls []) := by
  obtain ⟨hx, hb, hr, hml, hown, hts, hlocks, hE⟩ := id C
  intro n
  induction n with
  | zero =>
    intro v2 v3 hw
    exact (show False from hw).elim
  | succ n ih =>
    intro v2 v3 hw ls hl
    have hw : L_Rows_isPermutation_14b post v0 v1 (L_Rows_isPermutation_14 post v0 v1 n) v2 v3 := hw
    unfold L_Rows_isPermutation_14b at hw
    refine lv_iload_n hx hb d_Rows_isPermutation_14 rfl (lv_at hl 3 rfl) ?_
    refine lv_iload_n hx hb d_Rows_isPermutation_15 rfl (lv_at hl 1 rfl) ?_
    refine lv_icmp_ge (tgt := 35) hx hb d_Rows_isPermutation_16 (by decide) (fun c16 => ?_) (fun c16 => ?_)
    · have hw := hw.1 c16
      refine lv_iload_n hx hb d_Rows_isPermutation_35 rfl (lv_at hl 2 rfl) ?_
      refine lv_iconst (v := (1 : Int32)) hx hb d_Rows_isPermutation_36 (by decide) ?_
      refine lv_iload_n hx hb d_Rows_isPermutation_37 rfl (lv_at hl 1 rfl) ?_
      refine lv_ishl hx hb d_Rows_isPermutation_38 ?_
      refine lv_iconst (v := (1 : Int32)) hx hb d_Rows_isPermutation_39 (by decide) ?_
      refine lv_isub hx hb d_Rows_isPermutation_40 ?_
      refine lv_icmp_ne (tgt := 48) hx hb d_Rows_isPermutation_41 (by decide) (fun c41 => ?_) (fun c41 => ?_)
      · have hw := hw.2 c41
        refine lv_iconst (v := (0 : Int32)) hx hb d_Rows_isPermutation_48 (by decide) ?_
        exact W.zret (v := (0 : Int32)) hx hb hr rfl (fun t ht hW => ⟨(0 : Int32), rfl, hw, by rw [ht]⟩) (fun _ h => by cases h) d_Rows_isPermutation_49
      · have hw := hw.1 c41
        refine lv_iconst (v := (1 : Int32)) hx hb d_Rows_isPermutation_44 (by decide) ?_
        refine lv_goto (tgt := 49) hx hb d_Rows_isPermutation_45 (by decide) ?_
        exact W.zret (v := (1 : Int32)) hx hb hr rfl (fun t ht hW => ⟨(1 : Int32), rfl, hw, by rw [ht]⟩) (fun _ h => by cases h) d_Rows_isPermutation_49
    · have hw := hw.2 c16
      refine lv_iload_n hx hb d_Rows_isPermutation_19 rfl (lv_at hl 2 rfl) ?_
      refine lv_iconst (v := (1 : Int32)) hx hb d_Rows_isPermutation_20 (by decide) ?_
      refine lv_iload_n hx hb d_Rows_isPermutation_21 rfl (lv_at hl 0 rfl) ?_
      refine lv_iload_n hx hb d_Rows_isPermutation_22 rfl (lv_at hl 3 rfl) ?_
      have hPc := hP.sub (ws' := []) [] rfl
      refine vp_callSi (va_Run.run (va_runS (As := [.int v0, .int v3]) (rest := [.int (1 : Int32), .int v2]) ⟨hx, hb, hml, hown, hts⟩ (met_Rows_target l dC dI cI cZ  v0 v3 _ hw) ⟨cB 2 hts kc_Rows_target ki_Rows kl_Rows_9 hd_Rows_target ⟨Nat.le_of_ble_eq_true rfl, Nat.le_of_ble_eq_true rfl⟩, hts _ ks_Rows_target⟩ (preS_ro hE hPc) rfl rfl hl.1 rfl (lv_room (Nat.le_of_ble_eq_true rfl)) d_Rows_isPermutation_23 ⟨Nat.le_of_ble_eq_true rfl, Nat.le_of_ble_eq_true rfl⟩)) (fun r23 hw => ?_)
      refine lv_ishl hx hb d_Rows_isPermutation_26 ?_
      refine lv_ior hx hb d_Rows_isPermutation_27 ?_
      refine lv_topi (fun x2_28 ex2_28 => ?_)
      have hw := hw x2_28 ex2_28
      refine lv_istore_n (lv' := [(2, .int x2_28), (0, .int v0), (1, .int v1), (3, .int v3)]) hx hb d_Rows_isPermutation_28 rfl hl (by decide) rfl (fun ls hl => ?_)
      obtain ⟨x3_29, ex3_29⟩ : ∃ y : Int32, y = v3 + 1 := ⟨_, rfl⟩
      have hw := hw x3_29 ex3_29
      refine lv_iinc (v := x3_29) (lv' := [(3, .int x3_29), (2, .int x2_28), (0, .int v0), (1, .int v1)]) hx hb d_Rows_isPermutation_29 hl (k := 3) rfl (by rw [ex3_29]; rfl) (by decide) rfl (fun ls hl => ?_)
      refine lv_goto (tgt := 14) hx hb d_Rows_isPermutation_32 (by decide) ?_
      exact ih x2_28 x3_29 hw ls (lv_sub hl [2, 3, 1, 0] rfl)
set_option maxHeartbeats 4000000 in
set_option maxRecDepth 100000 in
theorem met_Rows_isPermutation (l : Launch) (dC : Nat → ClassId) (dI : Nat → Nat → Nat) (cI cZ : ClassId) (a1 : Int32) (a2 : Int32) (post : Int32 → Prop) (hw : wp_Rows_isPermutation post a1 a2) : Met l y_Rows_isPermutation (Cond.code y_Rows_isPermutation b_Rows_isPermutation 4 (some .boolean) :: gw) rm_Rows_isPermutation (va_Pc [.int a1, .int a2] (fun U => EV (dC, dI) cI cZ U ∧ va_P (dC, dI) classes [] U.heap)) (vp_Si post) 0 0 (fun _ => False) := by
  refine Met.ofW (cc := b_Rows_isPermutation) (maxL := 4) (ret := (some .boolean)) (by decide) rfl ?_
  intro p e s m args below meth c s₁ B hml hv
  obtain ⟨rfl, hE, hP⟩ := hv
  have C := CX.of (own := R_Rows) (D := (dC, dI)) (cI := cI) (cZ := cZ) B hml rfl hE
  obtain ⟨hx, hb, hr, -, hown, hts, hlocks, -⟩ := id C
  have hl := lv_entry ([.int a1, .int a2]) (n := 4) (Nat.le_of_ble_eq_true rfl)
  rw [lg_entry_eq]
  generalize (lg_sl ([.int a1, .int a2]) ++ List.replicate (4 - (lg_sl ([.int a1, .int a2])).length) Slot.unset).toArray = ls at hl ⊢
  have hl : lv_has ls 4 [(0, .int a1), (1, .int a2)] := hl
  unfold wp_Rows_isPermutation at hw
  refine lv_iload_n hx hb d_Rows_isPermutation_0 rfl (lv_at hl 0 rfl) ?_
  refine lv_iconst (v := (3 : Int32)) hx hb d_Rows_isPermutation_1 (by decide) ?_
  refine lv_iload_n hx hb d_Rows_isPermutation_2 rfl (lv_at hl 1 rfl) ?_
  refine lv_imul hx hb d_Rows_isPermutation_3 ?_
  refine lv_iushr (v := (a1.toUInt32 >>> (((3 : Int32) * a2).toUInt32 &&& Int32.toUInt32 31)).toInt32) hx hb d_Rows_isPermutation_4 rfl ?_
  refine lv_if_eq (tgt := 10) hx hb d_Rows_isPermutation_5 (by decide) (fun c5 => ?_) (fun c5 => ?_)
  · have hw := hw.1 c5
    refine lv_iconst (v := (0 : Int32)) hx hb d_Rows_isPermutation_10 (by decide) ?_
    refine lv_istore_n (lv' := [(2, .int (0 : Int32)), (0, .int a1), (1, .int a2)]) hx hb d_Rows_isPermutation_11 rfl hl (by decide) rfl (fun ls hl => ?_)
    refine lv_iconst (v := (0 : Int32)) hx hb d_Rows_isPermutation_12 (by decide) ?_
    refine lv_istore_n (lv' := [(3, .int (0 : Int32)), (2, .int (0 : Int32)), (0, .int a1), (1, .int a2)]) hx hb d_Rows_isPermutation_13 rfl hl (by decide) rfl (fun ls hl => ?_)
    obtain ⟨n14, hw⟩ := hw
    exact qL_Rows_isPermutation_14 C post  a1 a2 hP  n14 (0 : Int32) (0 : Int32) hw ls (lv_sub hl [2, 3, 1, 0] rfl)
  · have hw := hw.2 c5
    refine lv_iconst (v := (0 : Int32)) hx hb d_Rows_isPermutation_8 (by decide) ?_
    exact W.zret (v := (0 : Int32)) hx hb hr rfl (fun t ht hW => ⟨(0 : Int32), rfl, hw, by rw [ht]⟩) (fun _ h => by cases h) d_Rows_isPermutation_9

-- SwapOrbits$Rows.identity(I)I
abbrev rm_Rows_identity : Room := { frames := 0, cells := 0, slots := 0, locals := 0 }
def L_Rows_identity_4b (post : Int32 → Prop) (v0 : Int32) (K4 : Int32 → Int32 → Prop) (v1 : Int32) (v2 : Int32) : Prop := (v0 ≤ v2 → post v1) ∧ (¬ v0 ≤ v2 → ∀ x1_16 : Int32, x1_16 = v1 ||| (v2 <<< (((3 : Int32) * v2) &&& 31)) → (∀ x2_17 : Int32, x2_17 = v2 + 1 → (K4 x1_16 x2_17)))
def L_Rows_identity_4 (post : Int32 → Prop) (v0 : Int32) : Nat → Int32 → Int32 → Prop
  | 0, _, _ => False
  | n + 1, v1, v2 => L_Rows_identity_4b post v0 (L_Rows_identity_4 post v0 n) v1 v2
def wp_Rows_identity (post : Int32 → Prop) (a1 : Int32) : Prop := ∃ n, L_Rows_identity_4 post a1 n (0 : Int32) (0 : Int32)
set_option maxHeartbeats 4000000 in
set_option maxRecDepth 100000 in
theorem qL_Rows_identity_4 {p : Program} {l : Launch} {e : Env} {s : State} {m : MethodId} {args : Array Value} {below : List Frame} {meth : Method} {c : Code} {dC : Nat → ClassId} {dI : Nat → Nat → Nat} {cI cZ : ClassId} (C : CX p s m args meth c R_Rows b_Rows_identity 3 (some .int) (dC, dI) cI cZ) (post : Int32 → Prop) (v0 : Int32) (hP : va_P (dC, dI) classes [] s.heap) : ∀ (n : Nat) (v1 : Int32) (v2 : Int32) , L_Rows_identity_4 post v0 n v1 v2 → ∀ (ls : Array Slot), lv_has ls 3 [(0, .int v0), (1, .int v1), (2, .int v2)] → W p l e rm_Rows_identity s m args below meth c s.heap [] 0 0 (MQ below (vp_Si post) args s 0 0 (fun _ => False)) (F0 m 4 ls []) := by
  obtain ⟨hx, hb, hr, hml, hown, hts, hlocks, hE⟩ := id C
  intro n
  induction n with
  | zero =>
    intro v1 v2 hw
    exact (show False from hw).elim
  | succ n ih =>
    intro v1 v2 hw ls hl
    have hw : L_Rows_identity_4b post v0 (L_Rows_identity_4 post v0 n) v1 v2 := hw
    unfold L_Rows_identity_4b at hw
    refine lv_iload_n hx hb d_Rows_identity_4 rfl (lv_at hl 2 rfl) ?_
    refine lv_iload_n hx hb d_Rows_identity_5 rfl (lv_at hl 0 rfl) ?_
    refine lv_icmp_ge (tgt := 23) hx hb d_Rows_identity_6 (by decide) (fun c6 => ?_) (fun c6 => ?_)
    · have hw := hw.1 c6
      refine lv_iload_n hx hb d_Rows_identity_23 rfl (lv_at hl 1 rfl) ?_
      exact W.iret (v := v1) hx hb hr (fun t ht hW => ⟨v1, rfl, hw, by rw [ht]⟩) (fun _ h => by cases h) d_Rows_identity_24
    · have hw := hw.2 c6
      refine lv_iload_n hx hb d_Rows_identity_9 rfl (lv_at hl 1 rfl) ?_
      refine lv_iload_n hx hb d_Rows_identity_10 rfl (lv_at hl 2 rfl) ?_
      refine lv_iconst (v := (3 : Int32)) hx hb d_Rows_identity_11 (by decide) ?_
      refine lv_iload_n hx hb d_Rows_identity_12 rfl (lv_at hl 2 rfl) ?_
      refine lv_imul hx hb d_Rows_identity_13 ?_
      refine lv_ishl hx hb d_Rows_identity_14 ?_
      refine lv_ior hx hb d_Rows_identity_15 ?_
      refine lv_topi (fun x1_16 ex1_16 => ?_)
      have hw := hw x1_16 ex1_16
      refine lv_istore_n (lv' := [(1, .int x1_16), (0, .int v0), (2, .int v2)]) hx hb d_Rows_identity_16 rfl hl (by decide) rfl (fun ls hl => ?_)
      obtain ⟨x2_17, ex2_17⟩ : ∃ y : Int32, y = v2 + 1 := ⟨_, rfl⟩
      have hw := hw x2_17 ex2_17
      refine lv_iinc (v := x2_17) (lv' := [(2, .int x2_17), (1, .int x1_16), (0, .int v0)]) hx hb d_Rows_identity_17 hl (k := 2) rfl (by rw [ex2_17]; rfl) (by decide) rfl (fun ls hl => ?_)
      refine lv_goto (tgt := 4) hx hb d_Rows_identity_20 (by decide) ?_
      exact ih x1_16 x2_17 hw ls (lv_sub hl [2, 1, 0] rfl)
set_option maxHeartbeats 4000000 in
set_option maxRecDepth 100000 in
theorem met_Rows_identity (l : Launch) (dC : Nat → ClassId) (dI : Nat → Nat → Nat) (cI cZ : ClassId) (a1 : Int32) (post : Int32 → Prop) (hw : wp_Rows_identity post a1) : Met l y_Rows_identity (Cond.code y_Rows_identity b_Rows_identity 3 (some .int) :: gw) rm_Rows_identity (va_Pc [.int a1] (fun U => EV (dC, dI) cI cZ U ∧ va_P (dC, dI) classes [] U.heap)) (vp_Si post) 0 0 (fun _ => False) := by
  refine Met.ofW (cc := b_Rows_identity) (maxL := 3) (ret := (some .int)) (by decide) rfl ?_
  intro p e s m args below meth c s₁ B hml hv
  obtain ⟨rfl, hE, hP⟩ := hv
  have C := CX.of (own := R_Rows) (D := (dC, dI)) (cI := cI) (cZ := cZ) B hml rfl hE
  obtain ⟨hx, hb, hr, -, hown, hts, hlocks, -⟩ := id C
  have hl := lv_entry ([.int a1]) (n := 3) (Nat.le_of_ble_eq_true rfl)
  rw [lg_entry_eq]
  generalize (lg_sl ([.int a1]) ++ List.replicate (3 - (lg_sl ([.int a1])).length) Slot.unset).toArray = ls at hl ⊢
  have hl : lv_has ls 3 [(0, .int a1)] := hl
  unfold wp_Rows_identity at hw
  refine lv_iconst (v := (0 : Int32)) hx hb d_Rows_identity_0 (by decide) ?_
  refine lv_istore_n (lv' := [(1, .int (0 : Int32)), (0, .int a1)]) hx hb d_Rows_identity_1 rfl hl (by decide) rfl (fun ls hl => ?_)
  refine lv_iconst (v := (0 : Int32)) hx hb d_Rows_identity_2 (by decide) ?_
  refine lv_istore_n (lv' := [(2, .int (0 : Int32)), (1, .int (0 : Int32)), (0, .int a1)]) hx hb d_Rows_identity_3 rfl hl (by decide) rfl (fun ls hl => ?_)
  obtain ⟨n4, hw⟩ := hw
  exact qL_Rows_identity_4 C post  a1 hP  n4 (0 : Int32) (0 : Int32) hw ls (lv_sub hl [2, 1, 0] rfl)

-- SwapOrbits$Rows.chain(III)I
abbrev rm_Rows_chain : Room := { frames := 1, cells := 0, slots := 0, locals := 21 }
def L_Rows_chain_5b (post : Int32 → Prop) (v0 : Int32) (v1 : Int32) (v2 : Int32) (K5 : Int32 → Int32 → Prop) (v3 : Int32) (v4 : Int32) : Prop := (v2 ≤ v4 → post v3) ∧ (¬ v2 ≤ v4 → wp_Rows_target (fun r16 => wp_Rows_target (fun r19 => ∀ x3_28 : Int32, x3_28 = v3 ||| (r19 <<< (((3 : Int32) * v4) &&& 31)) → (∀ x4_29 : Int32, x4_29 = v4 + 1 → (K5 x3_28 x4_29))) v1 r16) v0 v4)
def L_Rows_chain_5 (post : Int32 → Prop) (v0 : Int32) (v1 : Int32) (v2 : Int32) : Nat → Int32 → Int32 → Prop
  | 0, _, _ => False
  | n + 1, v3, v4 => L_Rows_chain_5b post v0 v1 v2 (L_Rows_chain_5 post v0 v1 v2 n) v3 v4
def wp_Rows_chain (post : Int32 → Prop) (a1 : Int32) (a2 : Int32) (a3 : Int32) : Prop := ∃ n, L_Rows_chain_5 post a1 a2 a3 n (0 : Int32) (0 : Int32)
set_option maxHeartbeats 4000000 in
set_option maxRecDepth 100000 in
theorem qL_Rows_chain_5 {p : Program} {l : Launch} {e : Env} {s : State} {m : MethodId} {args : Array Value} {below : List Frame} {meth : Method} {c : Code} {dC : Nat → ClassId} {dI : Nat → Nat → Nat} {cI cZ : ClassId} (C : CX p s m args meth c R_Rows b_Rows_chain 5 (some .int) (dC, dI) cI cZ) (post : Int32 → Prop) (v0 : Int32) (v1 : Int32) (v2 : Int32) (hP : va_P (dC, dI) classes [] s.heap) : ∀ (n : Nat) (v3 : Int32) (v4 : Int32) , L_Rows_chain_5 post v0 v1 v2 n v3 v4 → ∀ (ls : Array Slot), lv_has ls 5 [(0, .int v0), (1, .int v1), (2, .int v2), (3, .int v3), (4, .int v4)] → W p l e rm_Rows_chain s m args below meth c s.heap [] 0 0 (MQ below (vp_Si post) args s 0 0 (fun _ => False)) (F0 m 5 ls []) := by
  obtain ⟨hx, hb, hr, hml, hown, hts, hlocks, hE⟩ := id C
  intro n
  induction n with
  | zero =>
    intro v3 v4 hw
    exact (show False from hw).elim
  | succ n ih =>
    intro v3 v4 hw ls hl
    have hw : L_Rows_chain_5b post v0 v1 v2 (L_Rows_chain_5 post v0 v1 v2 n) v3 v4 := hw
    unfold L_Rows_chain_5b at hw
    refine lv_iload hx hb d_Rows_chain_5 (lv_at hl 4 rfl) ?_
    refine lv_iload_n hx hb d_Rows_chain_7 rfl (lv_at hl 2 rfl) ?_
    refine lv_icmp_ge (tgt := 35) hx hb d_Rows_chain_8 (by decide) (fun c8 => ?_) (fun c8 => ?_)
    · have hw := hw.1 c8
      refine lv_iload_n hx hb d_Rows_chain_35 rfl (lv_at hl 3 rfl) ?_
      exact W.iret (v := v3) hx hb hr (fun t ht hW => ⟨v3, rfl, hw, by rw [ht]⟩) (fun _ h => by cases h) d_Rows_chain_36
    · have hw := hw.2 c8
      refine lv_iload_n hx hb d_Rows_chain_11 rfl (lv_at hl 3 rfl) ?_
      refine lv_iload_n hx hb d_Rows_chain_12 rfl (lv_at hl 1 rfl) ?_
      refine lv_iload_n hx hb d_Rows_chain_13 rfl (lv_at hl 0 rfl) ?_
      refine lv_iload hx hb d_Rows_chain_14 (lv_at hl 4 rfl) ?_
      have hPc := hP.sub (ws' := []) [] rfl
      refine vp_callSi (va_Run.run (va_runS (As := [.int v0, .int v4]) (rest := [.int v1, .int v3]) ⟨hx, hb, hml, hown, hts⟩ (met_Rows_target l dC dI cI cZ  v0 v4 _ hw) ⟨cB 2 hts kc_Rows_target ki_Rows kl_Rows_9 hd_Rows_target ⟨Nat.le_of_ble_eq_true rfl, Nat.le_of_ble_eq_true rfl⟩, hts _ ks_Rows_target⟩ (preS_ro hE hPc) rfl rfl hl.1 rfl (lv_room (Nat.le_of_ble_eq_true rfl)) d_Rows_chain_16 ⟨Nat.le_of_ble_eq_true rfl, Nat.le_of_ble_eq_true rfl⟩)) (fun r16 hw => ?_)
      have hPc := hP.sub (ws' := []) [] rfl
      refine vp_callSi (va_Run.run (va_runS (As := [.int v1, .int r16]) (rest := [.int v3]) ⟨hx, hb, hml, hown, hts⟩ (met_Rows_target l dC dI cI cZ  v1 r16 _ hw) ⟨cB 2 hts kc_Rows_target ki_Rows kl_Rows_9 hd_Rows_target ⟨Nat.le_of_ble_eq_true rfl, Nat.le_of_ble_eq_true rfl⟩, hts _ ks_Rows_target⟩ (preS_ro hE hPc) rfl rfl hl.1 rfl (lv_room (Nat.le_of_ble_eq_true rfl)) d_Rows_chain_19 ⟨Nat.le_of_ble_eq_true rfl, Nat.le_of_ble_eq_true rfl⟩)) (fun r19 hw => ?_)
      refine lv_iconst (v := (3 : Int32)) hx hb d_Rows_chain_22 (by decide) ?_
      refine lv_iload hx hb d_Rows_chain_23 (lv_at hl 4 rfl) ?_
      refine lv_imul hx hb d_Rows_chain_25 ?_
      refine lv_ishl hx hb d_Rows_chain_26 ?_
      refine lv_ior hx hb d_Rows_chain_27 ?_
      refine lv_topi (fun x3_28 ex3_28 => ?_)
      have hw := hw x3_28 ex3_28
      refine lv_istore_n (lv' := [(3, .int x3_28), (0, .int v0), (1, .int v1), (2, .int v2), (4, .int v4)]) hx hb d_Rows_chain_28 rfl hl (by decide) rfl (fun ls hl => ?_)
      obtain ⟨x4_29, ex4_29⟩ : ∃ y : Int32, y = v4 + 1 := ⟨_, rfl⟩
      have hw := hw x4_29 ex4_29
      refine lv_iinc (v := x4_29) (lv' := [(4, .int x4_29), (3, .int x3_28), (0, .int v0), (1, .int v1), (2, .int v2)]) hx hb d_Rows_chain_29 hl (k := 4) rfl (by rw [ex4_29]; rfl) (by decide) rfl (fun ls hl => ?_)
      refine lv_goto (tgt := 5) hx hb d_Rows_chain_32 (by decide) ?_
      exact ih x3_28 x4_29 hw ls (lv_sub hl [2, 3, 4, 1, 0] rfl)
set_option maxHeartbeats 4000000 in
set_option maxRecDepth 100000 in
theorem met_Rows_chain (l : Launch) (dC : Nat → ClassId) (dI : Nat → Nat → Nat) (cI cZ : ClassId) (a1 : Int32) (a2 : Int32) (a3 : Int32) (post : Int32 → Prop) (hw : wp_Rows_chain post a1 a2 a3) : Met l y_Rows_chain (Cond.code y_Rows_chain b_Rows_chain 5 (some .int) :: gw) rm_Rows_chain (va_Pc [.int a1, .int a2, .int a3] (fun U => EV (dC, dI) cI cZ U ∧ va_P (dC, dI) classes [] U.heap)) (vp_Si post) 0 0 (fun _ => False) := by
  refine Met.ofW (cc := b_Rows_chain) (maxL := 5) (ret := (some .int)) (by decide) rfl ?_
  intro p e s m args below meth c s₁ B hml hv
  obtain ⟨rfl, hE, hP⟩ := hv
  have C := CX.of (own := R_Rows) (D := (dC, dI)) (cI := cI) (cZ := cZ) B hml rfl hE
  obtain ⟨hx, hb, hr, -, hown, hts, hlocks, -⟩ := id C
  have hl := lv_entry ([.int a1, .int a2, .int a3]) (n := 5) (Nat.le_of_ble_eq_true rfl)
  rw [lg_entry_eq]
  generalize (lg_sl ([.int a1, .int a2, .int a3]) ++ List.replicate (5 - (lg_sl ([.int a1, .int a2, .int a3])).length) Slot.unset).toArray = ls at hl ⊢
  have hl : lv_has ls 5 [(0, .int a1), (1, .int a2), (2, .int a3)] := hl
  unfold wp_Rows_chain at hw
  refine lv_iconst (v := (0 : Int32)) hx hb d_Rows_chain_0 (by decide) ?_
  refine lv_istore_n (lv' := [(3, .int (0 : Int32)), (0, .int a1), (1, .int a2), (2, .int a3)]) hx hb d_Rows_chain_1 rfl hl (by decide) rfl (fun ls hl => ?_)
  refine lv_iconst (v := (0 : Int32)) hx hb d_Rows_chain_2 (by decide) ?_
  refine lv_istore (lv' := [(4, .int (0 : Int32)), (3, .int (0 : Int32)), (0, .int a1), (1, .int a2), (2, .int a3)]) hx hb d_Rows_chain_3 hl (by decide) rfl (fun ls hl => ?_)
  obtain ⟨n5, hw⟩ := hw
  exact qL_Rows_chain_5 C post  a1 a2 a3 hP  n5 (0 : Int32) (0 : Int32) hw ls (lv_sub hl [2, 3, 4, 1, 0] rfl)

-- SwapOrbits$Rows.place(II)I
abbrev rm_Rows_place : Room := { frames := 1, cells := 0, slots := 0, locals := 21 }
def L_Rows_place_7b (post : Int32 → Prop) (v0 : Int32) (v1 : Int32) (K7 : Int32 → Int32 → Int32 → Prop) (v2 : Int32) (v3 : Int32) (v4 : Int32) : Prop := (v1 ≤ v4 → post v2) ∧ (¬ v1 ≤ v4 → wp_Rows_target (fun r17 => ∀ x5_21 : Int32, x5_21 = (1 : Int32) <<< (r17 &&& 31) → (wp_Rows_target (fun r26 => wp_Integer_bitCount (fun r35 => ∀ x6_39 : Int32, x6_39 = r26 - r35 → (∀ x2_50 : Int32, x2_50 = (v2 * (v1 - v4)) + x6_39 → (∀ x3_55 : Int32, x3_55 = v3 ||| x5_21 → (∀ x4_56 : Int32, x4_56 = v4 + 1 → (K7 x2_50 x3_55 x4_56))))) (v3 &&& (x5_21 - (1 : Int32)))) v0 v4)) v0 v4)
def L_Rows_place_7 (post : Int32 → Prop) (v0 : Int32) (v1 : Int32) : Nat → Int32 → Int32 → Int32 → Prop
  | 0, _, _, _ => False
  | n + 1, v2, v3, v4 => L_Rows_place_7b post v0 v1 (L_Rows_place_7 post v0 v1 n) v2 v3 v4
def wp_Rows_place (post : Int32 → Prop) (a1 : Int32) (a2 : Int32) : Prop := ∃ n, L_Rows_place_7 post a1 a2 n (0 : Int32) (0 : Int32) (0 : Int32)
set_option maxHeartbeats 4000000 in
set_option maxRecDepth 100000 in
theorem qL_Rows_place_7 {p : Program} {l : Launch} {e : Env} {s : State} {m : MethodId} {args : Array Value} {below : List Frame} {meth : Method} {c : Code} {dC : Nat → ClassId} {dI : Nat → Nat → Nat} {cI cZ : ClassId} (C : CX p s m args meth c R_Rows b_Rows_place 7 (some .int) (dC, dI) cI cZ) (post : Int32 → Prop) (v0 : Int32) (v1 : Int32) (hP : va_P (dC, dI) classes [] s.heap) : ∀ (n : Nat) (v2 : Int32) (v3 : Int32) (v4 : Int32) , L_Rows_place_7 post v0 v1 n v2 v3 v4 → ∀ (ls : Array Slot), lv_has ls 7 [(0, .int v0), (1, .int v1), (2, .int v2), (3, .int v3), (4, .int v4)] → W p l e rm_Rows_place s m args below meth c s.heap [] 0 0 (MQ below (vp_Si post) args s 0 0 (fun _ => False)) (F0 m 7 ls []) := by
  obtain ⟨hx, hb, hr, hml, hown, hts, hlocks, hE⟩ := id C
  intro n
  induction n with
  | zero =>
    intro v2 v3 v4 hw
    exact (show False from hw).elim
  | succ n ih =>
    intro v2 v3 v4 hw ls hl
    have hw : L_Rows_place_7b post v0 v1 (L_Rows_place_7 post v0 v1 n) v2 v3 v4 := hw
    unfold L_Rows_place_7b at hw
    refine lv_iload hx hb d_Rows_place_7 (lv_at hl 4 rfl) ?_
    refine lv_iload_n hx hb d_Rows_place_9 rfl (lv_at hl 1 rfl) ?_
    refine lv_icmp_ge (tgt := 62) hx hb d_Rows_place_10 (by decide) (fun c10 => ?_) (fun c10 => ?_)
    · have hw := hw.1 c10
      refine lv_iload_n hx hb d_Rows_place_62 rfl (lv_at hl 2 rfl) ?_
      exact W.iret (v := v2) hx hb hr (fun t ht hW => ⟨v2, rfl, hw, by rw [ht]⟩) (fun _ h => by cases h) d_Rows_place_63
    · have hw := hw.2 c10
      refine lv_iconst (v := (1 : Int32)) hx hb d_Rows_place_13 (by decide) ?_
      refine lv_iload_n hx hb d_Rows_place_14 rfl (lv_at hl 0 rfl) ?_
      refine lv_iload hx hb d_Rows_place_15 (lv_at hl 4 rfl) ?_
      have hPc := hP.sub (ws' := []) [] rfl
      refine vp_callSi (va_Run.run (va_runS (As := [.int v0, .int v4]) (rest := [.int (1 : Int32)]) ⟨hx, hb, hml, hown, hts⟩ (met_Rows_target l dC dI cI cZ  v0 v4 _ hw) ⟨cB 2 hts kc_Rows_target ki_Rows kl_Rows_9 hd_Rows_target ⟨Nat.le_of_ble_eq_true rfl, Nat.le_of_ble_eq_true rfl⟩, hts _ ks_Rows_target⟩ (preS_ro hE hPc) rfl rfl hl.1 rfl (lv_room (Nat.le_of_ble_eq_true rfl)) d_Rows_place_17 ⟨Nat.le_of_ble_eq_true rfl, Nat.le_of_ble_eq_true rfl⟩)) (fun r17 hw => ?_)
      refine lv_ishl hx hb d_Rows_place_20 ?_
      refine lv_topi (fun x5_21 ex5_21 => ?_)
      have hw := hw x5_21 ex5_21
      refine lv_istore (lv' := [(5, .int x5_21), (0, .int v0), (1, .int v1), (2, .int v2), (3, .int v3), (4, .int v4)]) hx hb d_Rows_place_21 hl (by decide) rfl (fun ls hl => ?_)
      refine lv_iload_n hx hb d_Rows_place_23 rfl (lv_at hl 1 rfl) ?_
      refine lv_iload hx hb d_Rows_place_24 (lv_at hl 5 rfl) ?_
      have hPc := hP.sub (ws' := []) [] rfl
      refine vp_callSi (va_Run.run (va_runS (As := [.int v0, .int v4]) (rest := []) ⟨hx, hb, hml, hown, hts⟩ (met_Rows_target l dC dI cI cZ  v0 v4 _ hw) ⟨cB 2 hts kc_Rows_target ki_Rows kl_Rows_9 hd_Rows_target ⟨Nat.le_of_ble_eq_true rfl, Nat.le_of_ble_eq_true rfl⟩, hts _ ks_Rows_target⟩ (preS_ro hE hPc) rfl rfl hl.1 rfl (lv_room (Nat.le_of_ble_eq_true rfl)) d_Rows_place_26 ⟨Nat.le_of_ble_eq_true rfl, Nat.le_of_ble_eq_true rfl⟩)) (fun r26 hw => ?_)
      refine lv_iload_n hx hb d_Rows_place_29 rfl (lv_at hl 4 rfl) ?_
      refine lv_iload hx hb d_Rows_place_30 (lv_at hl 0 rfl) ?_
      refine lv_iconst (v := (1 : Int32)) hx hb d_Rows_place_32 (by decide) ?_
      refine lv_isub hx hb d_Rows_place_33 ?_
      refine lv_iand hx hb d_Rows_place_34 ?_
      have hPc := hP.sub (ws' := []) [] rfl
      refine vp_callSi (va_Run.run (va_runS (As := [.int (v3 &&& (x5_21 - (1 : Int32)))]) (rest := [.int r26]) ⟨hx, hb, hml, hown, hts⟩ (met_Integer_bitCount l dC dI cI cZ  (v3 &&& (x5_21 - (1 : Int32))) _ hw) ⟨cB 1 hts kc_Integer_bitCount ki_Integer kl_Rows_15 hd_Integer_bitCount ⟨Nat.le_of_ble_eq_true rfl, Nat.le_of_ble_eq_true rfl⟩, hts _ ks_Integer_bitCount⟩ (preS_ro hE hPc) rfl rfl hl.1 rfl (lv_room (Nat.le_of_ble_eq_true rfl)) d_Rows_place_35 ⟨Nat.le_of_ble_eq_true rfl, Nat.le_of_ble_eq_true rfl⟩)) (fun r35 hw => ?_)
      refine lv_isub hx hb d_Rows_place_38 ?_
      refine lv_topi (fun x6_39 ex6_39 => ?_)
      have hw := hw x6_39 ex6_39
      refine lv_istore (lv' := [(6, .int x6_39), (5, .int x5_21), (0, .int v0), (1, .int v1), (2, .int v2), (3, .int v3), (4, .int v4)]) hx hb d_Rows_place_39 hl (by decide) rfl (fun ls hl => ?_)
      refine lv_iload_n hx hb d_Rows_place_41 rfl (lv_at hl 4 rfl) ?_
      refine lv_iload_n hx hb d_Rows_place_42 rfl (lv_at hl 3 rfl) ?_
      refine lv_iload hx hb d_Rows_place_43 (lv_at hl 6 rfl) ?_
      refine lv_isub hx hb d_Rows_place_45 ?_
      refine lv_imul hx hb d_Rows_place_46 ?_
      refine lv_iload hx hb d_Rows_place_47 (lv_at hl 0 rfl) ?_
      refine lv_iadd hx hb d_Rows_place_49 ?_
      refine lv_topi (fun x2_50 ex2_50 => ?_)
      have hw := hw x2_50 ex2_50
      refine lv_istore_n (lv' := [(2, .int x2_50), (6, .int x6_39), (5, .int x5_21), (0, .int v0), (1, .int v1), (3, .int v3), (4, .int v4)]) hx hb d_Rows_place_50 rfl hl (by decide) rfl (fun ls hl => ?_)
      refine lv_iload_n hx hb d_Rows_place_51 rfl (lv_at hl 5 rfl) ?_
      refine lv_iload hx hb d_Rows_place_52 (lv_at hl 2 rfl) ?_
      refine lv_ior hx hb d_Rows_place_54 ?_
      refine lv_topi (fun x3_55 ex3_55 => ?_)
      have hw := hw x3_55 ex3_55
      refine lv_istore_n (lv' := [(3, .int x3_55), (2, .int x2_50), (6, .int x6_39), (5, .int x5_21), (0, .int v0), (1, .int v1), (4, .int v4)]) hx hb d_Rows_place_55 rfl hl (by decide) rfl (fun ls hl => ?_)
      obtain ⟨x4_56, ex4_56⟩ : ∃ y : Int32, y = v4 + 1 := ⟨_, rfl⟩
      have hw := hw x4_56 ex4_56
      refine lv_iinc (v := x4_56) (lv' := [(4, .int x4_56), (3, .int x3_55), (2, .int x2_50), (6, .int x6_39), (5, .int x5_21), (0, .int v0), (1, .int v1)]) hx hb d_Rows_place_56 hl (k := 6) rfl (by rw [ex4_56]; rfl) (by decide) rfl (fun ls hl => ?_)
      refine lv_goto (tgt := 7) hx hb d_Rows_place_59 (by decide) ?_
      exact ih x2_50 x3_55 x4_56 hw ls (lv_sub hl [5, 6, 2, 1, 0] rfl)
set_option maxHeartbeats 4000000 in
set_option maxRecDepth 100000 in
theorem met_Rows_place (l : Launch) (dC : Nat → ClassId) (dI : Nat → Nat → Nat) (cI cZ : ClassId) (a1 : Int32) (a2 : Int32) (post : Int32 → Prop) (hw : wp_Rows_place post a1 a2) : Met l y_Rows_place (Cond.code y_Rows_place b_Rows_place 7 (some .int) :: gw) rm_Rows_place (va_Pc [.int a1, .int a2] (fun U => EV (dC, dI) cI cZ U ∧ va_P (dC, dI) classes [] U.heap)) (vp_Si post) 0 0 (fun _ => False) := by
  refine Met.ofW (cc := b_Rows_place) (maxL := 7) (ret := (some .int)) (by decide) rfl ?_
  intro p e s m args below meth c s₁ B hml hv
  obtain ⟨rfl, hE, hP⟩ := hv
  have C := CX.of (own := R_Rows) (D := (dC, dI)) (cI := cI) (cZ := cZ) B hml rfl hE
  obtain ⟨hx, hb, hr, -, hown, hts, hlocks, -⟩ := id C
  have hl := lv_entry ([.int a1, .int a2]) (n := 7) (Nat.le_of_ble_eq_true rfl)
  rw [lg_entry_eq]
  generalize (lg_sl ([.int a1, .int a2]) ++ List.replicate (7 - (lg_sl ([.int a1, .int a2])).length) Slot.unset).toArray = ls at hl ⊢
  have hl : lv_has ls 7 [(0, .int a1), (1, .int a2)] := hl
  unfold wp_Rows_place at hw
  refine lv_iconst (v := (0 : Int32)) hx hb d_Rows_place_0 (by decide) ?_
  refine lv_istore_n (lv' := [(2, .int (0 : Int32)), (0, .int a1), (1, .int a2)]) hx hb d_Rows_place_1 rfl hl (by decide) rfl (fun ls hl => ?_)
  refine lv_iconst (v := (0 : Int32)) hx hb d_Rows_place_2 (by decide) ?_
  refine lv_istore_n (lv' := [(3, .int (0 : Int32)), (2, .int (0 : Int32)), (0, .int a1), (1, .int a2)]) hx hb d_Rows_place_3 rfl hl (by decide) rfl (fun ls hl => ?_)
  refine lv_iconst (v := (0 : Int32)) hx hb d_Rows_place_4 (by decide) ?_
  refine lv_istore (lv' := [(4, .int (0 : Int32)), (3, .int (0 : Int32)), (2, .int (0 : Int32)), (0, .int a1), (1, .int a2)]) hx hb d_Rows_place_5 hl (by decide) rfl (fun ls hl => ?_)
  obtain ⟨n7, hw⟩ := hw
  exact qL_Rows_place_7 C post  a1 a2 hP  n7 (0 : Int32) (0 : Int32) (0 : Int32) hw ls (lv_sub hl [3, 4, 2, 1, 0] rfl)

-- SwapOrbits$Rows.cycleOf(III)I
abbrev rm_Rows_cycleOf : Room := { frames := 1, cells := 0, slots := 0, locals := 21 }
def L_Rows_cycleOf_8b (post : Int32 → Prop) (v0 : Int32) (v2 : Int32) (K8 : Int32 → Int32 → Int32 → Prop) (v3 : Int32) (v4 : Int32) (v5 : Int32) : Prop := (v2 ≤ v5 → post v3) ∧ (¬ v2 ≤ v5 → ∀ x3_20 : Int32, x3_20 = v3 ||| ((1 : Int32) <<< (v4 &&& 31)) → (wp_Rows_target (fun r24 => ∀ x5_29 : Int32, x5_29 = v5 + 1 → (K8 x3_20 r24 x5_29)) v0 v4))
def L_Rows_cycleOf_8 (post : Int32 → Prop) (v0 : Int32) (v2 : Int32) : Nat → Int32 → Int32 → Int32 → Prop
  | 0, _, _, _ => False
  | n + 1, v3, v4, v5 => L_Rows_cycleOf_8b post v0 v2 (L_Rows_cycleOf_8 post v0 v2 n) v3 v4 v5
def wp_Rows_cycleOf (post : Int32 → Prop) (a1 : Int32) (a2 : Int32) (a3 : Int32) : Prop := ∃ n, L_Rows_cycleOf_8 post a1 a3 n (0 : Int32) a2 (0 : Int32)
set_option maxHeartbeats 4000000 in
set_option maxRecDepth 100000 in
theorem qL_Rows_cycleOf_8 {p : Program} {l : Launch} {e : Env} {s : State} {m : MethodId} {args : Array Value} {below : List Frame} {meth : Method} {c : Code} {dC : Nat → ClassId} {dI : Nat → Nat → Nat} {cI cZ : ClassId} (C : CX p s m args meth c R_Rows b_Rows_cycleOf 6 (some .int) (dC, dI) cI cZ) (post : Int32 → Prop) (v0 : Int32) (v2 : Int32) (hP : va_P (dC, dI) classes [] s.heap) : ∀ (n : Nat) (v3 : Int32) (v4 : Int32) (v5 : Int32) , L_Rows_cycleOf_8 post v0 v2 n v3 v4 v5 → ∀ (ls : Array Slot), lv_has ls 6 [(0, .int v0), (2, .int v2), (3, .int v3), (4, .int v4), (5, .int v5)] → W p l e rm_Rows_cycleOf s m args below meth c s.heap [] 0 0 (MQ below (vp_Si post) args s 0 0 (fun _ => False)) (F0 m 8 ls []) := by
  obtain ⟨hx, hb, hr, hml, hown, hts, hlocks, hE⟩ := id C
  intro n
  induction n with
  | zero =>
    intro v3 v4 v5 hw
    exact (show False from hw).elim
  | succ n ih =>
    intro v3 v4 v5 hw ls hl
    have hw : L_Rows_cycleOf_8b post v0 v2 (L_Rows_cycleOf_8 post v0 v2 n) v3 v4 v5 := hw
    unfold L_Rows_cycleOf_8b at hw
    refine lv_iload hx hb d_Rows_cycleOf_8 (lv_at hl 4 rfl) ?_
    refine lv_iload_n hx hb d_Rows_cycleOf_10 rfl (lv_at hl 1 rfl) ?_
    refine lv_icmp_ge (tgt := 35) hx hb d_Rows_cycleOf_11 (by decide) (fun c11 => ?_) (fun c11 => ?_)
    · have hw := hw.1 c11
      refine lv_iload_n hx hb d_Rows_cycleOf_35 rfl (lv_at hl 2 rfl) ?_
      exact W.iret (v := v3) hx hb hr (fun t ht hW => ⟨v3, rfl, hw, by rw [ht]⟩) (fun _ h => by cases h) d_Rows_cycleOf_36
    · have hw := hw.2 c11
      refine lv_iload_n hx hb d_Rows_cycleOf_14 rfl (lv_at hl 2 rfl) ?_
      refine lv_iconst (v := (1 : Int32)) hx hb d_Rows_cycleOf_15 (by decide) ?_
      refine lv_iload hx hb d_Rows_cycleOf_16 (lv_at hl 3 rfl) ?_
      refine lv_ishl hx hb d_Rows_cycleOf_18 ?_
      refine lv_ior hx hb d_Rows_cycleOf_19 ?_
      refine lv_topi (fun x3_20 ex3_20 => ?_)
      have hw := hw x3_20 ex3_20
      refine lv_istore_n (lv' := [(3, .int x3_20), (0, .int v0), (2, .int v2), (4, .int v4), (5, .int v5)]) hx hb d_Rows_cycleOf_20 rfl hl (by decide) rfl (fun ls hl => ?_)
      refine lv_iload_n hx hb d_Rows_cycleOf_21 rfl (lv_at hl 1 rfl) ?_
      refine lv_iload hx hb d_Rows_cycleOf_22 (lv_at hl 3 rfl) ?_
      have hPc := hP.sub (ws' := []) [] rfl
      refine vp_callSi (va_Run.run (va_runS (As := [.int v0, .int v4]) (rest := []) ⟨hx, hb, hml, hown, hts⟩ (met_Rows_target l dC dI cI cZ  v0 v4 _ hw) ⟨cB 2 hts kc_Rows_target ki_Rows kl_Rows_9 hd_Rows_target ⟨Nat.le_of_ble_eq_true rfl, Nat.le_of_ble_eq_true rfl⟩, hts _ ks_Rows_target⟩ (preS_ro hE hPc) rfl rfl hl.1 rfl (lv_room (Nat.le_of_ble_eq_true rfl)) d_Rows_cycleOf_24 ⟨Nat.le_of_ble_eq_true rfl, Nat.le_of_ble_eq_true rfl⟩)) (fun r24 hw => ?_)
      refine lv_istore (lv' := [(4, .int r24), (3, .int x3_20), (0, .int v0), (2, .int v2), (5, .int v5)]) hx hb d_Rows_cycleOf_27 hl (by decide) rfl (fun ls hl => ?_)
      obtain ⟨x5_29, ex5_29⟩ : ∃ y : Int32, y = v5 + 1 := ⟨_, rfl⟩
      have hw := hw x5_29 ex5_29
      refine lv_iinc (v := x5_29) (lv' := [(5, .int x5_29), (4, .int r24), (3, .int x3_20), (0, .int v0), (2, .int v2)]) hx hb d_Rows_cycleOf_29 hl (k := 4) rfl (by rw [ex5_29]; rfl) (by decide) rfl (fun ls hl => ?_)
      refine lv_goto (tgt := 8) hx hb d_Rows_cycleOf_32 (by decide) ?_
      exact ih x3_20 r24 x5_29 hw ls (lv_sub hl [3, 4, 2, 1, 0] rfl)
set_option maxHeartbeats 4000000 in
set_option maxRecDepth 100000 in
theorem met_Rows_cycleOf (l : Launch) (dC : Nat → ClassId) (dI : Nat → Nat → Nat) (cI cZ : ClassId) (a1 : Int32) (a2 : Int32) (a3 : Int32) (post : Int32 → Prop) (hw : wp_Rows_cycleOf post a1 a2 a3) : Met l y_Rows_cycleOf (Cond.code y_Rows_cycleOf b_Rows_cycleOf 6 (some .int) :: gw) rm_Rows_cycleOf (va_Pc [.int a1, .int a2, .int a3] (fun U => EV (dC, dI) cI cZ U ∧ va_P (dC, dI) classes [] U.heap)) (vp_Si post) 0 0 (fun _ => False) := by
  refine Met.ofW (cc := b_Rows_cycleOf) (maxL := 6) (ret := (some .int)) (by decide) rfl ?_
  intro p e s m args below meth c s₁ B hml hv
  obtain ⟨rfl, hE, hP⟩ := hv
  have C := CX.of (own := R_Rows) (D := (dC, dI)) (cI := cI) (cZ := cZ) B hml rfl hE
  obtain ⟨hx, hb, hr, -, hown, hts, hlocks, -⟩ := id C
  have hl := lv_entry ([.int a1, .int a2, .int a3]) (n := 6) (Nat.le_of_ble_eq_true rfl)
  rw [lg_entry_eq]
  generalize (lg_sl ([.int a1, .int a2, .int a3]) ++ List.replicate (6 - (lg_sl ([.int a1, .int a2, .int a3])).length) Slot.unset).toArray = ls at hl ⊢
  have hl : lv_has ls 6 [(0, .int a1), (1, .int a2), (2, .int a3)] := hl
  unfold wp_Rows_cycleOf at hw
  refine lv_iconst (v := (0 : Int32)) hx hb d_Rows_cycleOf_0 (by decide) ?_
  refine lv_istore_n (lv' := [(3, .int (0 : Int32)), (0, .int a1), (1, .int a2), (2, .int a3)]) hx hb d_Rows_cycleOf_1 rfl hl (by decide) rfl (fun ls hl => ?_)
  refine lv_iload_n hx hb d_Rows_cycleOf_2 rfl (lv_at hl 2 rfl) ?_
  refine lv_istore (lv' := [(4, .int a2), (3, .int (0 : Int32)), (0, .int a1), (1, .int a2), (2, .int a3)]) hx hb d_Rows_cycleOf_3 hl (by decide) rfl (fun ls hl => ?_)
  refine lv_iconst (v := (0 : Int32)) hx hb d_Rows_cycleOf_5 (by decide) ?_
  refine lv_istore (lv' := [(5, .int (0 : Int32)), (4, .int a2), (3, .int (0 : Int32)), (0, .int a1), (1, .int a2), (2, .int a3)]) hx hb d_Rows_cycleOf_6 hl (by decide) rfl (fun ls hl => ?_)
  obtain ⟨n8, hw⟩ := hw
  exact qL_Rows_cycleOf_8 C post  a1 a3 hP  n8 (0 : Int32) a2 (0 : Int32) hw ls (lv_sub hl [3, 5, 2, 1, 0] rfl)

-- SwapOrbits$Rows.countCycles(II)I
abbrev rm_Rows_countCycles : Room := { frames := 2, cells := 0, slots := 0, locals := 46 }
def L_Rows_countCycles_7b (post : Int32 → Prop) (v0 : Int32) (v1 : Int32) (K7 : Int32 → Int32 → Int32 → Prop) (v2 : Int32) (v3 : Int32) (v4 : Int32) : Prop := (v1 ≤ v4 → post v3) ∧ (¬ v1 ≤ v4 → ((((v2.toUInt32 >>> (v4.toUInt32 &&& Int32.toUInt32 31)).toInt32) &&& (1 : Int32)) = 0 → wp_Rows_cycleOf (fun r27 => ∀ x2_31 : Int32, x2_31 = v2 ||| r27 → (∀ x3_32 : Int32, x3_32 = v3 + 1 → (∀ x4_35 : Int32, x4_35 = v4 + 1 → (K7 x2_31 x3_32 x4_35)))) v0 v4 v1) ∧ (¬ (((v2.toUInt32 >>> (v4.toUInt32 &&& Int32.toUInt32 31)).toInt32) &&& (1 : Int32)) = 0 → ∀ x4_35 : Int32, x4_35 = v4 + 1 → (K7 v2 v3 x4_35)))
def L_Rows_countCycles_7 (post : Int32 → Prop) (v0 : Int32) (v1 : Int32) : Nat → Int32 → Int32 → Int32 → Prop
  | 0, _, _, _ => False
  | n + 1, v2, v3, v4 => L_Rows_countCycles_7b post v0 v1 (L_Rows_countCycles_7 post v0 v1 n) v2 v3 v4
def wp_Rows_countCycles (post : Int32 → Prop) (a1 : Int32) (a2 : Int32) : Prop := ∃ n, L_Rows_countCycles_7 post a1 a2 n (0 : Int32) (0 : Int32) (0 : Int32)
set_option maxHeartbeats 4000000 in
set_option maxRecDepth 100000 in
theorem qL_Rows_countCycles_7 {p : Program} {l : Launch} {e : Env} {s : State} {m : MethodId} {args : Array Value} {below : List Frame} {meth : Method} {c : Code} {dC : Nat → ClassId} {dI : Nat → Nat → Nat} {cI cZ : ClassId} (C : CX p s m args meth c R_Rows b_Rows_countCycles 5 (some .int) (dC, dI) cI cZ) (post : Int32 → Prop) (v0 : Int32) (v1 : Int32) (hP : va_P (dC, dI) classes [] s.heap) : ∀ (n : Nat) (v2 : Int32) (v3 : Int32) (v4 : Int32) , L_Rows_countCycles_7 post v0 v1 n v2 v3 v4 → ∀ (ls : Array Slot), lv_has ls 5 [(0, .int v0), (1, .int v1), (2, .int v2), (3, .int v3), (4, .int v4)] → W p l e rm_Rows_countCycles s m args below meth c s.heap [] 0 0 (MQ below (vp_Si post) args s 0 0 (fun _ => False)) (F0 m 7 ls []) := by
  obtain ⟨hx, hb, hr, hml, hown, hts, hlocks, hE⟩ := id C
  intro n
  induction n with
  | zero =>
    intro v2 v3 v4 hw
    exact (show False from hw).elim
  | succ n ih =>
    intro v2 v3 v4 hw ls hl
    have hw : L_Rows_countCycles_7b post v0 v1 (L_Rows_countCycles_7 post v0 v1 n) v2 v3 v4 := hw
    unfold L_Rows_countCycles_7b at hw
    refine lv_iload hx hb d_Rows_countCycles_7 (lv_at hl 4 rfl) ?_
    refine lv_iload_n hx hb d_Rows_countCycles_9 rfl (lv_at hl 1 rfl) ?_
    refine lv_icmp_ge (tgt := 41) hx hb d_Rows_countCycles_10 (by decide) (fun c10 => ?_) (fun c10 => ?_)
    · have hw := hw.1 c10
      refine lv_iload_n hx hb d_Rows_countCycles_41 rfl (lv_at hl 3 rfl) ?_
      exact W.iret (v := v3) hx hb hr (fun t ht hW => ⟨v3, rfl, hw, by rw [ht]⟩) (fun _ h => by cases h) d_Rows_countCycles_42
    · have hw := hw.2 c10
      refine lv_iload_n hx hb d_Rows_countCycles_13 rfl (lv_at hl 2 rfl) ?_
      refine lv_iload hx hb d_Rows_countCycles_14 (lv_at hl 4 rfl) ?_
      refine lv_iushr (v := (v2.toUInt32 >>> (v4.toUInt32 &&& Int32.toUInt32 31)).toInt32) hx hb d_Rows_countCycles_16 rfl ?_
      refine lv_iconst (v := (1 : Int32)) hx hb d_Rows_countCycles_17 (by decide) ?_
      refine lv_iand hx hb d_Rows_countCycles_18 ?_
      refine lv_if_ne (tgt := 35) hx hb d_Rows_countCycles_19 (by decide) (fun c19 => ?_) (fun c19 => ?_)
      · have hw := hw.2 c19
        obtain ⟨x4_35, ex4_35⟩ : ∃ y : Int32, y = v4 + 1 := ⟨_, rfl⟩
        have hw := hw x4_35 ex4_35
        refine lv_iinc (v := x4_35) (lv' := [(4, .int x4_35), (0, .int v0), (1, .int v1), (2, .int v2), (3, .int v3)]) hx hb d_Rows_countCycles_35 hl (k := 4) rfl (by rw [ex4_35]; rfl) (by decide) rfl (fun ls hl => ?_)
        refine lv_goto (tgt := 7) hx hb d_Rows_countCycles_38 (by decide) ?_
        exact ih v2 v3 x4_35 hw ls (lv_sub hl [1, 2, 3, 4, 0] rfl)
      · have hw := hw.1 c19
        refine lv_iload_n hx hb d_Rows_countCycles_22 rfl (lv_at hl 2 rfl) ?_
        refine lv_iload_n hx hb d_Rows_countCycles_23 rfl (lv_at hl 0 rfl) ?_
        refine lv_iload hx hb d_Rows_countCycles_24 (lv_at hl 4 rfl) ?_
        refine lv_iload_n hx hb d_Rows_countCycles_26 rfl (lv_at hl 1 rfl) ?_
        have hPc := hP.sub (ws' := []) [] rfl
        refine vp_callSi (va_Run.run (va_runS (As := [.int v0, .int v4, .int v1]) (rest := [.int v2]) ⟨hx, hb, hml, hown, hts⟩ (met_Rows_cycleOf l dC dI cI cZ  v0 v4 v1 _ hw) ⟨cB 3 hts kc_Rows_cycleOf ki_Rows kl_Rows_21 hd_Rows_cycleOf ⟨Nat.le_of_ble_eq_true rfl, Nat.le_of_ble_eq_true rfl⟩, hts _ ks_Rows_cycleOf⟩ (preS_ro hE hPc) rfl rfl hl.1 rfl (lv_room (Nat.le_of_ble_eq_true rfl)) d_Rows_countCycles_27 ⟨Nat.le_of_ble_eq_true rfl, Nat.le_of_ble_eq_true rfl⟩)) (fun r27 hw => ?_)
        refine lv_ior hx hb d_Rows_countCycles_30 ?_
        refine lv_topi (fun x2_31 ex2_31 => ?_)
        have hw := hw x2_31 ex2_31
        refine lv_istore_n (lv' := [(2, .int x2_31), (0, .int v0), (1, .int v1), (3, .int v3), (4, .int v4)]) hx hb d_Rows_countCycles_31 rfl hl (by decide) rfl (fun ls hl => ?_)
        obtain ⟨x3_32, ex3_32⟩ : ∃ y : Int32, y = v3 + 1 := ⟨_, rfl⟩
        have hw := hw x3_32 ex3_32
        refine lv_iinc (v := x3_32) (lv' := [(3, .int x3_32), (2, .int x2_31), (0, .int v0), (1, .int v1), (4, .int v4)]) hx hb d_Rows_countCycles_32 hl (k := 3) rfl (by rw [ex3_32]; rfl) (by decide) rfl (fun ls hl => ?_)
        obtain ⟨x4_35, ex4_35⟩ : ∃ y : Int32, y = v4 + 1 := ⟨_, rfl⟩
        have hw := hw x4_35 ex4_35
        refine lv_iinc (v := x4_35) (lv' := [(4, .int x4_35), (3, .int x3_32), (2, .int x2_31), (0, .int v0), (1, .int v1)]) hx hb d_Rows_countCycles_35 hl (k := 4) rfl (by rw [ex4_35]; rfl) (by decide) rfl (fun ls hl => ?_)
        refine lv_goto (tgt := 7) hx hb d_Rows_countCycles_38 (by decide) ?_
        exact ih x2_31 x3_32 x4_35 hw ls (lv_sub hl [3, 4, 2, 1, 0] rfl)
set_option maxHeartbeats 4000000 in
set_option maxRecDepth 100000 in
theorem met_Rows_countCycles (l : Launch) (dC : Nat → ClassId) (dI : Nat → Nat → Nat) (cI cZ : ClassId) (a1 : Int32) (a2 : Int32) (post : Int32 → Prop) (hw : wp_Rows_countCycles post a1 a2) : Met l y_Rows_countCycles (Cond.code y_Rows_countCycles b_Rows_countCycles 5 (some .int) :: gw) rm_Rows_countCycles (va_Pc [.int a1, .int a2] (fun U => EV (dC, dI) cI cZ U ∧ va_P (dC, dI) classes [] U.heap)) (vp_Si post) 0 0 (fun _ => False) := by
  refine Met.ofW (cc := b_Rows_countCycles) (maxL := 5) (ret := (some .int)) (by decide) rfl ?_
  intro p e s m args below meth c s₁ B hml hv
  obtain ⟨rfl, hE, hP⟩ := hv
  have C := CX.of (own := R_Rows) (D := (dC, dI)) (cI := cI) (cZ := cZ) B hml rfl hE
  obtain ⟨hx, hb, hr, -, hown, hts, hlocks, -⟩ := id C
  have hl := lv_entry ([.int a1, .int a2]) (n := 5) (Nat.le_of_ble_eq_true rfl)
  rw [lg_entry_eq]
  generalize (lg_sl ([.int a1, .int a2]) ++ List.replicate (5 - (lg_sl ([.int a1, .int a2])).length) Slot.unset).toArray = ls at hl ⊢
  have hl : lv_has ls 5 [(0, .int a1), (1, .int a2)] := hl
  unfold wp_Rows_countCycles at hw
  refine lv_iconst (v := (0 : Int32)) hx hb d_Rows_countCycles_0 (by decide) ?_
  refine lv_istore_n (lv' := [(2, .int (0 : Int32)), (0, .int a1), (1, .int a2)]) hx hb d_Rows_countCycles_1 rfl hl (by decide) rfl (fun ls hl => ?_)
  refine lv_iconst (v := (0 : Int32)) hx hb d_Rows_countCycles_2 (by decide) ?_
  refine lv_istore_n (lv' := [(3, .int (0 : Int32)), (2, .int (0 : Int32)), (0, .int a1), (1, .int a2)]) hx hb d_Rows_countCycles_3 rfl hl (by decide) rfl (fun ls hl => ?_)
  refine lv_iconst (v := (0 : Int32)) hx hb d_Rows_countCycles_4 (by decide) ?_
  refine lv_istore (lv' := [(4, .int (0 : Int32)), (3, .int (0 : Int32)), (2, .int (0 : Int32)), (0, .int a1), (1, .int a2)]) hx hb d_Rows_countCycles_5 hl (by decide) rfl (fun ls hl => ?_)
  obtain ⟨n7, hw⟩ := hw
  exact qL_Rows_countCycles_7 C post  a1 a2 hP  n7 (0 : Int32) (0 : Int32) (0 : Int32) hw ls (lv_sub hl [3, 4, 2, 1, 0] rfl)

-- SwapOrbits$Rows.period(II)I
abbrev rm_Rows_period : Room := { frames := 2, cells := 0, slots := 0, locals := 45 }
def L_Rows_period_10b (post : Int32 → Prop) (v0 : Int32) (v1 : Int32) (v2 : Int32) (K10 : Int32 → Int32 → Prop) (v3 : Int32) (v4 : Int32) : Prop := (v3 = v2 → post v4) ∧ (¬ v3 = v2 → ((5040 : Int32) ≤ v4 → post v4) ∧ (¬ (5040 : Int32) ≤ v4 → wp_Rows_chain (fun r26 => ∀ x4_30 : Int32, x4_30 = v4 + 1 → (K10 r26 x4_30)) v3 v0 v1))
def L_Rows_period_10 (post : Int32 → Prop) (v0 : Int32) (v1 : Int32) (v2 : Int32) : Nat → Int32 → Int32 → Prop
  | 0, _, _ => False
  | n + 1, v3, v4 => L_Rows_period_10b post v0 v1 v2 (L_Rows_period_10 post v0 v1 v2 n) v3 v4
def wp_Rows_period (post : Int32 → Prop) (a1 : Int32) (a2 : Int32) : Prop := wp_Rows_identity (fun r1 => ∃ n, L_Rows_period_10 post a1 a2 r1 n a1 (1 : Int32)) a2
set_option maxHeartbeats 4000000 in
set_option maxRecDepth 100000 in
theorem qL_Rows_period_10 {p : Program} {l : Launch} {e : Env} {s : State} {m : MethodId} {args : Array Value} {below : List Frame} {meth : Method} {c : Code} {dC : Nat → ClassId} {dI : Nat → Nat → Nat} {cI cZ : ClassId} (C : CX p s m args meth c R_Rows b_Rows_period 5 (some .int) (dC, dI) cI cZ) (post : Int32 → Prop) (v0 : Int32) (v1 : Int32) (v2 : Int32) (hP : va_P (dC, dI) classes [] s.heap) : ∀ (n : Nat) (v3 : Int32) (v4 : Int32) , L_Rows_period_10 post v0 v1 v2 n v3 v4 → ∀ (ls : Array Slot), lv_has ls 5 [(0, .int v0), (1, .int v1), (2, .int v2), (3, .int v3), (4, .int v4)] → W p l e rm_Rows_period s m args below meth c s.heap [] 0 0 (MQ below (vp_Si post) args s 0 0 (fun _ => False)) (F0 m 10 ls []) := by
  obtain ⟨hx, hb, hr, hml, hown, hts, hlocks, hE⟩ := id C
  intro n
  induction n with
  | zero =>
    intro v3 v4 hw
    exact (show False from hw).elim
  | succ n ih =>
    intro v3 v4 hw ls hl
    have hw : L_Rows_period_10b post v0 v1 v2 (L_Rows_period_10 post v0 v1 v2 n) v3 v4 := hw
    unfold L_Rows_period_10b at hw
    refine lv_iload_n hx hb d_Rows_period_10 rfl (lv_at hl 3 rfl) ?_
    refine lv_iload_n hx hb d_Rows_period_11 rfl (lv_at hl 2 rfl) ?_
    refine lv_icmp_eq (tgt := 36) hx hb d_Rows_period_12 (by decide) (fun c12 => ?_) (fun c12 => ?_)
    · have hw := hw.1 c12
      refine lv_iload hx hb d_Rows_period_36 (lv_at hl 4 rfl) ?_
      exact W.iret (v := v4) hx hb hr (fun t ht hW => ⟨v4, rfl, hw, by rw [ht]⟩) (fun _ h => by cases h) d_Rows_period_38
    · have hw := hw.2 c12
      refine lv_iload hx hb d_Rows_period_15 (lv_at hl 4 rfl) ?_
      refine lv_sipush (v := (5040 : Int32)) hx hb d_Rows_period_17 (by decide) ?_
      refine lv_icmp_ge (tgt := 36) hx hb d_Rows_period_20 (by decide) (fun c20 => ?_) (fun c20 => ?_)
      · have hw := hw.1 c20
        refine lv_iload hx hb d_Rows_period_36 (lv_at hl 4 rfl) ?_
        exact W.iret (v := v4) hx hb hr (fun t ht hW => ⟨v4, rfl, hw, by rw [ht]⟩) (fun _ h => by cases h) d_Rows_period_38
      · have hw := hw.2 c20
        refine lv_iload_n hx hb d_Rows_period_23 rfl (lv_at hl 3 rfl) ?_
        refine lv_iload_n hx hb d_Rows_period_24 rfl (lv_at hl 0 rfl) ?_
        refine lv_iload_n hx hb d_Rows_period_25 rfl (lv_at hl 1 rfl) ?_
        have hPc := hP.sub (ws' := []) [] rfl
        refine vp_callSi (va_Run.run (va_runS (As := [.int v3, .int v0, .int v1]) (rest := []) ⟨hx, hb, hml, hown, hts⟩ (met_Rows_chain l dC dI cI cZ  v3 v0 v1 _ hw) ⟨cB 3 hts kc_Rows_chain ki_Rows kl_Rows_28 hd_Rows_chain ⟨Nat.le_of_ble_eq_true rfl, Nat.le_of_ble_eq_true rfl⟩, hts _ ks_Rows_chain⟩ (preS_ro hE hPc) rfl rfl hl.1 rfl (lv_room (Nat.le_of_ble_eq_true rfl)) d_Rows_period_26 ⟨Nat.le_of_ble_eq_true rfl, Nat.le_of_ble_eq_true rfl⟩)) (fun r26 hw => ?_)
        refine lv_istore_n (lv' := [(3, .int r26), (0, .int v0), (1, .int v1), (2, .int v2), (4, .int v4)]) hx hb d_Rows_period_29 rfl hl (by decide) rfl (fun ls hl => ?_)
        obtain ⟨x4_30, ex4_30⟩ : ∃ y : Int32, y = v4 + 1 := ⟨_, rfl⟩
        have hw := hw x4_30 ex4_30
        refine lv_iinc (v := x4_30) (lv' := [(4, .int x4_30), (3, .int r26), (0, .int v0), (1, .int v1), (2, .int v2)]) hx hb d_Rows_period_30 hl (k := 4) rfl (by rw [ex4_30]; rfl) (by decide) rfl (fun ls hl => ?_)
        refine lv_goto (tgt := 10) hx hb d_Rows_period_33 (by decide) ?_
        exact ih r26 x4_30 hw ls (lv_sub hl [2, 3, 4, 1, 0] rfl)
set_option maxHeartbeats 4000000 in
set_option maxRecDepth 100000 in
theorem met_Rows_period (l : Launch) (dC : Nat → ClassId) (dI : Nat → Nat → Nat) (cI cZ : ClassId) (a1 : Int32) (a2 : Int32) (post : Int32 → Prop) (hw : wp_Rows_period post a1 a2) : Met l y_Rows_period (Cond.code y_Rows_period b_Rows_period 5 (some .int) :: gw) rm_Rows_period (va_Pc [.int a1, .int a2] (fun U => EV (dC, dI) cI cZ U ∧ va_P (dC, dI) classes [] U.heap)) (vp_Si post) 0 0 (fun _ => False) := by
  refine Met.ofW (cc := b_Rows_period) (maxL := 5) (ret := (some .int)) (by decide) rfl ?_
  intro p e s m args below meth c s₁ B hml hv
  obtain ⟨rfl, hE, hP⟩ := hv
  have C := CX.of (own := R_Rows) (D := (dC, dI)) (cI := cI) (cZ := cZ) B hml rfl hE
  obtain ⟨hx, hb, hr, -, hown, hts, hlocks, -⟩ := id C
  have hl := lv_entry ([.int a1, .int a2]) (n := 5) (Nat.le_of_ble_eq_true rfl)
  rw [lg_entry_eq]
  generalize (lg_sl ([.int a1, .int a2]) ++ List.replicate (5 - (lg_sl ([.int a1, .int a2])).length) Slot.unset).toArray = ls at hl ⊢
  have hl : lv_has ls 5 [(0, .int a1), (1, .int a2)] := hl
  unfold wp_Rows_period at hw
  refine lv_iload_n hx hb d_Rows_period_0 rfl (lv_at hl 1 rfl) ?_
  have hPc := hP.sub (ws' := []) [] rfl
  refine vp_callSi (va_Run.run (va_runS (As := [.int a2]) (rest := []) ⟨hx, hb, hml, hown, hts⟩ (met_Rows_identity l dC dI cI cZ  a2 _ hw) ⟨cB 1 hts kc_Rows_identity ki_Rows kl_Rows_25 hd_Rows_identity ⟨Nat.le_of_ble_eq_true rfl, Nat.le_of_ble_eq_true rfl⟩, hts _ ks_Rows_identity⟩ (preS_ro hE hPc) rfl rfl hl.1 rfl (lv_room (Nat.le_of_ble_eq_true rfl)) d_Rows_period_1 ⟨Nat.le_of_ble_eq_true rfl, Nat.le_of_ble_eq_true rfl⟩)) (fun r1 hw => ?_)
  refine lv_istore_n (lv' := [(2, .int r1), (0, .int a1), (1, .int a2)]) hx hb d_Rows_period_4 rfl hl (by decide) rfl (fun ls hl => ?_)
  refine lv_iload_n hx hb d_Rows_period_5 rfl (lv_at hl 1 rfl) ?_
  refine lv_istore_n (lv' := [(3, .int a1), (2, .int r1), (0, .int a1), (1, .int a2)]) hx hb d_Rows_period_6 rfl hl (by decide) rfl (fun ls hl => ?_)
  refine lv_iconst (v := (1 : Int32)) hx hb d_Rows_period_7 (by decide) ?_
  refine lv_istore (lv' := [(4, .int (1 : Int32)), (3, .int a1), (2, .int r1), (0, .int a1), (1, .int a2)]) hx hb d_Rows_period_8 hl (by decide) rfl (fun ls hl => ?_)
  obtain ⟨n10, hw⟩ := hw
  exact qL_Rows_period_10 C post  a1 a2 r1 hP  n10 a1 (1 : Int32) hw ls (lv_sub hl [3, 4, 2, 1, 0] rfl)

