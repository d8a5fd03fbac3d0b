theorem d_Edges_init_0 : decode b_Edges_init 0 = .ok (.aload_n 0, 1) := by decide +kernel
theorem d_Edges_init_1 : decode b_Edges_init 1 = .ok (.invokespecial 3, 3) := by decide +kernel
theorem d_Edges_init_4 : decode b_Edges_init 4 = .ok (.aload_n 0, 1) := by decide +kernel
theorem d_Edges_init_5 : decode b_Edges_init 5 = .ok (.bipush 8, 2) := by decide +kernel
theorem d_Edges_init_7 : decode b_Edges_init 7 = .ok (.newarray .int, 2) := by decide +kernel
theorem d_Edges_init_9 : decode b_Edges_init 9 = .ok (.putfield 9, 3) := by decide +kernel
theorem d_Edges_init_12 : decode b_Edges_init 12 = .ok (.return_, 1) := by decide +kernel
theorem d_Edges_clear_0 : decode b_Edges_clear 0 = .ok (.aload_n 0, 1) := by decide +kernel
theorem d_Edges_clear_1 : decode b_Edges_clear 1 = .ok (.getfield 9, 3) := by decide +kernel
theorem d_Edges_clear_4 : decode b_Edges_clear 4 = .ok (.iconst 0, 1) := by decide +kernel
theorem d_Edges_clear_5 : decode b_Edges_clear 5 = .ok (.invokestatic 15, 3) := by decide +kernel
theorem d_Edges_clear_8 : decode b_Edges_clear 8 = .ok (.return_, 1) := by decide +kernel
theorem d_Edges_flip_0 : decode b_Edges_flip 0 = .ok (.aload_n 0, 1) := by decide +kernel
theorem d_Edges_flip_1 : decode b_Edges_flip 1 = .ok (.getfield 9, 3) := by decide +kernel
theorem d_Edges_flip_4 : decode b_Edges_flip 4 = .ok (.iload_n 1, 1) := by decide +kernel
theorem d_Edges_flip_5 : decode b_Edges_flip 5 = .ok (.bipush 7, 2) := by decide +kernel
theorem d_Edges_flip_7 : decode b_Edges_flip 7 = .ok (.iand, 1) := by decide +kernel
theorem d_Edges_flip_8 : decode b_Edges_flip 8 = .ok (.dup2, 1) := by decide +kernel
theorem d_Edges_flip_9 : decode b_Edges_flip 9 = .ok (.iaload, 1) := by decide +kernel
theorem d_Edges_flip_10 : decode b_Edges_flip 10 = .ok (.iconst 1, 1) := by decide +kernel
theorem d_Edges_flip_11 : decode b_Edges_flip 11 = .ok (.iload_n 2, 1) := by decide +kernel
theorem d_Edges_flip_12 : decode b_Edges_flip 12 = .ok (.ishl, 1) := by decide +kernel
theorem d_Edges_flip_13 : decode b_Edges_flip 13 = .ok (.ixor, 1) := by decide +kernel
theorem d_Edges_flip_14 : decode b_Edges_flip 14 = .ok (.iastore, 1) := by decide +kernel
theorem d_Edges_flip_15 : decode b_Edges_flip 15 = .ok (.aload_n 0, 1) := by decide +kernel
theorem d_Edges_flip_16 : decode b_Edges_flip 16 = .ok (.getfield 9, 3) := by decide +kernel
theorem d_Edges_flip_19 : decode b_Edges_flip 19 = .ok (.iload_n 2, 1) := by decide +kernel
theorem d_Edges_flip_20 : decode b_Edges_flip 20 = .ok (.bipush 7, 2) := by decide +kernel
theorem d_Edges_flip_22 : decode b_Edges_flip 22 = .ok (.iand, 1) := by decide +kernel
theorem d_Edges_flip_23 : decode b_Edges_flip 23 = .ok (.dup2, 1) := by decide +kernel
theorem d_Edges_flip_24 : decode b_Edges_flip 24 = .ok (.iaload, 1) := by decide +kernel
theorem d_Edges_flip_25 : decode b_Edges_flip 25 = .ok (.iconst 1, 1) := by decide +kernel
theorem d_Edges_flip_26 : decode b_Edges_flip 26 = .ok (.iload_n 1, 1) := by decide +kernel
theorem d_Edges_flip_27 : decode b_Edges_flip 27 = .ok (.ishl, 1) := by decide +kernel
theorem d_Edges_flip_28 : decode b_Edges_flip 28 = .ok (.ixor, 1) := by decide +kernel
theorem d_Edges_flip_29 : decode b_Edges_flip 29 = .ok (.iastore, 1) := by decide +kernel
theorem d_Edges_flip_30 : decode b_Edges_flip 30 = .ok (.return_, 1) := by decide +kernel
theorem d_Edges_joins_0 : decode b_Edges_joins 0 = .ok (.aload_n 0, 1) := by decide +kernel
theorem d_Edges_joins_1 : decode b_Edges_joins 1 = .ok (.getfield 9, 3) := by decide +kernel
theorem d_Edges_joins_4 : decode b_Edges_joins 4 = .ok (.iload_n 1, 1) := by decide +kernel
theorem d_Edges_joins_5 : decode b_Edges_joins 5 = .ok (.bipush 7, 2) := by decide +kernel
theorem d_Edges_joins_7 : decode b_Edges_joins 7 = .ok (.iand, 1) := by decide +kernel
theorem d_Edges_joins_8 : decode b_Edges_joins 8 = .ok (.iaload, 1) := by decide +kernel
theorem d_Edges_joins_9 : decode b_Edges_joins 9 = .ok (.iload_n 2, 1) := by decide +kernel
theorem d_Edges_joins_10 : decode b_Edges_joins 10 = .ok (.iushr, 1) := by decide +kernel
theorem d_Edges_joins_11 : decode b_Edges_joins 11 = .ok (.iconst 1, 1) := by decide +kernel
theorem d_Edges_joins_12 : decode b_Edges_joins 12 = .ok (.iand, 1) := by decide +kernel
theorem d_Edges_joins_13 : decode b_Edges_joins 13 = .ok (.iconst 1, 1) := by decide +kernel
theorem d_Edges_joins_14 : decode b_Edges_joins 14 = .ok (.if_icmp .ne 7, 3) := by decide +kernel
theorem d_Edges_joins_17 : decode b_Edges_joins 17 = .ok (.iconst 1, 1) := by decide +kernel
theorem d_Edges_joins_18 : decode b_Edges_joins 18 = .ok (.goto 4, 3) := by decide +kernel
theorem d_Edges_joins_21 : decode b_Edges_joins 21 = .ok (.iconst 0, 1) := by decide +kernel
theorem d_Edges_joins_22 : decode b_Edges_joins 22 = .ok (.ireturn, 1) := by decide +kernel
theorem d_Edges_total_0 : decode b_Edges_total 0 = .ok (.iconst 0, 1) := by decide +kernel
theorem d_Edges_total_1 : decode b_Edges_total 1 = .ok (.istore_n 1, 1) := by decide +kernel
theorem d_Edges_total_2 : decode b_Edges_total 2 = .ok (.iconst 0, 1) := by decide +kernel
theorem d_Edges_total_3 : decode b_Edges_total 3 = .ok (.istore_n 2, 1) := by decide +kernel
theorem d_Edges_total_4 : decode b_Edges_total 4 = .ok (.iload_n 2, 1) := by decide +kernel
theorem d_Edges_total_5 : decode b_Edges_total 5 = .ok (.bipush 8, 2) := by decide +kernel
theorem d_Edges_total_7 : decode b_Edges_total 7 = .ok (.if_icmp .ge 21, 3) := by decide +kernel
theorem d_Edges_total_10 : decode b_Edges_total 10 = .ok (.iload_n 1, 1) := by decide +kernel
theorem d_Edges_total_11 : decode b_Edges_total 11 = .ok (.aload_n 0, 1) := by decide +kernel
theorem d_Edges_total_12 : decode b_Edges_total 12 = .ok (.getfield 9, 3) := by decide +kernel
theorem d_Edges_total_15 : decode b_Edges_total 15 = .ok (.iload_n 2, 1) := by decide +kernel
theorem d_Edges_total_16 : decode b_Edges_total 16 = .ok (.iaload, 1) := by decide +kernel
theorem d_Edges_total_17 : decode b_Edges_total 17 = .ok (.invokestatic 21, 3) := by decide +kernel
theorem d_Edges_total_20 : decode b_Edges_total 20 = .ok (.iadd, 1) := by decide +kernel
theorem d_Edges_total_21 : decode b_Edges_total 21 = .ok (.istore_n 1, 1) := by decide +kernel
theorem d_Edges_total_22 : decode b_Edges_total 22 = .ok (.iinc 2 1, 3) := by decide +kernel
theorem d_Edges_total_25 : decode b_Edges_total 25 = .ok (.goto (-21), 3) := by decide +kernel
theorem d_Edges_total_28 : decode b_Edges_total 28 = .ok (.iload_n 1, 1) := by decide +kernel
theorem d_Edges_total_29 : decode b_Edges_total 29 = .ok (.iconst 1, 1) := by decide +kernel
theorem d_Edges_total_30 : decode b_Edges_total 30 = .ok (.ishr, 1) := by decide +kernel
theorem d_Edges_total_31 : decode b_Edges_total 31 = .ok (.ireturn, 1) := by decide +kernel
theorem d_Edges_areKeptBy_0 : decode b_Edges_areKeptBy 0 = .ok (.iconst 0, 1) := by decide +kernel
theorem d_Edges_areKeptBy_1 : decode b_Edges_areKeptBy 1 = .ok (.istore_n 2, 1) := by decide +kernel
theorem d_Edges_areKeptBy_2 : decode b_Edges_areKeptBy 2 = .ok (.iload_n 2, 1) := by decide +kernel
theorem d_Edges_areKeptBy_3 : decode b_Edges_areKeptBy 3 = .ok (.aload_n 1, 1) := by decide +kernel
theorem d_Edges_areKeptBy_4 : decode b_Edges_areKeptBy 4 = .ok (.getfield 27, 3) := by decide +kernel
theorem d_Edges_areKeptBy_7 : decode b_Edges_areKeptBy 7 = .ok (.if_icmp .ge 24, 3) := by decide +kernel
theorem d_Edges_areKeptBy_10 : decode b_Edges_areKeptBy 10 = .ok (.aload_n 0, 1) := by decide +kernel
theorem d_Edges_areKeptBy_11 : decode b_Edges_areKeptBy 11 = .ok (.aload_n 1, 1) := by decide +kernel
theorem d_Edges_areKeptBy_12 : decode b_Edges_areKeptBy 12 = .ok (.getfield 33, 3) := by decide +kernel
theorem d_Edges_areKeptBy_15 : decode b_Edges_areKeptBy 15 = .ok (.iload_n 2, 1) := by decide +kernel
theorem d_Edges_areKeptBy_16 : decode b_Edges_areKeptBy 16 = .ok (.iaload, 1) := by decide +kernel
theorem d_Edges_areKeptBy_17 : decode b_Edges_areKeptBy 17 = .ok (.invokevirtual 36, 3) := by decide +kernel
theorem d_Edges_areKeptBy_20 : decode b_Edges_areKeptBy 20 = .ok (.ifCond .ne 5, 3) := by decide +kernel
theorem d_Edges_areKeptBy_23 : decode b_Edges_areKeptBy 23 = .ok (.iconst 0, 1) := by decide +kernel
theorem d_Edges_areKeptBy_24 : decode b_Edges_areKeptBy 24 = .ok (.ireturn, 1) := by decide +kernel
theorem d_Edges_areKeptBy_25 : decode b_Edges_areKeptBy 25 = .ok (.iinc 2 1, 3) := by decide +kernel
theorem d_Edges_areKeptBy_28 : decode b_Edges_areKeptBy 28 = .ok (.goto (-26), 3) := by decide +kernel
theorem d_Edges_areKeptBy_31 : decode b_Edges_areKeptBy 31 = .ok (.iconst 1, 1) := by decide +kernel
theorem d_Edges_areKeptBy_32 : decode b_Edges_areKeptBy 32 = .ok (.ireturn, 1) := by decide +kernel
theorem d_Edges_areAllTakenToEdges_0 : decode b_Edges_areAllTakenToEdges 0 = .ok (.iconst 0, 1) := by decide +kernel
theorem d_Edges_areAllTakenToEdges_1 : decode b_Edges_areAllTakenToEdges 1 = .ok (.istore_n 2, 1) := by decide +kernel
theorem d_Edges_areAllTakenToEdges_2 : decode b_Edges_areAllTakenToEdges 2 = .ok (.iload_n 2, 1) := by decide +kernel
theorem d_Edges_areAllTakenToEdges_3 : decode b_Edges_areAllTakenToEdges 3 = .ok (.bipush 8, 2) := by decide +kernel
theorem d_Edges_areAllTakenToEdges_5 : decode b_Edges_areAllTakenToEdges 5 = .ok (.if_icmp .ge 50, 3) := by decide +kernel
theorem d_Edges_areAllTakenToEdges_8 : decode b_Edges_areAllTakenToEdges 8 = .ok (.iconst 0, 1) := by decide +kernel
theorem d_Edges_areAllTakenToEdges_9 : decode b_Edges_areAllTakenToEdges 9 = .ok (.istore_n 3, 1) := by decide +kernel
theorem d_Edges_areAllTakenToEdges_10 : decode b_Edges_areAllTakenToEdges 10 = .ok (.iload_n 3, 1) := by decide +kernel
theorem d_Edges_areAllTakenToEdges_11 : decode b_Edges_areAllTakenToEdges 11 = .ok (.iload_n 2, 1) := by decide +kernel
theorem d_Edges_areAllTakenToEdges_12 : decode b_Edges_areAllTakenToEdges 12 = .ok (.if_icmp .ge 37, 3) := by decide +kernel
theorem d_Edges_areAllTakenToEdges_15 : decode b_Edges_areAllTakenToEdges 15 = .ok (.aload_n 0, 1) := by decide +kernel
theorem d_Edges_areAllTakenToEdges_16 : decode b_Edges_areAllTakenToEdges 16 = .ok (.iload_n 2, 1) := by decide +kernel
theorem d_Edges_areAllTakenToEdges_17 : decode b_Edges_areAllTakenToEdges 17 = .ok (.iload_n 3, 1) := by decide +kernel
theorem d_Edges_areAllTakenToEdges_18 : decode b_Edges_areAllTakenToEdges 18 = .ok (.invokevirtual 40, 3) := by decide +kernel
theorem d_Edges_areAllTakenToEdges_21 : decode b_Edges_areAllTakenToEdges 21 = .ok (.ifCond .eq 22, 3) := by decide +kernel
theorem d_Edges_areAllTakenToEdges_24 : decode b_Edges_areAllTakenToEdges 24 = .ok (.aload_n 0, 1) := by decide +kernel
theorem d_Edges_areAllTakenToEdges_25 : decode b_Edges_areAllTakenToEdges 25 = .ok (.iload_n 1, 1) := by decide +kernel
theorem d_Edges_areAllTakenToEdges_26 : decode b_Edges_areAllTakenToEdges 26 = .ok (.iload_n 2, 1) := by decide +kernel
theorem d_Edges_areAllTakenToEdges_27 : decode b_Edges_areAllTakenToEdges 27 = .ok (.invokestatic 44, 3) := by decide +kernel
theorem d_Edges_areAllTakenToEdges_30 : decode b_Edges_areAllTakenToEdges 30 = .ok (.iload_n 1, 1) := by decide +kernel
theorem d_Edges_areAllTakenToEdges_31 : decode b_Edges_areAllTakenToEdges 31 = .ok (.iload_n 3, 1) := by decide +kernel
theorem d_Edges_areAllTakenToEdges_32 : decode b_Edges_areAllTakenToEdges 32 = .ok (.invokestatic 44, 3) := by decide +kernel
theorem d_Edges_areAllTakenToEdges_35 : decode b_Edges_areAllTakenToEdges 35 = .ok (.invokevirtual 40, 3) := by decide +kernel
theorem d_Edges_areAllTakenToEdges_38 : decode b_Edges_areAllTakenToEdges 38 = .ok (.ifCond .ne 5, 3) := by decide +kernel
theorem d_Edges_areAllTakenToEdges_41 : decode b_Edges_areAllTakenToEdges 41 = .ok (.iconst 0, 1) := by decide +kernel
theorem d_Edges_areAllTakenToEdges_42 : decode b_Edges_areAllTakenToEdges 42 = .ok (.ireturn, 1) := by decide +kernel
theorem d_Edges_areAllTakenToEdges_43 : decode b_Edges_areAllTakenToEdges 43 = .ok (.iinc 3 1, 3) := by decide +kernel
theorem d_Edges_areAllTakenToEdges_46 : decode b_Edges_areAllTakenToEdges 46 = .ok (.goto (-36), 3) := by decide +kernel
theorem d_Edges_areAllTakenToEdges_49 : decode b_Edges_areAllTakenToEdges 49 = .ok (.iinc 2 1, 3) := by decide +kernel
theorem d_Edges_areAllTakenToEdges_52 : decode b_Edges_areAllTakenToEdges 52 = .ok (.goto (-50), 3) := by decide +kernel
theorem d_Edges_areAllTakenToEdges_55 : decode b_Edges_areAllTakenToEdges 55 = .ok (.iconst 1, 1) := by decide +kernel
theorem d_Edges_areAllTakenToEdges_56 : decode b_Edges_areAllTakenToEdges 56 = .ok (.ireturn, 1) := by decide +kernel
theorem d_Edges_allow_0 : decode b_Edges_allow 0 = .ok (.iconst 0, 1) := by decide +kernel
theorem d_Edges_allow_1 : decode b_Edges_allow 1 = .ok (.istore_n 2, 1) := by decide +kernel
theorem d_Edges_allow_2 : decode b_Edges_allow 2 = .ok (.iload_n 2, 1) := by decide +kernel
theorem d_Edges_allow_3 : decode b_Edges_allow 3 = .ok (.bipush 8, 2) := by decide +kernel
theorem d_Edges_allow_5 : decode b_Edges_allow 5 = .ok (.if_icmp .ge 29, 3) := by decide +kernel
theorem d_Edges_allow_8 : decode b_Edges_allow 8 = .ok (.aload_n 0, 1) := by decide +kernel
theorem d_Edges_allow_9 : decode b_Edges_allow 9 = .ok (.getfield 9, 3) := by decide +kernel
theorem d_Edges_allow_12 : decode b_Edges_allow 12 = .ok (.iload_n 2, 1) := by decide +kernel
theorem d_Edges_allow_13 : decode b_Edges_allow 13 = .ok (.iaload, 1) := by decide +kernel
theorem d_Edges_allow_14 : decode b_Edges_allow 14 = .ok (.ifCond .eq 14, 3) := by decide +kernel
theorem d_Edges_allow_17 : decode b_Edges_allow 17 = .ok (.aload_n 0, 1) := by decide +kernel
theorem d_Edges_allow_18 : decode b_Edges_allow 18 = .ok (.iload_n 1, 1) := by decide +kernel
theorem d_Edges_allow_19 : decode b_Edges_allow 19 = .ok (.iload_n 2, 1) := by decide +kernel
theorem d_Edges_allow_20 : decode b_Edges_allow 20 = .ok (.invokevirtual 50, 3) := by decide +kernel
theorem d_Edges_allow_23 : decode b_Edges_allow 23 = .ok (.ifCond .eq 5, 3) := by decide +kernel
theorem d_Edges_allow_26 : decode b_Edges_allow 26 = .ok (.iconst 0, 1) := by decide +kernel
theorem d_Edges_allow_27 : decode b_Edges_allow 27 = .ok (.ireturn, 1) := by decide +kernel
theorem d_Edges_allow_28 : decode b_Edges_allow 28 = .ok (.iinc 2 1, 3) := by decide +kernel
theorem d_Edges_allow_31 : decode b_Edges_allow 31 = .ok (.goto (-29), 3) := by decide +kernel
theorem d_Edges_allow_34 : decode b_Edges_allow 34 = .ok (.iconst 1, 1) := by decide +kernel
theorem d_Edges_allow_35 : decode b_Edges_allow 35 = .ok (.ireturn, 1) := by decide +kernel
theorem d_Edges_isLikeALesserNeighbour_0 : decode b_Edges_isLikeALesserNeighbour 0 = .ok (.iload_n 1, 1) := by decide +kernel
theorem d_Edges_isLikeALesserNeighbour_1 : decode b_Edges_isLikeALesserNeighbour 1 = .ok (.iload_n 2, 1) := by decide +kernel
theorem d_Edges_isLikeALesserNeighbour_2 : decode b_Edges_isLikeALesserNeighbour 2 = .ok (.invokestatic 53, 3) := by decide +kernel
theorem d_Edges_isLikeALesserNeighbour_5 : decode b_Edges_isLikeALesserNeighbour 5 = .ok (.istore_n 3, 1) := by decide +kernel
theorem d_Edges_isLikeALesserNeighbour_6 : decode b_Edges_isLikeALesserNeighbour 6 = .ok (.iconst 0, 1) := by decide +kernel
theorem d_Edges_isLikeALesserNeighbour_7 : decode b_Edges_isLikeALesserNeighbour 7 = .ok (.istore 4, 2) := by decide +kernel
theorem d_Edges_isLikeALesserNeighbour_9 : decode b_Edges_isLikeALesserNeighbour 9 = .ok (.iload 4, 2) := by decide +kernel
theorem d_Edges_isLikeALesserNeighbour_11 : decode b_Edges_isLikeALesserNeighbour 11 = .ok (.iload_n 2, 1) := by decide +kernel
theorem d_Edges_isLikeALesserNeighbour_12 : decode b_Edges_isLikeALesserNeighbour 12 = .ok (.if_icmp .ge 31, 3) := by decide +kernel
theorem d_Edges_isLikeALesserNeighbour_15 : decode b_Edges_isLikeALesserNeighbour 15 = .ok (.aload_n 0, 1) := by decide +kernel
theorem d_Edges_isLikeALesserNeighbour_16 : decode b_Edges_isLikeALesserNeighbour 16 = .ok (.iload_n 2, 1) := by decide +kernel
theorem d_Edges_isLikeALesserNeighbour_17 : decode b_Edges_isLikeALesserNeighbour 17 = .ok (.iload 4, 2) := by decide +kernel
theorem d_Edges_isLikeALesserNeighbour_19 : decode b_Edges_isLikeALesserNeighbour 19 = .ok (.invokevirtual 40, 3) := by decide +kernel
theorem d_Edges_isLikeALesserNeighbour_22 : decode b_Edges_isLikeALesserNeighbour 22 = .ok (.ifCond .eq 15, 3) := by decide +kernel
theorem d_Edges_isLikeALesserNeighbour_25 : decode b_Edges_isLikeALesserNeighbour 25 = .ok (.iload_n 1, 1) := by decide +kernel
theorem d_Edges_isLikeALesserNeighbour_26 : decode b_Edges_isLikeALesserNeighbour 26 = .ok (.iload 4, 2) := by decide +kernel
theorem d_Edges_isLikeALesserNeighbour_28 : decode b_Edges_isLikeALesserNeighbour 28 = .ok (.invokestatic 53, 3) := by decide +kernel
theorem d_Edges_isLikeALesserNeighbour_31 : decode b_Edges_isLikeALesserNeighbour 31 = .ok (.iload_n 3, 1) := by decide +kernel
theorem d_Edges_isLikeALesserNeighbour_32 : decode b_Edges_isLikeALesserNeighbour 32 = .ok (.if_icmp .ne 5, 3) := by decide +kernel
theorem d_Edges_isLikeALesserNeighbour_35 : decode b_Edges_isLikeALesserNeighbour 35 = .ok (.iconst 1, 1) := by decide +kernel
theorem d_Edges_isLikeALesserNeighbour_36 : decode b_Edges_isLikeALesserNeighbour 36 = .ok (.ireturn, 1) := by decide +kernel
theorem d_Edges_isLikeALesserNeighbour_37 : decode b_Edges_isLikeALesserNeighbour 37 = .ok (.iinc 4 1, 3) := by decide +kernel
theorem d_Edges_isLikeALesserNeighbour_40 : decode b_Edges_isLikeALesserNeighbour 40 = .ok (.goto (-31), 3) := by decide +kernel
theorem d_Edges_isLikeALesserNeighbour_43 : decode b_Edges_isLikeALesserNeighbour 43 = .ok (.iconst 0, 1) := by decide +kernel
theorem d_Edges_isLikeALesserNeighbour_44 : decode b_Edges_isLikeALesserNeighbour 44 = .ok (.ireturn, 1) := by decide +kernel

-- SwapOrbits$Edges.clear()V
abbrev rm_Edges_clear : Room := { frames := 1, cells := 0, slots := 0, locals := 23 }
abbrev QM_Edges_clear (dC : Nat → ClassId) (dI : Nat → Nat → Nat) (cI cZ : ClassId) (h_t h_t_neighbours : Nat) (post : (Nat → Int32) → Prop) (A : Nat → Prop) : Array Value → State → Outcome → State → Prop := va_Qv (fun u : (Nat → Int32) => post u) (fun u t => va_P (dC, dI) classes [(h_t, .inr (2, [.ref h_t_neighbours])), (h_t_neighbours, .inl (cI, 8, .inl u))] t.heap ∧ va_D A [(h_t, .inr (2, [.ref h_t_neighbours])), (h_t_neighbours, .inl (cI, 8, .inl u))]) A
def wp_Edges_clear (post : (Nat → Int32) → Prop) (t_neighbours : Nat → Int32) : Prop := wp_Arrays_fill (fun t_neighbours_5 => post t_neighbours_5) 8 t_neighbours (0 : Int32)
set_option maxHeartbeats 4000000 in
set_option maxRecDepth 100000 in
theorem met_Edges_clear (l : Launch) (dC : Nat → ClassId) (dI : Nat → Nat → Nat) (cI cZ : ClassId) (h_t h_t_neighbours : Nat) (sz : Nat) (t_neighbours : Nat → Int32) (post : (Nat → Int32) → Prop) (hw : wp_Edges_clear post t_neighbours) : Met l y_Edges_clear (Cond.code y_Edges_clear b_Edges_clear 1 none :: gw) rm_Edges_clear (va_Pc [.ref h_t] (fun U => U.heap.size = sz ∧ EV (dC, dI) cI cZ U ∧ va_P (dC, dI) classes [(h_t, .inr (2, [.ref h_t_neighbours])), (h_t_neighbours, .inl (cI, 8, .inl t_neighbours))] U.heap ∧ va_D (fun _ => True) [(h_t, .inr (2, [.ref h_t_neighbours])), (h_t_neighbours, .inl (cI, 8, .inl t_neighbours))])) (QM_Edges_clear dC dI cI cZ h_t h_t_neighbours post (va_A [(h_t, .inr (2, [.ref h_t_neighbours])), (h_t_neighbours, .inl (cI, 8, .inl t_neighbours))] sz)) 0 0 (va_A [(h_t, .inr (2, [.ref h_t_neighbours])), (h_t_neighbours, .inl (cI, 8, .inl t_neighbours))] sz) := by
  refine Met.ofW (cc := b_Edges_clear) (maxL := 1) (ret := none) (by decide) rfl ?_
  intro p e s m args below meth c s₁ B hml hv
  obtain ⟨rfl, hsz, hE, hP, hD0⟩ := hv
  have C := CX.of (own := R_Edges) (D := (dC, dI)) (cI := cI) (cZ := cZ) B hml rfl hE
  obtain ⟨hx, hb, hr, -, hown, hts, hlocks, -⟩ := id C
  subst hsz
  have hD := hD0.self (sz := s.heap.size)
  generalize hAe : va_A [(h_t, .inr (2, [.ref h_t_neighbours])), (h_t_neighbours, .inl (cI, 8, .inl t_neighbours))] s.heap.size = A at hD ⊢
  have hA : ∀ q : Nat, s.heap.size ≤ q → A q := fun q h => by rw [← hAe]; exact Or.inr h
  have hS : va_S A s.heap s.heap [] := va_S.rf
  have hP : va_P (dC, dI) classes [(h_t, .inr (2, [.ref h_t_neighbours])), (h_t_neighbours, .inl (cI, 8, .inl t_neighbours))] s.heap := hP
  have hl := lv_entry ([.ref h_t]) (n := 1) (Nat.le_of_ble_eq_true rfl)
  rw [lg_entry_eq]
  generalize (lg_sl ([.ref h_t]) ++ List.replicate (1 - (lg_sl ([.ref h_t])).length) Slot.unset).toArray = ls at hl ⊢
  have hl : lv_has ls 1 [(0, .ref h_t)] := hl
  refine keyL (P := fun H locs => va_P (dC, dI) classes [(h_t, .inr (2, [.ref h_t_neighbours])), (h_t_neighbours, .inl (cI, 8, .inl t_neighbours))] H ∧ va_D A [(h_t, .inr (2, [.ref h_t_neighbours])), (h_t_neighbours, .inl (cI, 8, .inl t_neighbours))] ∧ va_S A s.heap H locs) ⟨hP, hD, hS⟩ (fun H locs hPP => ?_)
  clear hP hD hS
  obtain ⟨hP, hD, hS⟩ := hPP
  unfold wp_Edges_clear at hw
  refine lv_aload_n hx hb d_Edges_clear_0 rfl (lv_at hl 0 rfl) ?_
  refine va_get (D := (dC, dI)) (ci := 2) (v := .ref h_t_neighbours) (C := R_Edges) (T := F_Edges) (N := 1) hx hb hts i_Edges hown hE.1 hP 0 rfl rfl 0 (by decide) (hts _ kf_Edges_9) (fun _ h9 => h9) rfl d_Edges_clear_1 ?_
  refine lv_iconst (v := (0 : Int32)) hx hb d_Edges_clear_4 (by decide) ?_
  have hPc := hP.sub (ws' := [(h_t_neighbours, .inl (cI, 8, .inl t_neighbours))]) [1] rfl
  have hDc := hD.sub (ws' := [(h_t_neighbours, .inl (cI, 8, .inl t_neighbours))]) [1] (by decide) rfl
  have hFc := va_free (wc := [(h_t_neighbours, .inl (cI, 8, .inl t_neighbours))]) hD hS hA [1] rfl
  refine va_callv (va_runS (As := [.ref h_t_neighbours, .int (0 : Int32)]) (rest := []) ⟨hx, hb, hml, hown, hts⟩ (met_Arrays_fill l dC dI cI cZ h_t_neighbours H.size  8 t_neighbours (0 : Int32) _ hw) ⟨cB 2 hts kc_Arrays_fill ki_Arrays kl_Edges_15 hd_Arrays_fill ⟨Nat.le_of_ble_eq_true rfl, Nat.le_of_ble_eq_true rfl⟩, hts _ ks_Arrays_fill⟩ (preS_mu hE hPc hDc) rfl rfl hl.1 rfl (lv_room (Nat.le_of_ble_eq_true rfl)) d_Edges_clear_5 ⟨Nat.le_of_ble_eq_true rfl, Nat.le_of_ble_eq_true rfl⟩) hS (fun q _ h => hFc q h) hFc (fun u t H locs ht hvm hw hB hz1 hk1 hS => ?_)
  obtain ⟨t_neighbours_5, rfl⟩ : ∃ z, z = u := ⟨_, rfl⟩
  obtain ⟨hP1, hD1⟩ := hB
  rw [ht] at hP1
  try dsimp only at hw
  obtain ⟨hP, hD⟩ := va_join (wr := [(h_t, .inr (2, [.ref h_t_neighbours]))]) (w1 := [(h_t_neighbours, .inl (cI, 8, .inl t_neighbours_5))]) hP hD [1] [0] rfl rfl (by decide) (by decide) hk1 hFc hP1 hD1
  have hP : va_P (dC, dI) classes [(h_t, .inr (2, [.ref h_t_neighbours])), (h_t_neighbours, .inl (cI, 8, .inl t_neighbours_5))] H := hP.sub [0, 1] rfl
  have hD : va_D A [(h_t, .inr (2, [.ref h_t_neighbours])), (h_t_neighbours, .inl (cI, 8, .inl t_neighbours_5))] := hD.sub [0, 1] (by decide) rfl
  refine W.widen (k := 0) (n := 0) (Nat.le_refl _) (Nat.le_refl _) ?_
  exact W.vret hx hb hr (fun t ht hW => ⟨⟨t_neighbours_5, rfl, hw, by rw [ht]; exact hP, hD⟩, hS.F ht⟩) hS.2.2 d_Edges_clear_8

-- SwapOrbits$Edges.flip(II)V
abbrev rm_Edges_flip : Room := { frames := 0, cells := 0, slots := 0, locals := 0 }
abbrev QM_Edges_flip (dC : Nat → ClassId) (dI : Nat → Nat → Nat) (cI cZ : ClassId) (h_t h_t_neighbours : Nat) (post : (Nat → Int32) → Prop) (A : Nat → Prop) : Array Value → State → Outcome → State → Prop := va_Qv (fun u : (Nat → Int32) => post u) (fun u t => va_P (dC, dI) classes [(h_t, .inr (2, [.ref h_t_neighbours])), (h_t_neighbours, .inl (cI, 8, .inl u))] t.heap ∧ va_D A [(h_t, .inr (2, [.ref h_t_neighbours])), (h_t_neighbours, .inl (cI, 8, .inl u))]) A
def wp_Edges_flip (post : (Nat → Int32) → Prop) (t_neighbours : Nat → Int32) (a1 : Int32) (a2 : Int32) : Prop := vp_in (a1 &&& (7 : Int32)) 8 ∧ (∀ y14 : Int32, y14 = (t_neighbours ((a1 &&& (7 : Int32)).toNatClampNeg)) ^^^ ((1 : Int32) <<< (a2 &&& 31)) → (vp_in (a1 &&& (7 : Int32)) 8 ∧ (vp_in (a2 &&& (7 : Int32)) 8 ∧ (∀ y29 : Int32, y29 = ((upd t_neighbours ((a1 &&& (7 : Int32)).toNatClampNeg) y14) ((a2 &&& (7 : Int32)).toNatClampNeg)) ^^^ ((1 : Int32) <<< (a1 &&& 31)) → (vp_in (a2 &&& (7 : Int32)) 8 ∧ (post (upd (upd t_neighbours ((a1 &&& (7 : Int32)).toNatClampNeg) y14) ((a2 &&& (7 : Int32)).toNatClampNeg) y29)))))))
set_option maxHeartbeats 4000000 in
set_option maxRecDepth 100000 in
theorem met_Edges_flip (l : Launch) (dC : Nat → ClassId) (dI : Nat → Nat → Nat) (cI cZ : ClassId) (h_t h_t_neighbours : Nat) (sz : Nat) (t_neighbours : Nat → Int32) (a1 : Int32) (a2 : Int32) (post : (Nat → Int32) → Prop) (hw : wp_Edges_flip post t_neighbours a1 a2) : Met l y_Edges_flip (Cond.code y_Edges_flip b_Edges_flip 3 none :: gw) rm_Edges_flip (va_Pc [.ref h_t, .int a1, .int a2] (fun U => U.heap.size = sz ∧ EV (dC, dI) cI cZ U ∧ va_P (dC, dI) classes [(h_t, .inr (2, [.ref h_t_neighbours])), (h_t_neighbours, .inl (cI, 8, .inl t_neighbours))] U.heap ∧ va_D (fun _ => True) [(h_t, .inr (2, [.ref h_t_neighbours])), (h_t_neighbours, .inl (cI, 8, .inl t_neighbours))])) (QM_Edges_flip dC dI cI cZ h_t h_t_neighbours post (va_A [(h_t, .inr (2, [.ref h_t_neighbours])), (h_t_neighbours, .inl (cI, 8, .inl t_neighbours))] sz)) 0 0 (va_A [(h_t, .inr (2, [.ref h_t_neighbours])), (h_t_neighbours, .inl (cI, 8, .inl t_neighbours))] sz) := by
  refine Met.ofW (cc := b_Edges_flip) (maxL := 3) (ret := none) (by decide) rfl ?_
  intro p e s m args below meth c s₁ B hml hv
  obtain ⟨rfl, hsz, hE, hP, hD0⟩ := hv
  have C := CX.of (own := R_Edges) (D := (dC, dI)) (cI := cI) (cZ := cZ) B hml rfl hE
  obtain ⟨hx, hb, hr, -, hown, hts, hlocks, -⟩ := id C
  subst hsz
  have hD := hD0.self (sz := s.heap.size)
  generalize hAe : va_A [(h_t, .inr (2, [.ref h_t_neighbours])), (h_t_neighbours, .inl (cI, 8, .inl t_neighbours))] s.heap.size = A at hD ⊢
  have hA : ∀ q : Nat, s.heap.size ≤ q → A q := fun q h => by rw [← hAe]; exact Or.inr h
  have hS : va_S A s.heap s.heap [] := va_S.rf
  have hP : va_P (dC, dI) classes [(h_t, .inr (2, [.ref h_t_neighbours])), (h_t_neighbours, .inl (cI, 8, .inl t_neighbours))] s.heap := hP
  have hl := lv_entry ([.ref h_t, .int a1, .int a2]) (n := 3) (Nat.le_of_ble_eq_true rfl)
  rw [lg_entry_eq]
  generalize (lg_sl ([.ref h_t, .int a1, .int a2]) ++ List.replicate (3 - (lg_sl ([.ref h_t, .int a1, .int a2])).length) Slot.unset).toArray = ls at hl ⊢
  have hl : lv_has ls 3 [(0, .ref h_t), (1, .int a1), (2, .int a2)] := hl
  refine keyL (P := fun H locs => va_P (dC, dI) classes [(h_t, .inr (2, [.ref h_t_neighbours])), (h_t_neighbours, .inl (cI, 8, .inl t_neighbours))] H ∧ va_D A [(h_t, .inr (2, [.ref h_t_neighbours])), (h_t_neighbours, .inl (cI, 8, .inl t_neighbours))] ∧ va_S A s.heap H locs) ⟨hP, hD, hS⟩ (fun H locs hPP => ?_)
  clear hP hD hS
  obtain ⟨hP, hD, hS⟩ := hPP
  unfold wp_Edges_flip at hw
  refine lv_aload_n hx hb d_Edges_flip_0 rfl (lv_at hl 0 rfl) ?_
  refine va_get (D := (dC, dI)) (ci := 2) (v := .ref h_t_neighbours) (C := R_Edges) (T := F_Edges) (N := 1) hx hb hts i_Edges hown hE.1 hP 0 rfl rfl 0 (by decide) (hts _ kf_Edges_9) (fun _ h9 => h9) rfl d_Edges_flip_1 ?_
  refine lv_iload_n hx hb d_Edges_flip_4 rfl (lv_at hl 1 rfl) ?_
  refine lv_bipush (v := (7 : Int32)) hx hb d_Edges_flip_5 (by decide) ?_
  refine lv_iand hx hb d_Edges_flip_7 ?_
  refine lv_dup2_11 hx hb d_Edges_flip_8 rfl rfl ?_
  have hz := hw.1
  have hw := hw.2
  refine va_iald hx hb hE.1 hP 1 0 rfl rfl hz d_Edges_flip_9 ?_
  refine lv_iconst (v := (1 : Int32)) hx hb d_Edges_flip_10 (by decide) ?_
  refine lv_iload_n hx hb d_Edges_flip_11 rfl (lv_at hl 2 rfl) ?_
  refine lv_ishl hx hb d_Edges_flip_12 ?_
  refine lv_ixor hx hb d_Edges_flip_13 ?_
  refine lv_topi (fun y14 ey14 => ?_)
  have hw := hw y14 ey14
  have hz := hw.1
  have hw := hw.2
  refine va_iast hx hb hE.1 hP hD hS 1 0 rfl rfl hz d_Edges_flip_14 (fun H locs hP hD hS => ?_)
  have hP : va_P (dC, dI) classes [(h_t, .inr (2, [.ref h_t_neighbours])), (h_t_neighbours, .inl (cI, 8, .inl (upd t_neighbours ((a1 &&& (7 : Int32)).toNatClampNeg) y14)))] H := hP
  have hD : va_D A [(h_t, .inr (2, [.ref h_t_neighbours])), (h_t_neighbours, .inl (cI, 8, .inl (upd t_neighbours ((a1 &&& (7 : Int32)).toNatClampNeg) y14)))] := hD
  refine lv_aload_n hx hb d_Edges_flip_15 rfl (lv_at hl 0 rfl) ?_
  refine va_get (D := (dC, dI)) (ci := 2) (v := .ref h_t_neighbours) (C := R_Edges) (T := F_Edges) (N := 1) hx hb hts i_Edges hown hE.1 hP 0 rfl rfl 0 (by decide) (hts _ kf_Edges_9) (fun _ h9 => h9) rfl d_Edges_flip_16 ?_
  refine lv_iload_n hx hb d_Edges_flip_19 rfl (lv_at hl 2 rfl) ?_
  refine lv_bipush (v := (7 : Int32)) hx hb d_Edges_flip_20 (by decide) ?_
  refine lv_iand hx hb d_Edges_flip_22 ?_
  refine lv_dup2_11 hx hb d_Edges_flip_23 rfl rfl ?_
  have hz := hw.1
  have hw := hw.2
  refine va_iald hx hb hE.1 hP 1 0 rfl rfl hz d_Edges_flip_24 ?_
  refine lv_iconst (v := (1 : Int32)) hx hb d_Edges_flip_25 (by decide) ?_
  refine lv_iload_n hx hb d_Edges_flip_26 rfl (lv_at hl 1 rfl) ?_
  refine lv_ishl hx hb d_Edges_flip_27 ?_
  refine lv_ixor hx hb d_Edges_flip_28 ?_
  refine lv_topi (fun y29 ey29 => ?_)
  have hw := hw y29 ey29
  have hz := hw.1
  have hw := hw.2
  refine va_iast hx hb hE.1 hP hD hS 1 0 rfl rfl hz d_Edges_flip_29 (fun H locs hP hD hS => ?_)
  have hP : va_P (dC, dI) classes [(h_t, .inr (2, [.ref h_t_neighbours])), (h_t_neighbours, .inl (cI, 8, .inl (upd (upd t_neighbours ((a1 &&& (7 : Int32)).toNatClampNeg) y14) ((a2 &&& (7 : Int32)).toNatClampNeg) y29)))] H := hP
  have hD : va_D A [(h_t, .inr (2, [.ref h_t_neighbours])), (h_t_neighbours, .inl (cI, 8, .inl (upd (upd t_neighbours ((a1 &&& (7 : Int32)).toNatClampNeg) y14) ((a2 &&& (7 : Int32)).toNatClampNeg) y29)))] := hD
  exact W.vret hx hb hr (fun t ht hW => ⟨⟨(upd (upd t_neighbours ((a1 &&& (7 : Int32)).toNatClampNeg) y14) ((a2 &&& (7 : Int32)).toNatClampNeg) y29), rfl, hw, by rw [ht]; exact hP, hD⟩, hS.F ht⟩) hS.2.2 d_Edges_flip_30

-- SwapOrbits$Edges.joins(II)Z
abbrev rm_Edges_joins : Room := { frames := 0, cells := 0, slots := 0, locals := 0 }
def wp_Edges_joins (post : Int32 → Prop) (t_neighbours : Nat → Int32) (a1 : Int32) (a2 : Int32) : Prop := vp_in (a1 &&& (7 : Int32)) 8 ∧ ((((((t_neighbours ((a1 &&& (7 : Int32)).toNatClampNeg)).toUInt32 >>> (a2.toUInt32 &&& Int32.toUInt32 31)).toInt32) &&& (1 : Int32)) = (1 : Int32) → post (1 : Int32)) ∧ (¬ ((((t_neighbours ((a1 &&& (7 : Int32)).toNatClampNeg)).toUInt32 >>> (a2.toUInt32 &&& Int32.toUInt32 31)).toInt32) &&& (1 : Int32)) = (1 : Int32) → post (0 : Int32)))
set_option maxHeartbeats 4000000 in
set_option maxRecDepth 100000 in
theorem met_Edges_joins (l : Launch) (dC : Nat → ClassId) (dI : Nat → Nat → Nat) (cI cZ : ClassId) (h_t h_t_neighbours : Nat) (t_neighbours : Nat → Int32) (a1 : Int32) (a2 : Int32) (post : Int32 → Prop) (hw : wp_Edges_joins post t_neighbours a1 a2) : Met l y_Edges_joins (Cond.code y_Edges_joins b_Edges_joins 3 (some .boolean) :: gw) rm_Edges_joins (va_Pc [.ref h_t, .int a1, .int a2] (fun U => EV (dC, dI) cI cZ U ∧ va_P (dC, dI) classes [(h_t, .inr (2, [.ref h_t_neighbours])), (h_t_neighbours, .inl (cI, 8, .inl t_neighbours))] U.heap)) (vp_Si post) 0 0 (fun _ => False) := by
  refine Met.ofW (cc := b_Edges_joins) (maxL := 3) (ret := (some .boolean)) (by decide) rfl ?_
  intro p e s m args below meth c s₁ B hml hv
  obtain ⟨rfl, hE, hP⟩ := hv
  have C := CX.of (own := R_Edges) (D := (dC, dI)) (cI := cI) (cZ := cZ) B hml rfl hE
  obtain ⟨hx, hb, hr, -, hown, hts, hlocks, -⟩ := id C
  have hl := lv_entry ([.ref h_t, .int a1, .int a2]) (n := 3) (Nat.le_of_ble_eq_true rfl)
  rw [lg_entry_eq]
  generalize (lg_sl ([.ref h_t, .int a1, .int a2]) ++ List.replicate (3 - (lg_sl ([.ref h_t, .int a1, .int a2])).length) Slot.unset).toArray = ls at hl ⊢
  have hl : lv_has ls 3 [(0, .ref h_t), (1, .int a1), (2, .int a2)] := hl
  unfold wp_Edges_joins at hw
  refine lv_aload_n hx hb d_Edges_joins_0 rfl (lv_at hl 0 rfl) ?_
  refine va_get (D := (dC, dI)) (ci := 2) (v := .ref h_t_neighbours) (C := R_Edges) (T := F_Edges) (N := 1) hx hb hts i_Edges hown hE.1 hP 0 rfl rfl 0 (by decide) (hts _ kf_Edges_9) (fun _ h9 => h9) rfl d_Edges_joins_1 ?_
  refine lv_iload_n hx hb d_Edges_joins_4 rfl (lv_at hl 1 rfl) ?_
  refine lv_bipush (v := (7 : Int32)) hx hb d_Edges_joins_5 (by decide) ?_
  refine lv_iand hx hb d_Edges_joins_7 ?_
  have hz := hw.1
  have hw := hw.2
  refine va_iald hx hb hE.1 hP 1 0 rfl rfl hz d_Edges_joins_8 ?_
  refine lv_iload_n hx hb d_Edges_joins_9 rfl (lv_at hl 2 rfl) ?_
  refine lv_iushr (v := ((t_neighbours ((a1 &&& (7 : Int32)).toNatClampNeg)).toUInt32 >>> (a2.toUInt32 &&& Int32.toUInt32 31)).toInt32) hx hb d_Edges_joins_10 rfl ?_
  refine lv_iconst (v := (1 : Int32)) hx hb d_Edges_joins_11 (by decide) ?_
  refine lv_iand hx hb d_Edges_joins_12 ?_
  refine lv_iconst (v := (1 : Int32)) hx hb d_Edges_joins_13 (by decide) ?_
  refine lv_icmp_ne (tgt := 21) hx hb d_Edges_joins_14 (by decide) (fun c14 => ?_) (fun c14 => ?_)
  · have hw := hw.2 c14
    refine lv_iconst (v := (0 : Int32)) hx hb d_Edges_joins_21 (by decide) ?_
    exact W.zret (v := (0 : Int32)) hx hb hr rfl (fun t ht hW => ⟨(0 : Int32), rfl, hw, by rw [ht]⟩) (fun _ h => by cases h) d_Edges_joins_22
  · have hw := hw.1 c14
    refine lv_iconst (v := (1 : Int32)) hx hb d_Edges_joins_17 (by decide) ?_
    refine lv_goto (tgt := 22) hx hb d_Edges_joins_18 (by decide) ?_
    exact W.zret (v := (1 : Int32)) hx hb hr rfl (fun t ht hW => ⟨(1 : Int32), rfl, hw, by rw [ht]⟩) (fun _ h => by cases h) d_Edges_joins_22

-- SwapOrbits$Edges.total()I
abbrev rm_Edges_total : Room := { frames := 1, cells := 0, slots := 0, locals := 20 }
def L_Edges_total_4b (post : Int32 → Prop) (t_neighbours : Nat → Int32) (K4 : Int32 → Int32 → Prop) (v1 : Int32) (v2 : Int32) : Prop := ((8 : Int32) ≤ v2 → post (v1 >>> ((1 : Int32) &&& 31))) ∧ (¬ (8 : Int32) ≤ v2 → vp_in v2 8 ∧ (wp_Integer_bitCount (fun r17 => ∀ x1_21 : Int32, x1_21 = v1 + r17 → (∀ x2_22 : Int32, x2_22 = v2 + 1 → (K4 x1_21 x2_22))) (t_neighbours v2.toNatClampNeg)))
def L_Edges_total_4 (post : Int32 → Prop) (t_neighbours : Nat → Int32) : Nat → Int32 → Int32 → Prop
  | 0, _, _ => False
  | n + 1, v1, v2 => L_Edges_total_4b post t_neighbours (L_Edges_total_4 post t_neighbours n) v1 v2
def wp_Edges_total (post : Int32 → Prop) (t_neighbours : Nat → Int32) : Prop := ∃ n, L_Edges_total_4 post t_neighbours n (0 : Int32) (0 : Int32)
set_option maxHeartbeats 4000000 in
set_option maxRecDepth 100000 in
theorem qL_Edges_total_4 {p : Program} {l : Launch} {e : Env} {s : State} {m : MethodId} {args : Array Value} {below : List Frame} {meth : Method} {c : Code} {dC : Nat → ClassId} {dI : Nat → Nat → Nat} {cI cZ : ClassId} (C : CX p s m args meth c R_Edges b_Edges_total 3 (some .int) (dC, dI) cI cZ) {h_t h_t_neighbours : Nat} (post : Int32 → Prop) (t_neighbours : Nat → Int32) (hP : va_P (dC, dI) classes [(h_t, .inr (2, [.ref h_t_neighbours])), (h_t_neighbours, .inl (cI, 8, .inl t_neighbours))] s.heap) : ∀ (n : Nat) (v1 : Int32) (v2 : Int32) , L_Edges_total_4 post t_neighbours n v1 v2 → ∀ (ls : Array Slot), lv_has ls 3 [(0, .ref h_t), (1, .int v1), (2, .int v2)] → W p l e rm_Edges_total s m args below meth c s.heap [] 0 0 (MQ below (vp_Si post) args s 0 0 (fun _ => False)) (F0 m 4 ls []) := by
  obtain ⟨hx, hb, hr, hml, hown, hts, hlocks, hE⟩ := id C
  intro n
  induction n with
  | zero =>
    intro v1 v2 hw
    exact (show False from hw).elim
  | succ n ih =>
    intro v1 v2 hw ls hl
    have hw : L_Edges_total_4b post t_neighbours (L_Edges_total_4 post t_neighbours n) v1 v2 := hw
    unfold L_Edges_total_4b at hw
    refine lv_iload_n hx hb d_Edges_total_4 rfl (lv_at hl 2 rfl) ?_
    refine lv_bipush (v := (8 : Int32)) hx hb d_Edges_total_5 (by decide) ?_
    refine lv_icmp_ge (tgt := 28) hx hb d_Edges_total_7 (by decide) (fun c7 => ?_) (fun c7 => ?_)
    · have hw := hw.1 c7
      refine lv_iload_n hx hb d_Edges_total_28 rfl (lv_at hl 1 rfl) ?_
      refine lv_iconst (v := (1 : Int32)) hx hb d_Edges_total_29 (by decide) ?_
      refine lv_ishr hx hb d_Edges_total_30 ?_
      exact W.iret (v := (v1 >>> ((1 : Int32) &&& 31))) hx hb hr (fun t ht hW => ⟨(v1 >>> ((1 : Int32) &&& 31)), rfl, hw, by rw [ht]⟩) (fun _ h => by cases h) d_Edges_total_31
    · have hw := hw.2 c7
      refine lv_iload_n hx hb d_Edges_total_10 rfl (lv_at hl 1 rfl) ?_
      refine lv_aload_n hx hb d_Edges_total_11 rfl (lv_at hl 0 rfl) ?_
      refine va_get (D := (dC, dI)) (ci := 2) (v := .ref h_t_neighbours) (C := R_Edges) (T := F_Edges) (N := 1) hx hb hts i_Edges hown hE.1 hP 0 rfl rfl 0 (by decide) (hts _ kf_Edges_9) (fun _ h9 => h9) rfl d_Edges_total_12 ?_
      refine lv_iload_n hx hb d_Edges_total_15 rfl (lv_at hl 2 rfl) ?_
      have hz := hw.1
      have hw := hw.2
      refine va_iald hx hb hE.1 hP 1 0 rfl rfl hz d_Edges_total_16 ?_
      have hPc := hP.sub (ws' := []) [] rfl
      refine vp_callSi (va_Run.run (va_runS (As := [.int (t_neighbours v2.toNatClampNeg)]) (rest := [.int v1]) ⟨hx, hb, hml, hown, hts⟩ (met_Integer_bitCount l dC dI cI cZ  (t_neighbours v2.toNatClampNeg) _ hw) ⟨cB 1 hts kc_Integer_bitCount ki_Integer kl_Edges_21 hd_Integer_bitCount ⟨Nat.le_of_ble_eq_true rfl, Nat.le_of_ble_eq_true rfl⟩, hts _ ks_Integer_bitCount⟩ (preS_ro hE hPc) rfl rfl hl.1 rfl (lv_room (Nat.le_of_ble_eq_true rfl)) d_Edges_total_17 ⟨Nat.le_of_ble_eq_true rfl, Nat.le_of_ble_eq_true rfl⟩)) (fun r17 hw => ?_)
      refine lv_iadd hx hb d_Edges_total_20 ?_
      refine lv_topi (fun x1_21 ex1_21 => ?_)
      have hw := hw x1_21 ex1_21
      refine lv_istore_n (lv' := [(1, .int x1_21), (0, .ref h_t), (2, .int v2)]) hx hb d_Edges_total_21 rfl hl (by decide) rfl (fun ls hl => ?_)
      obtain ⟨x2_22, ex2_22⟩ : ∃ y : Int32, y = v2 + 1 := ⟨_, rfl⟩
      have hw := hw x2_22 ex2_22
      refine lv_iinc (v := x2_22) (lv' := [(2, .int x2_22), (1, .int x1_21), (0, .ref h_t)]) hx hb d_Edges_total_22 hl (k := 2) rfl (by rw [ex2_22]; rfl) (by decide) rfl (fun ls hl => ?_)
      refine lv_goto (tgt := 4) hx hb d_Edges_total_25 (by decide) ?_
      exact ih x1_21 x2_22 hw ls (lv_sub hl [2, 1, 0] rfl)
set_option maxHeartbeats 4000000 in
set_option maxRecDepth 100000 in
theorem met_Edges_total (l : Launch) (dC : Nat → ClassId) (dI : Nat → Nat → Nat) (cI cZ : ClassId) (h_t h_t_neighbours : Nat) (t_neighbours : Nat → Int32) (post : Int32 → Prop) (hw : wp_Edges_total post t_neighbours) : Met l y_Edges_total (Cond.code y_Edges_total b_Edges_total 3 (some .int) :: gw) rm_Edges_total (va_Pc [.ref h_t] (fun U => EV (dC, dI) cI cZ U ∧ va_P (dC, dI) classes [(h_t, .inr (2, [.ref h_t_neighbours])), (h_t_neighbours, .inl (cI, 8, .inl t_neighbours))] U.heap)) (vp_Si post) 0 0 (fun _ => False) := by
  refine Met.ofW (cc := b_Edges_total) (maxL := 3) (ret := (some .int)) (by decide) rfl ?_
  intro p e s m args below meth c s₁ B hml hv
  obtain ⟨rfl, hE, hP⟩ := hv
  have C := CX.of (own := R_Edges) (D := (dC, dI)) (cI := cI) (cZ := cZ) B hml rfl hE
  obtain ⟨hx, hb, hr, -, hown, hts, hlocks, -⟩ := id C
  have hl := lv_entry ([.ref h_t]) (n := 3) (Nat.le_of_ble_eq_true rfl)
  rw [lg_entry_eq]
  generalize (lg_sl ([.ref h_t]) ++ List.replicate (3 - (lg_sl ([.ref h_t])).length) Slot.unset).toArray = ls at hl ⊢
  have hl : lv_has ls 3 [(0, .ref h_t)] := hl
  unfold wp_Edges_total at hw
  refine lv_iconst (v := (0 : Int32)) hx hb d_Edges_total_0 (by decide) ?_
  refine lv_istore_n (lv' := [(1, .int (0 : Int32)), (0, .ref h_t)]) hx hb d_Edges_total_1 rfl hl (by decide) rfl (fun ls hl => ?_)
  refine lv_iconst (v := (0 : Int32)) hx hb d_Edges_total_2 (by decide) ?_
  refine lv_istore_n (lv' := [(2, .int (0 : Int32)), (1, .int (0 : Int32)), (0, .ref h_t)]) hx hb d_Edges_total_3 rfl hl (by decide) rfl (fun ls hl => ?_)
  obtain ⟨n4, hw⟩ := hw
  exact qL_Edges_total_4 C post  t_neighbours hP  n4 (0 : Int32) (0 : Int32) hw ls (lv_sub hl [2, 1, 0] rfl)

-- SwapOrbits$Edges.areAllTakenToEdges(I)Z
abbrev rm_Edges_areAllTakenToEdges : Room := { frames := 1, cells := 0, slots := 0, locals := 22 }
def L_Edges_areAllTakenToEdges_10b (post : Int32 → Prop) (K2 : Int32 → Prop) (t_neighbours : Nat → Int32) (v1 : Int32) (v2 : Int32) (K10 : Int32 → Prop) (v3 : Int32) : Prop := (v2 ≤ v3 → ∀ x2_49 : Int32, x2_49 = v2 + 1 → (K2 x2_49)) ∧ (¬ v2 ≤ v3 → wp_Edges_joins (fun r18 => (r18 = 0 → ∀ x3_43 : Int32, x3_43 = v3 + 1 → (K10 x3_43)) ∧ (¬ r18 = 0 → wp_Rows_target (fun r27 => wp_Rows_target (fun r32 => wp_Edges_joins (fun r35 => (r35 = 0 → post (0 : Int32)) ∧ (¬ r35 = 0 → ∀ x3_43 : Int32, x3_43 = v3 + 1 → (K10 x3_43))) t_neighbours r27 r32) v1 v3) v1 v2)) t_neighbours v2 v3)
def L_Edges_areAllTakenToEdges_10 (post : Int32 → Prop) (K2 : Int32 → Prop) (t_neighbours : Nat → Int32) (v1 : Int32) (v2 : Int32) : Nat → Int32 → Prop
  | 0, _ => False
  | n + 1, v3 => L_Edges_areAllTakenToEdges_10b post K2 t_neighbours v1 v2 (L_Edges_areAllTakenToEdges_10 post K2 t_neighbours v1 v2 n) v3
def L_Edges_areAllTakenToEdges_2b (post : Int32 → Prop) (t_neighbours : Nat → Int32) (v1 : Int32) (K2 : Int32 → Prop) (v2 : Int32) : Prop := ((8 : Int32) ≤ v2 → post (1 : Int32)) ∧ (¬ (8 : Int32) ≤ v2 → ∃ n, L_Edges_areAllTakenToEdges_10 post K2 t_neighbours v1 v2 n (0 : Int32))
def L_Edges_areAllTakenToEdges_2 (post : Int32 → Prop) (t_neighbours : Nat → Int32) (v1 : Int32) : Nat → Int32 → Prop
  | 0, _ => False
  | n + 1, v2 => L_Edges_areAllTakenToEdges_2b post t_neighbours v1 (L_Edges_areAllTakenToEdges_2 post t_neighbours v1 n) v2
def wp_Edges_areAllTakenToEdges (post : Int32 → Prop) (t_neighbours : Nat → Int32) (a1 : Int32) : Prop := ∃ n, L_Edges_areAllTakenToEdges_2 post t_neighbours a1 n (0 : Int32)
set_option maxHeartbeats 4000000 in
set_option maxRecDepth 100000 in
theorem qL_Edges_areAllTakenToEdges_10 {p : Program} {l : Launch} {e : Env} {s : State} {m : MethodId} {args : Array Value} {below : List Frame} {meth : Method} {c : Code} {dC : Nat → ClassId} {dI : Nat → Nat → Nat} {cI cZ : ClassId} (C : CX p s m args meth c R_Edges b_Edges_areAllTakenToEdges 4 (some .boolean) (dC, dI) cI cZ) {h_t h_t_neighbours : Nat} (post : Int32 → Prop) (K2 : Int32 → Prop) (t_neighbours : Nat → Int32) (v1 : Int32) (v2 : Int32) (hP : va_P (dC, dI) classes [(h_t, .inr (2, [.ref h_t_neighbours])), (h_t_neighbours, .inl (cI, 8, .inl t_neighbours))] s.heap) (hK2 : ∀ (v2 : Int32), K2 v2 → ∀ (ls : Array Slot), lv_has ls 4 [(0, .ref h_t), (1, .int v1), (2, .int v2)] → W p l e rm_Edges_areAllTakenToEdges s m args below meth c s.heap [] 0 0 (MQ below (vp_Si post) args s 0 0 (fun _ => False)) (F0 m 2 ls [])) : ∀ (n : Nat) (v3 : Int32) , L_Edges_areAllTakenToEdges_10 post K2 t_neighbours v1 v2 n v3 → ∀ (ls : Array Slot), lv_has ls 4 [(0, .ref h_t), (1, .int v1), (2, .int v2), (3, .int v3)] → W p l e rm_Edges_areAllTakenToEdges s m args below meth c s.heap [] 0 0 (MQ below (vp_Si post) args s 0 0 (fun _ => False)) (F0 m 10 ls []) := by
  obtain ⟨hx, hb, hr, hml, hown, hts, hlocks, hE⟩ := id C
  intro n
  induction n with
  | zero =>
    intro v3 hw
    exact (show False from hw).elim
  | succ n ih =>
    intro v3 hw ls hl
    have hw : L_Edges_areAllTakenToEdges_10b post K2 t_neighbours v1 v2 (L_Edges_areAllTakenToEdges_10 post K2 t_neighbours v1 v2 n) v3 := hw
    unfold L_Edges_areAllTakenToEdges_10b at hw
    refine lv_iload_n hx hb d_Edges_areAllTakenToEdges_10 rfl (lv_at hl 3 rfl) ?_
    refine lv_iload_n hx hb d_Edges_areAllTakenToEdges_11 rfl (lv_at hl 2 rfl) ?_
    refine lv_icmp_ge (tgt := 49) hx hb d_Edges_areAllTakenToEdges_12 (by decide) (fun c12 => ?_) (fun c12 => ?_)
    · have hw := hw.1 c12
      obtain ⟨x2_49, ex2_49⟩ : ∃ y : Int32, y = v2 + 1 := ⟨_, rfl⟩
      have hw := hw x2_49 ex2_49
      refine lv_iinc (v := x2_49) (lv' := [(2, .int x2_49), (0, .ref h_t), (1, .int v1), (3, .int v3)]) hx hb d_Edges_areAllTakenToEdges_49 hl (k := 2) rfl (by rw [ex2_49]; rfl) (by decide) rfl (fun ls hl => ?_)
      refine lv_goto (tgt := 2) hx hb d_Edges_areAllTakenToEdges_52 (by decide) ?_
      exact hK2 x2_49 hw ls (lv_sub hl [1, 2, 0] rfl)
    · have hw := hw.2 c12
      refine lv_aload_n hx hb d_Edges_areAllTakenToEdges_15 rfl (lv_at hl 0 rfl) ?_
      refine lv_iload_n hx hb d_Edges_areAllTakenToEdges_16 rfl (lv_at hl 2 rfl) ?_
      refine lv_iload_n hx hb d_Edges_areAllTakenToEdges_17 rfl (lv_at hl 3 rfl) ?_
      have hPc := hP.sub (ws' := [(h_t, .inr (2, [.ref h_t_neighbours])), (h_t_neighbours, .inl (cI, 8, .inl t_neighbours))]) [0, 1] rfl
      refine vp_callSi (va_Run.run (va_runV (As := [.int v2, .int v3]) (rest := []) ⟨hx, hb, hml, hown, hts⟩ (met_Edges_joins l dC dI cI cZ h_t h_t_neighbours  t_neighbours v2 v3 _ hw) ⟨cB 2 hts kc_Edges_joins ki_Edges kl_Edges_40 hd_Edges_joins ⟨Nat.le_of_ble_eq_true rfl, Nat.le_of_ble_eq_true rfl⟩, hts _ kn_Edges_joins, hts _ ke_Edges_joins⟩ (preV_ro hE hPc (va_recv hE.1 hPc (ci := 2) (q0 := 0) rfl rfl)) rfl rfl hl.1 rfl (lv_room (Nat.le_of_ble_eq_true rfl)) d_Edges_areAllTakenToEdges_18 ⟨Nat.le_of_ble_eq_true rfl, Nat.le_of_ble_eq_true rfl⟩)) (fun r18 hw => ?_)
      refine lv_if_eq (tgt := 43) hx hb d_Edges_areAllTakenToEdges_21 (by decide) (fun c21 => ?_) (fun c21 => ?_)
      · have hw := hw.1 c21
        obtain ⟨x3_43, ex3_43⟩ : ∃ y : Int32, y = v3 + 1 := ⟨_, rfl⟩
        have hw := hw x3_43 ex3_43
        refine lv_iinc (v := x3_43) (lv' := [(3, .int x3_43), (0, .ref h_t), (1, .int v1), (2, .int v2)]) hx hb d_Edges_areAllTakenToEdges_43 hl (k := 3) rfl (by rw [ex3_43]; rfl) (by decide) rfl (fun ls hl => ?_)
        refine lv_goto (tgt := 10) hx hb d_Edges_areAllTakenToEdges_46 (by decide) ?_
        exact ih x3_43 hw ls (lv_sub hl [1, 2, 3, 0] rfl)
      · have hw := hw.2 c21
        refine lv_aload_n hx hb d_Edges_areAllTakenToEdges_24 rfl (lv_at hl 0 rfl) ?_
        refine lv_iload_n hx hb d_Edges_areAllTakenToEdges_25 rfl (lv_at hl 1 rfl) ?_
        refine lv_iload_n hx hb d_Edges_areAllTakenToEdges_26 rfl (lv_at hl 2 rfl) ?_
        have hPc := hP.sub (ws' := []) [] rfl
        refine vp_callSi (va_Run.run (va_runS (As := [.int v1, .int v2]) (rest := [.ref h_t]) ⟨hx, hb, hml, hown, hts⟩ (met_Rows_target l dC dI cI cZ  v1 v2 _ hw) ⟨cB 2 hts kc_Rows_target ki_Rows kl_Edges_44 hd_Rows_target ⟨Nat.le_of_ble_eq_true rfl, Nat.le_of_ble_eq_true rfl⟩, hts _ ks_Rows_target⟩ (preS_ro hE hPc) rfl rfl hl.1 rfl (lv_room (Nat.le_of_ble_eq_true rfl)) d_Edges_areAllTakenToEdges_27 ⟨Nat.le_of_ble_eq_true rfl, Nat.le_of_ble_eq_true rfl⟩)) (fun r27 hw => ?_)
        refine lv_iload_n hx hb d_Edges_areAllTakenToEdges_30 rfl (lv_at hl 1 rfl) ?_
        refine lv_iload_n hx hb d_Edges_areAllTakenToEdges_31 rfl (lv_at hl 3 rfl) ?_
        have hPc := hP.sub (ws' := []) [] rfl
        refine vp_callSi (va_Run.run (va_runS (As := [.int v1, .int v3]) (rest := [.int r27, .ref h_t]) ⟨hx, hb, hml, hown, hts⟩ (met_Rows_target l dC dI cI cZ  v1 v3 _ hw) ⟨cB 2 hts kc_Rows_target ki_Rows kl_Edges_44 hd_Rows_target ⟨Nat.le_of_ble_eq_true rfl, Nat.le_of_ble_eq_true rfl⟩, hts _ ks_Rows_target⟩ (preS_ro hE hPc) rfl rfl hl.1 rfl (lv_room (Nat.le_of_ble_eq_true rfl)) d_Edges_areAllTakenToEdges_32 ⟨Nat.le_of_ble_eq_true rfl, Nat.le_of_ble_eq_true rfl⟩)) (fun r32 hw => ?_)
        have hPc := hP.sub (ws' := [(h_t, .inr (2, [.ref h_t_neighbours])), (h_t_neighbours, .inl (cI, 8, .inl t_neighbours))]) [0, 1] rfl
        refine vp_callSi (va_Run.run (va_runV (As := [.int r27, .int r32]) (rest := []) ⟨hx, hb, hml, hown, hts⟩ (met_Edges_joins l dC dI cI cZ h_t h_t_neighbours  t_neighbours r27 r32 _ hw) ⟨cB 2 hts kc_Edges_joins ki_Edges kl_Edges_40 hd_Edges_joins ⟨Nat.le_of_ble_eq_true rfl, Nat.le_of_ble_eq_true rfl⟩, hts _ kn_Edges_joins, hts _ ke_Edges_joins⟩ (preV_ro hE hPc (va_recv hE.1 hPc (ci := 2) (q0 := 0) rfl rfl)) rfl rfl hl.1 rfl (lv_room (Nat.le_of_ble_eq_true rfl)) d_Edges_areAllTakenToEdges_35 ⟨Nat.le_of_ble_eq_true rfl, Nat.le_of_ble_eq_true rfl⟩)) (fun r35 hw => ?_)
        refine lv_if_ne (tgt := 43) hx hb d_Edges_areAllTakenToEdges_38 (by decide) (fun c38 => ?_) (fun c38 => ?_)
        · have hw := hw.2 c38
          obtain ⟨x3_43, ex3_43⟩ : ∃ y : Int32, y = v3 + 1 := ⟨_, rfl⟩
          have hw := hw x3_43 ex3_43
          refine lv_iinc (v := x3_43) (lv' := [(3, .int x3_43), (0, .ref h_t), (1, .int v1), (2, .int v2)]) hx hb d_Edges_areAllTakenToEdges_43 hl (k := 3) rfl (by rw [ex3_43]; rfl) (by decide) rfl (fun ls hl => ?_)
          refine lv_goto (tgt := 10) hx hb d_Edges_areAllTakenToEdges_46 (by decide) ?_
          exact ih x3_43 hw ls (lv_sub hl [1, 2, 3, 0] rfl)
        · have hw := hw.1 c38
          refine lv_iconst (v := (0 : Int32)) hx hb d_Edges_areAllTakenToEdges_41 (by decide) ?_
          exact W.zret (v := (0 : Int32)) hx hb hr rfl (fun t ht hW => ⟨(0 : Int32), rfl, hw, by rw [ht]⟩) (fun _ h => by cases h) d_Edges_areAllTakenToEdges_42
set_option maxHeartbeats 4000000 in
set_option maxRecDepth 100000 in
theorem qL_Edges_areAllTakenToEdges_2 {p : Program} {l : Launch} {e : Env} {s : State} {m : MethodId} {args : Array Value} {below : List Frame} {meth : Method} {c : Code} {dC : Nat → ClassId} {dI : Nat → Nat → Nat} {cI cZ : ClassId} (C : CX p s m args meth c R_Edges b_Edges_areAllTakenToEdges 4 (some .boolean) (dC, dI) cI cZ) {h_t h_t_neighbours : Nat} (post : Int32 → Prop) (t_neighbours : Nat → Int32) (v1 : Int32) (hP : va_P (dC, dI) classes [(h_t, .inr (2, [.ref h_t_neighbours])), (h_t_neighbours, .inl (cI, 8, .inl t_neighbours))] s.heap) : ∀ (n : Nat) (v2 : Int32) , L_Edges_areAllTakenToEdges_2 post t_neighbours v1 n v2 → ∀ (ls : Array Slot), lv_has ls 4 [(0, .ref h_t), (1, .int v1), (2, .int v2)] → W p l e rm_Edges_areAllTakenToEdges s m args below meth c s.heap [] 0 0 (MQ below (vp_Si post) args s 0 0 (fun _ => False)) (F0 m 2 ls []) := by
  obtain ⟨hx, hb, hr, hml, hown, hts, hlocks, hE⟩ := id C
  intro n
  induction n with
  | zero =>
    intro v2 hw
    exact (show False from hw).elim
  | succ n ih =>
    intro v2 hw ls hl
    have hw : L_Edges_areAllTakenToEdges_2b post t_neighbours v1 (L_Edges_areAllTakenToEdges_2 post t_neighbours v1 n) v2 := hw
    unfold L_Edges_areAllTakenToEdges_2b at hw
    refine lv_iload_n hx hb d_Edges_areAllTakenToEdges_2 rfl (lv_at hl 2 rfl) ?_
    refine lv_bipush (v := (8 : Int32)) hx hb d_Edges_areAllTakenToEdges_3 (by decide) ?_
    refine lv_icmp_ge (tgt := 55) hx hb d_Edges_areAllTakenToEdges_5 (by decide) (fun c5 => ?_) (fun c5 => ?_)
    · have hw := hw.1 c5
      refine lv_iconst (v := (1 : Int32)) hx hb d_Edges_areAllTakenToEdges_55 (by decide) ?_
      exact W.zret (v := (1 : Int32)) hx hb hr rfl (fun t ht hW => ⟨(1 : Int32), rfl, hw, by rw [ht]⟩) (fun _ h => by cases h) d_Edges_areAllTakenToEdges_56
    · have hw := hw.2 c5
      refine lv_iconst (v := (0 : Int32)) hx hb d_Edges_areAllTakenToEdges_8 (by decide) ?_
      refine lv_istore_n (lv' := [(3, .int (0 : Int32)), (0, .ref h_t), (1, .int v1), (2, .int v2)]) hx hb d_Edges_areAllTakenToEdges_9 rfl hl (by decide) rfl (fun ls hl => ?_)
      obtain ⟨n10, hw⟩ := hw
      exact qL_Edges_areAllTakenToEdges_10 C post _ t_neighbours v1 v2 hP ih n10 (0 : Int32) hw ls (lv_sub hl [1, 2, 3, 0] rfl)
set_option maxHeartbeats 4000000 in
set_option maxRecDepth 100000 in
theorem met_Edges_areAllTakenToEdges (l : Launch) (dC : Nat → ClassId) (dI : Nat → Nat → Nat) (cI cZ : ClassId) (h_t h_t_neighbours : Nat) (t_neighbours : Nat → Int32) (a1 : Int32) (post : Int32 → Prop) (hw : wp_Edges_areAllTakenToEdges post t_neighbours a1) : Met l y_Edges_areAllTakenToEdges (Cond.code y_Edges_areAllTakenToEdges b_Edges_areAllTakenToEdges 4 (some .boolean) :: gw) rm_Edges_areAllTakenToEdges (va_Pc [.ref h_t, .int a1] (fun U => EV (dC, dI) cI cZ U ∧ va_P (dC, dI) classes [(h_t, .inr (2, [.ref h_t_neighbours])), (h_t_neighbours, .inl (cI, 8, .inl t_neighbours))] U.heap)) (vp_Si post) 0 0 (fun _ => False) := by
  refine Met.ofW (cc := b_Edges_areAllTakenToEdges) (maxL := 4) (ret := (some .boolean)) (by decide) rfl ?_
  intro p e s m args below meth c s₁ B hml hv
  obtain ⟨rfl, hE, hP⟩ := hv
  have C := CX.of (own := R_Edges) (D := (dC, dI)) (cI := cI) (cZ := cZ) B hml rfl hE
  obtain ⟨hx, hb, hr, -, hown, hts, hlocks, -⟩ := id C
  have hl := lv_entry ([.ref h_t, .int a1]) (n := 4) (Nat.le_of_ble_eq_true rfl)
  rw [lg_entry_eq]
  generalize (lg_sl ([.ref h_t, .int a1]) ++ List.replicate (4 - (lg_sl ([.ref h_t, .int a1])).length) Slot.unset).toArray = ls at hl ⊢
  have hl : lv_has ls 4 [(0, .ref h_t), (1, .int a1)] := hl
  unfold wp_Edges_areAllTakenToEdges at hw
  refine lv_iconst (v := (0 : Int32)) hx hb d_Edges_areAllTakenToEdges_0 (by decide) ?_
  refine lv_istore_n (lv' := [(2, .int (0 : Int32)), (0, .ref h_t), (1, .int a1)]) hx hb d_Edges_areAllTakenToEdges_1 rfl hl (by decide) rfl (fun ls hl => ?_)
  obtain ⟨n2, hw⟩ := hw
  exact qL_Edges_areAllTakenToEdges_2 C post  t_neighbours a1 hP  n2 (0 : Int32) hw ls (lv_sub hl [1, 2, 0] rfl)

-- SwapOrbits$Edges.areKeptBy(LSwapOrbits$Moves;)Z
abbrev rm_Edges_areKeptBy : Room := { frames := 2, cells := 0, slots := 0, locals := 45 }
def L_Edges_areKeptBy_2b (post : Int32 → Prop) (t_neighbours : Nat → Int32) (a1_count : Int32) (a1_rows : Nat → Int32) (K2 : Int32 → Prop) (v2 : Int32) : Prop := (a1_count ≤ v2 → post (1 : Int32)) ∧ (¬ a1_count ≤ v2 → vp_in v2 5 ∧ (wp_Edges_areAllTakenToEdges (fun r17 => (r17 = 0 → post (0 : Int32)) ∧ (¬ r17 = 0 → ∀ x2_25 : Int32, x2_25 = v2 + 1 → (K2 x2_25))) t_neighbours (a1_rows v2.toNatClampNeg)))
def L_Edges_areKeptBy_2 (post : Int32 → Prop) (t_neighbours : Nat → Int32) (a1_count : Int32) (a1_rows : Nat → Int32) : Nat → Int32 → Prop
  | 0, _ => False
  | n + 1, v2 => L_Edges_areKeptBy_2b post t_neighbours a1_count a1_rows (L_Edges_areKeptBy_2 post t_neighbours a1_count a1_rows n) v2
def wp_Edges_areKeptBy (post : Int32 → Prop) (t_neighbours : Nat → Int32) (a1_count : Int32) (a1_rows : Nat → Int32) : Prop := ∃ n, L_Edges_areKeptBy_2 post t_neighbours a1_count a1_rows n (0 : Int32)
set_option maxHeartbeats 4000000 in
set_option maxRecDepth 100000 in
theorem qL_Edges_areKeptBy_2 {p : Program} {l : Launch} {e : Env} {s : State} {m : MethodId} {args : Array Value} {below : List Frame} {meth : Method} {c : Code} {dC : Nat → ClassId} {dI : Nat → Nat → Nat} {cI cZ : ClassId} (C : CX p s m args meth c R_Edges b_Edges_areKeptBy 3 (some .boolean) (dC, dI) cI cZ) {h_t h_t_neighbours h_a1 h_a1_rows : Nat} (post : Int32 → Prop) (t_neighbours : Nat → Int32) (a1_count : Int32) (a1_rows : Nat → Int32) (hP : va_P (dC, dI) classes [(h_t, .inr (2, [.ref h_t_neighbours])), (h_t_neighbours, .inl (cI, 8, .inl t_neighbours)), (h_a1, .inr (1, [.ref h_a1_rows, .int a1_count])), (h_a1_rows, .inl (cI, 5, .inl a1_rows))] s.heap) : ∀ (n : Nat) (v2 : Int32) , L_Edges_areKeptBy_2 post t_neighbours a1_count a1_rows n v2 → ∀ (ls : Array Slot), lv_has ls 3 [(0, .ref h_t), (1, .ref h_a1), (2, .int v2)] → W p l e rm_Edges_areKeptBy s m args below meth c s.heap [] 0 0 (MQ below (vp_Si post) args s 0 0 (fun _ => False)) (F0 m 2 ls []) := by
  obtain ⟨hx, hb, hr, hml, hown, hts, hlocks, hE⟩ := id C
  intro n
  induction n with
  | zero =>
    intro v2 hw
    exact (show False from hw).elim
  | succ n ih =>
    intro v2 hw ls hl
    have hw : L_Edges_areKeptBy_2b post t_neighbours a1_count a1_rows (L_Edges_areKeptBy_2 post t_neighbours a1_count a1_rows n) v2 := hw
    unfold L_Edges_areKeptBy_2b at hw
    refine lv_iload_n hx hb d_Edges_areKeptBy_2 rfl (lv_at hl 2 rfl) ?_
    refine lv_aload_n hx hb d_Edges_areKeptBy_3 rfl (lv_at hl 1 rfl) ?_
    refine va_getN (D := (dC, dI)) (ci := 1) (v := .int a1_count) (C := R_Moves) (T := F_Moves) (N := 2) hx hb hts i_Moves hown hE.1 hP 2 rfl rfl 1 (by decide) (va_Nw.use rfl (hE.2 _ kf_Edges_27 rfl)) (fun _ h9 => h9) rfl d_Edges_areKeptBy_4 ?_
    refine lv_icmp_ge (tgt := 31) hx hb d_Edges_areKeptBy_7 (by decide) (fun c7 => ?_) (fun c7 => ?_)
    · have hw := hw.1 c7
      refine lv_iconst (v := (1 : Int32)) hx hb d_Edges_areKeptBy_31 (by decide) ?_
      exact W.zret (v := (1 : Int32)) hx hb hr rfl (fun t ht hW => ⟨(1 : Int32), rfl, hw, by rw [ht]⟩) (fun _ h => by cases h) d_Edges_areKeptBy_32
    · have hw := hw.2 c7
      refine lv_aload_n hx hb d_Edges_areKeptBy_10 rfl (lv_at hl 0 rfl) ?_
      refine lv_aload_n hx hb d_Edges_areKeptBy_11 rfl (lv_at hl 1 rfl) ?_
      refine va_getN (D := (dC, dI)) (ci := 1) (v := .ref h_a1_rows) (C := R_Moves) (T := F_Moves) (N := 2) hx hb hts i_Moves hown hE.1 hP 2 rfl rfl 0 (by decide) (va_Nw.use rfl (hE.2 _ kf_Edges_33 rfl)) (fun _ h9 => h9) rfl d_Edges_areKeptBy_12 ?_
      refine lv_iload_n hx hb d_Edges_areKeptBy_15 rfl (lv_at hl 2 rfl) ?_
      have hz := hw.1
      have hw := hw.2
      refine va_iald hx hb hE.1 hP 3 0 rfl rfl hz d_Edges_areKeptBy_16 ?_
      have hPc := hP.sub (ws' := [(h_t, .inr (2, [.ref h_t_neighbours])), (h_t_neighbours, .inl (cI, 8, .inl t_neighbours))]) [0, 1] rfl
      refine vp_callSi (va_Run.run (va_runV (As := [.int (a1_rows v2.toNatClampNeg)]) (rest := []) ⟨hx, hb, hml, hown, hts⟩ (met_Edges_areAllTakenToEdges l dC dI cI cZ h_t h_t_neighbours  t_neighbours (a1_rows v2.toNatClampNeg) _ hw) ⟨cB 1 hts kc_Edges_areAllTakenToEdges ki_Edges kl_Edges_36 hd_Edges_areAllTakenToEdges ⟨Nat.le_of_ble_eq_true rfl, Nat.le_of_ble_eq_true rfl⟩, hts _ kn_Edges_areAllTakenToEdges, hts _ ke_Edges_areAllTakenToEdges⟩ (preV_ro hE hPc (va_recv hE.1 hPc (ci := 2) (q0 := 0) rfl rfl)) rfl rfl hl.1 rfl (lv_room (Nat.le_of_ble_eq_true rfl)) d_Edges_areKeptBy_17 ⟨Nat.le_of_ble_eq_true rfl, Nat.le_of_ble_eq_true rfl⟩)) (fun r17 hw => ?_)
      refine lv_if_ne (tgt := 25) hx hb d_Edges_areKeptBy_20 (by decide) (fun c20 => ?_) (fun c20 => ?_)
      · have hw := hw.2 c20
        obtain ⟨x2_25, ex2_25⟩ : ∃ y : Int32, y = v2 + 1 := ⟨_, rfl⟩
        have hw := hw x2_25 ex2_25
        refine lv_iinc (v := x2_25) (lv' := [(2, .int x2_25), (0, .ref h_t), (1, .ref h_a1)]) hx hb d_Edges_areKeptBy_25 hl (k := 2) rfl (by rw [ex2_25]; rfl) (by decide) rfl (fun ls hl => ?_)
        refine lv_goto (tgt := 2) hx hb d_Edges_areKeptBy_28 (by decide) ?_
        exact ih x2_25 hw ls (lv_sub hl [1, 2, 0] rfl)
      · have hw := hw.1 c20
        refine lv_iconst (v := (0 : Int32)) hx hb d_Edges_areKeptBy_23 (by decide) ?_
        exact W.zret (v := (0 : Int32)) hx hb hr rfl (fun t ht hW => ⟨(0 : Int32), rfl, hw, by rw [ht]⟩) (fun _ h => by cases h) d_Edges_areKeptBy_24
set_option maxHeartbeats 4000000 in
set_option maxRecDepth 100000 in
theorem met_Edges_areKeptBy (l : Launch) (dC : Nat → ClassId) (dI : Nat → Nat → Nat) (cI cZ : ClassId) (h_t h_t_neighbours h_a1 h_a1_rows : Nat) (t_neighbours : Nat → Int32) (a1_count : Int32) (a1_rows : Nat → Int32) (post : Int32 → Prop) (hw : wp_Edges_areKeptBy post t_neighbours a1_count a1_rows) : Met l y_Edges_areKeptBy (Cond.code y_Edges_areKeptBy b_Edges_areKeptBy 3 (some .boolean) :: gw) rm_Edges_areKeptBy (va_Pc [.ref h_t, .ref h_a1] (fun U => EV (dC, dI) cI cZ U ∧ va_P (dC, dI) classes [(h_t, .inr (2, [.ref h_t_neighbours])), (h_t_neighbours, .inl (cI, 8, .inl t_neighbours)), (h_a1, .inr (1, [.ref h_a1_rows, .int a1_count])), (h_a1_rows, .inl (cI, 5, .inl a1_rows))] U.heap)) (vp_Si post) 0 0 (fun _ => False) := by
  refine Met.ofW (cc := b_Edges_areKeptBy) (maxL := 3) (ret := (some .boolean)) (by decide) rfl ?_
  intro p e s m args below meth c s₁ B hml hv
  obtain ⟨rfl, hE, hP⟩ := hv
  have C := CX.of (own := R_Edges) (D := (dC, dI)) (cI := cI) (cZ := cZ) B hml rfl hE
  obtain ⟨hx, hb, hr, -, hown, hts, hlocks, -⟩ := id C
  have hl := lv_entry ([.ref h_t, .ref h_a1]) (n := 3) (Nat.le_of_ble_eq_true rfl)
  rw [lg_entry_eq]
  generalize (lg_sl ([.ref h_t, .ref h_a1]) ++ List.replicate (3 - (lg_sl ([.ref h_t, .ref h_a1])).length) Slot.unset).toArray = ls at hl ⊢
  have hl : lv_has ls 3 [(0, .ref h_t), (1, .ref h_a1)] := hl
  unfold wp_Edges_areKeptBy at hw
  refine lv_iconst (v := (0 : Int32)) hx hb d_Edges_areKeptBy_0 (by decide) ?_
  refine lv_istore_n (lv' := [(2, .int (0 : Int32)), (0, .ref h_t), (1, .ref h_a1)]) hx hb d_Edges_areKeptBy_1 rfl hl (by decide) rfl (fun ls hl => ?_)
  obtain ⟨n2, hw⟩ := hw
  exact qL_Edges_areKeptBy_2 C post  t_neighbours a1_count a1_rows hP  n2 (0 : Int32) hw ls (lv_sub hl [1, 2, 0] rfl)

-- SwapOrbits$Edges.isLikeALesserNeighbour(II)Z
abbrev rm_Edges_isLikeALesserNeighbour : Room := { frames := 1, cells := 0, slots := 0, locals := 22 }
def L_Edges_isLikeALesserNeighbour_9b (post : Int32 → Prop) (t_neighbours : Nat → Int32) (v1 : Int32) (v2 : Int32) (v3 : Int32) (K9 : Int32 → Prop) (v4 : Int32) : Prop := (v2 ≤ v4 → post (0 : Int32)) ∧ (¬ v2 ≤ v4 → wp_Edges_joins (fun r19 => (r19 = 0 → ∀ x4_37 : Int32, x4_37 = v4 + 1 → (K9 x4_37)) ∧ (¬ r19 = 0 → wp_Plans_colourAt (fun r28 => (r28 = v3 → post (1 : Int32)) ∧ (¬ r28 = v3 → ∀ x4_37 : Int32, x4_37 = v4 + 1 → (K9 x4_37))) v1 v4)) t_neighbours v2 v4)
def L_Edges_isLikeALesserNeighbour_9 (post : Int32 → Prop) (t_neighbours : Nat → Int32) (v1 : Int32) (v2 : Int32) (v3 : Int32) : Nat → Int32 → Prop
  | 0, _ => False
  | n + 1, v4 => L_Edges_isLikeALesserNeighbour_9b post t_neighbours v1 v2 v3 (L_Edges_isLikeALesserNeighbour_9 post t_neighbours v1 v2 v3 n) v4
def wp_Edges_isLikeALesserNeighbour (post : Int32 → Prop) (t_neighbours : Nat → Int32) (a1 : Int32) (a2 : Int32) : Prop := wp_Plans_colourAt (fun r2 => ∃ n, L_Edges_isLikeALesserNeighbour_9 post t_neighbours a1 a2 r2 n (0 : Int32)) a1 a2
set_option maxHeartbeats 4000000 in
set_option maxRecDepth 100000 in
theorem qL_Edges_isLikeALesserNeighbour_9 {p : Program} {l : Launch} {e : Env} {s : State} {m : MethodId} {args : Array Value} {below : List Frame} {meth : Method} {c : Code} {dC : Nat → ClassId} {dI : Nat → Nat → Nat} {cI cZ : ClassId} (C : CX p s m args meth c R_Edges b_Edges_isLikeALesserNeighbour 5 (some .boolean) (dC, dI) cI cZ) {h_t h_t_neighbours : Nat} (post : Int32 → Prop) (t_neighbours : Nat → Int32) (v1 : Int32) (v2 : Int32) (v3 : Int32) (hP : va_P (dC, dI) classes [(h_t, .inr (2, [.ref h_t_neighbours])), (h_t_neighbours, .inl (cI, 8, .inl t_neighbours))] s.heap) : ∀ (n : Nat) (v4 : Int32) , L_Edges_isLikeALesserNeighbour_9 post t_neighbours v1 v2 v3 n v4 → ∀ (ls : Array Slot), lv_has ls 5 [(0, .ref h_t), (1, .int v1), (2, .int v2), (3, .int v3), (4, .int v4)] → W p l e rm_Edges_isLikeALesserNeighbour s m args below meth c s.heap [] 0 0 (MQ below (vp_Si post) args s 0 0 (fun _ => False)) (F0 m 9 ls []) := by
  obtain ⟨hx, hb, hr, hml, hown, hts, hlocks, hE⟩ := id C
  intro n
  induction n with
  | zero =>
    intro v4 hw
    exact (show False from hw).elim
  | succ n ih =>
    intro v4 hw ls hl
    have hw : L_Edges_isLikeALesserNeighbour_9b post t_neighbours v1 v2 v3 (L_Edges_isLikeALesserNeighbour_9 post t_neighbours v1 v2 v3 n) v4 := hw
    unfold L_Edges_isLikeALesserNeighbour_9b at hw
    refine lv_iload hx hb d_Edges_isLikeALesserNeighbour_9 (lv_at hl 4 rfl) ?_
    refine lv_iload_n hx hb d_Edges_isLikeALesserNeighbour_11 rfl (lv_at hl 2 rfl) ?_
    refine lv_icmp_ge (tgt := 43) hx hb d_Edges_isLikeALesserNeighbour_12 (by decide) (fun c12 => ?_) (fun c12 => ?_)
    · have hw := hw.1 c12
      refine lv_iconst (v := (0 : Int32)) hx hb d_Edges_isLikeALesserNeighbour_43 (by decide) ?_
      exact W.zret (v := (0 : Int32)) hx hb hr rfl (fun t ht hW => ⟨(0 : Int32), rfl, hw, by rw [ht]⟩) (fun _ h => by cases h) d_Edges_isLikeALesserNeighbour_44
    · have hw := hw.2 c12
      refine lv_aload_n hx hb d_Edges_isLikeALesserNeighbour_15 rfl (lv_at hl 0 rfl) ?_
      refine lv_iload_n hx hb d_Edges_isLikeALesserNeighbour_16 rfl (lv_at hl 2 rfl) ?_
      refine lv_iload hx hb d_Edges_isLikeALesserNeighbour_17 (lv_at hl 4 rfl) ?_
      have hPc := hP.sub (ws' := [(h_t, .inr (2, [.ref h_t_neighbours])), (h_t_neighbours, .inl (cI, 8, .inl t_neighbours))]) [0, 1] rfl
      refine vp_callSi (va_Run.run (va_runV (As := [.int v2, .int v4]) (rest := []) ⟨hx, hb, hml, hown, hts⟩ (met_Edges_joins l dC dI cI cZ h_t h_t_neighbours  t_neighbours v2 v4 _ hw) ⟨cB 2 hts kc_Edges_joins ki_Edges kl_Edges_40 hd_Edges_joins ⟨Nat.le_of_ble_eq_true rfl, Nat.le_of_ble_eq_true rfl⟩, hts _ kn_Edges_joins, hts _ ke_Edges_joins⟩ (preV_ro hE hPc (va_recv hE.1 hPc (ci := 2) (q0 := 0) rfl rfl)) rfl rfl hl.1 rfl (lv_room (Nat.le_of_ble_eq_true rfl)) d_Edges_isLikeALesserNeighbour_19 ⟨Nat.le_of_ble_eq_true rfl, Nat.le_of_ble_eq_true rfl⟩)) (fun r19 hw => ?_)
      refine lv_if_eq (tgt := 37) hx hb d_Edges_isLikeALesserNeighbour_22 (by decide) (fun c22 => ?_) (fun c22 => ?_)
      · have hw := hw.1 c22
        obtain ⟨x4_37, ex4_37⟩ : ∃ y : Int32, y = v4 + 1 := ⟨_, rfl⟩
        have hw := hw x4_37 ex4_37
        refine lv_iinc (v := x4_37) (lv' := [(4, .int x4_37), (0, .ref h_t), (1, .int v1), (2, .int v2), (3, .int v3)]) hx hb d_Edges_isLikeALesserNeighbour_37 hl (k := 4) rfl (by rw [ex4_37]; rfl) (by decide) rfl (fun ls hl => ?_)
        refine lv_goto (tgt := 9) hx hb d_Edges_isLikeALesserNeighbour_40 (by decide) ?_
        exact ih x4_37 hw ls (lv_sub hl [1, 2, 3, 4, 0] rfl)
      · have hw := hw.2 c22
        refine lv_iload_n hx hb d_Edges_isLikeALesserNeighbour_25 rfl (lv_at hl 1 rfl) ?_
        refine lv_iload hx hb d_Edges_isLikeALesserNeighbour_26 (lv_at hl 4 rfl) ?_
        have hPc := hP.sub (ws' := []) [] rfl
        refine vp_callSi (va_Run.run (va_runS (As := [.int v1, .int v4]) (rest := []) ⟨hx, hb, hml, hown, hts⟩ (met_Plans_colourAt l dC dI cI cZ  v1 v4 _ hw) ⟨cB 2 hts kc_Plans_colourAt ki_Plans kl_Edges_53 hd_Plans_colourAt ⟨Nat.le_of_ble_eq_true rfl, Nat.le_of_ble_eq_true rfl⟩, hts _ ks_Plans_colourAt⟩ (preS_ro hE hPc) rfl rfl hl.1 rfl (lv_room (Nat.le_of_ble_eq_true rfl)) d_Edges_isLikeALesserNeighbour_28 ⟨Nat.le_of_ble_eq_true rfl, Nat.le_of_ble_eq_true rfl⟩)) (fun r28 hw => ?_)
        refine lv_iload_n hx hb d_Edges_isLikeALesserNeighbour_31 rfl (lv_at hl 3 rfl) ?_
        refine lv_icmp_ne (tgt := 37) hx hb d_Edges_isLikeALesserNeighbour_32 (by decide) (fun c32 => ?_) (fun c32 => ?_)
        · have hw := hw.2 c32
          obtain ⟨x4_37, ex4_37⟩ : ∃ y : Int32, y = v4 + 1 := ⟨_, rfl⟩
          have hw := hw x4_37 ex4_37
          refine lv_iinc (v := x4_37) (lv' := [(4, .int x4_37), (0, .ref h_t), (1, .int v1), (2, .int v2), (3, .int v3)]) hx hb d_Edges_isLikeALesserNeighbour_37 hl (k := 4) rfl (by rw [ex4_37]; rfl) (by decide) rfl (fun ls hl => ?_)
          refine lv_goto (tgt := 9) hx hb d_Edges_isLikeALesserNeighbour_40 (by decide) ?_
          exact ih x4_37 hw ls (lv_sub hl [1, 2, 3, 4, 0] rfl)
        · have hw := hw.1 c32
          refine lv_iconst (v := (1 : Int32)) hx hb d_Edges_isLikeALesserNeighbour_35 (by decide) ?_
          exact W.zret (v := (1 : Int32)) hx hb hr rfl (fun t ht hW => ⟨(1 : Int32), rfl, hw, by rw [ht]⟩) (fun _ h => by cases h) d_Edges_isLikeALesserNeighbour_36
set_option maxHeartbeats 4000000 in
set_option maxRecDepth 100000 in
theorem met_Edges_isLikeALesserNeighbour (l : Launch) (dC : Nat → ClassId) (dI : Nat → Nat → Nat) (cI cZ : ClassId) (h_t h_t_neighbours : Nat) (t_neighbours : Nat → Int32) (a1 : Int32) (a2 : Int32) (post : Int32 → Prop) (hw : wp_Edges_isLikeALesserNeighbour post t_neighbours a1 a2) : Met l y_Edges_isLikeALesserNeighbour (Cond.code y_Edges_isLikeALesserNeighbour b_Edges_isLikeALesserNeighbour 5 (some .boolean) :: gw) rm_Edges_isLikeALesserNeighbour (va_Pc [.ref h_t, .int a1, .int a2] (fun U => EV (dC, dI) cI cZ U ∧ va_P (dC, dI) classes [(h_t, .inr (2, [.ref h_t_neighbours])), (h_t_neighbours, .inl (cI, 8, .inl t_neighbours))] U.heap)) (vp_Si post) 0 0 (fun _ => False) := by
  refine Met.ofW (cc := b_Edges_isLikeALesserNeighbour) (maxL := 5) (ret := (some .boolean)) (by decide) rfl ?_
  intro p e s m args below meth c s₁ B hml hv
  obtain ⟨rfl, hE, hP⟩ := hv
  have C := CX.of (own := R_Edges) (D := (dC, dI)) (cI := cI) (cZ := cZ) B hml rfl hE
  obtain ⟨hx, hb, hr, -, hown, hts, hlocks, -⟩ := id C
  have hl := lv_entry ([.ref h_t, .int a1, .int a2]) (n := 5) (Nat.le_of_ble_eq_true rfl)
  rw [lg_entry_eq]
  generalize (lg_sl ([.ref h_t, .int a1, .int a2]) ++ List.replicate (5 - (lg_sl ([.ref h_t, .int a1, .int a2])).length) Slot.unset).toArray = ls at hl ⊢
  have hl : lv_has ls 5 [(0, .ref h_t), (1, .int a1), (2, .int a2)] := hl
  unfold wp_Edges_isLikeALesserNeighbour at hw
  refine lv_iload_n hx hb d_Edges_isLikeALesserNeighbour_0 rfl (lv_at hl 1 rfl) ?_
  refine lv_iload_n hx hb d_Edges_isLikeALesserNeighbour_1 rfl (lv_at hl 2 rfl) ?_
  have hPc := hP.sub (ws' := []) [] rfl
  refine vp_callSi (va_Run.run (va_runS (As := [.int a1, .int a2]) (rest := []) ⟨hx, hb, hml, hown, hts⟩ (met_Plans_colourAt l dC dI cI cZ  a1 a2 _ hw) ⟨cB 2 hts kc_Plans_colourAt ki_Plans kl_Edges_53 hd_Plans_colourAt ⟨Nat.le_of_ble_eq_true rfl, Nat.le_of_ble_eq_true rfl⟩, hts _ ks_Plans_colourAt⟩ (preS_ro hE hPc) rfl rfl hl.1 rfl (lv_room (Nat.le_of_ble_eq_true rfl)) d_Edges_isLikeALesserNeighbour_2 ⟨Nat.le_of_ble_eq_true rfl, Nat.le_of_ble_eq_true rfl⟩)) (fun r2 hw => ?_)
  refine lv_istore_n (lv' := [(3, .int r2), (0, .ref h_t), (1, .int a1), (2, .int a2)]) hx hb d_Edges_isLikeALesserNeighbour_5 rfl hl (by decide) rfl (fun ls hl => ?_)
  refine lv_iconst (v := (0 : Int32)) hx hb d_Edges_isLikeALesserNeighbour_6 (by decide) ?_
  refine lv_istore (lv' := [(4, .int (0 : Int32)), (3, .int r2), (0, .ref h_t), (1, .int a1), (2, .int a2)]) hx hb d_Edges_isLikeALesserNeighbour_7 hl (by decide) rfl (fun ls hl => ?_)
  obtain ⟨n9, hw⟩ := hw
  exact qL_Edges_isLikeALesserNeighbour_9 C post  t_neighbours a1 a2 r2 hP  n9 (0 : Int32) hw ls (lv_sub hl [2, 3, 4, 1, 0] rfl)

-- SwapOrbits$Edges.allow(I)Z
abbrev rm_Edges_allow : Room := { frames := 2, cells := 0, slots := 0, locals := 46 }
def L_Edges_allow_2b (post : Int32 → Prop) (t_neighbours : Nat → Int32) (v1 : Int32) (K2 : Int32 → Prop) (v2 : Int32) : Prop := ((8 : Int32) ≤ v2 → post (1 : Int32)) ∧ (¬ (8 : Int32) ≤ v2 → vp_in v2 8 ∧ (((t_neighbours v2.toNatClampNeg) = 0 → ∀ x2_28 : Int32, x2_28 = v2 + 1 → (K2 x2_28)) ∧ (¬ (t_neighbours v2.toNatClampNeg) = 0 → wp_Edges_isLikeALesserNeighbour (fun r20 => (r20 = 0 → ∀ x2_28 : Int32, x2_28 = v2 + 1 → (K2 x2_28)) ∧ (¬ r20 = 0 → post (0 : Int32))) t_neighbours v1 v2)))
def L_Edges_allow_2 (post : Int32 → Prop) (t_neighbours : Nat → Int32) (v1 : Int32) : Nat → Int32 → Prop
  | 0, _ => False
  | n + 1, v2 => L_Edges_allow_2b post t_neighbours v1 (L_Edges_allow_2 post t_neighbours v1 n) v2
def wp_Edges_allow (post : Int32 → Prop) (t_neighbours : Nat → Int32) (a1 : Int32) : Prop := ∃ n, L_Edges_allow_2 post t_neighbours a1 n (0 : Int32)
set_option maxHeartbeats 4000000 in
set_option maxRecDepth 100000 in
theorem qL_Edges_allow_2 {p : Program} {l : Launch} {e : Env} {s : State} {m : MethodId} {args : Array Value} {below : List Frame} {meth : Method} {c : Code} {dC : Nat → ClassId} {dI : Nat → Nat → Nat} {cI cZ : ClassId} (C : CX p s m args meth c R_Edges b_Edges_allow 3 (some .boolean) (dC, dI) cI cZ) {h_t h_t_neighbours : Nat} (post : Int32 → Prop) (t_neighbours : Nat → Int32) (v1 : Int32) (hP : va_P (dC, dI) classes [(h_t, .inr (2, [.ref h_t_neighbours])), (h_t_neighbours, .inl (cI, 8, .inl t_neighbours))] s.heap) : ∀ (n : Nat) (v2 : Int32) , L_Edges_allow_2 post t_neighbours v1 n v2 → ∀ (ls : Array Slot), lv_has ls 3 [(0, .ref h_t), (1, .int v1), (2, .int v2)] → W p l e rm_Edges_allow s m args below meth c s.heap [] 0 0 (MQ below (vp_Si post) args s 0 0 (fun _ => False)) (F0 m 2 ls []) := by
  obtain ⟨hx, hb, hr, hml, hown, hts, hlocks, hE⟩ := id C
  intro n
  induction n with
  | zero =>
    intro v2 hw
    exact (show False from hw).elim
  | succ n ih =>
    intro v2 hw ls hl
    have hw : L_Edges_allow_2b post t_neighbours v1 (L_Edges_allow_2 post t_neighbours v1 n) v2 := hw
    unfold L_Edges_allow_2b at hw
    refine lv_iload_n hx hb d_Edges_allow_2 rfl (lv_at hl 2 rfl) ?_
    refine lv_bipush (v := (8 : Int32)) hx hb d_Edges_allow_3 (by decide) ?_
    refine lv_icmp_ge (tgt := 34) hx hb d_Edges_allow_5 (by decide) (fun c5 => ?_) (fun c5 => ?_)
    · have hw := hw.1 c5
      refine lv_iconst (v := (1 : Int32)) hx hb d_Edges_allow_34 (by decide) ?_
      exact W.zret (v := (1 : Int32)) hx hb hr rfl (fun t ht hW => ⟨(1 : Int32), rfl, hw, by rw [ht]⟩) (fun _ h => by cases h) d_Edges_allow_35
    · have hw := hw.2 c5
      refine lv_aload_n hx hb d_Edges_allow_8 rfl (lv_at hl 0 rfl) ?_
      refine va_get (D := (dC, dI)) (ci := 2) (v := .ref h_t_neighbours) (C := R_Edges) (T := F_Edges) (N := 1) hx hb hts i_Edges hown hE.1 hP 0 rfl rfl 0 (by decide) (hts _ kf_Edges_9) (fun _ h9 => h9) rfl d_Edges_allow_9 ?_
      refine lv_iload_n hx hb d_Edges_allow_12 rfl (lv_at hl 2 rfl) ?_
      have hz := hw.1
      have hw := hw.2
      refine va_iald hx hb hE.1 hP 1 0 rfl rfl hz d_Edges_allow_13 ?_
      refine lv_if_eq (tgt := 28) hx hb d_Edges_allow_14 (by decide) (fun c14 => ?_) (fun c14 => ?_)
      · have hw := hw.1 c14
        obtain ⟨x2_28, ex2_28⟩ : ∃ y : Int32, y = v2 + 1 := ⟨_, rfl⟩
        have hw := hw x2_28 ex2_28
        refine lv_iinc (v := x2_28) (lv' := [(2, .int x2_28), (0, .ref h_t), (1, .int v1)]) hx hb d_Edges_allow_28 hl (k := 2) rfl (by rw [ex2_28]; rfl) (by decide) rfl (fun ls hl => ?_)
        refine lv_goto (tgt := 2) hx hb d_Edges_allow_31 (by decide) ?_
        exact ih x2_28 hw ls (lv_sub hl [1, 2, 0] rfl)
      · have hw := hw.2 c14
        refine lv_aload_n hx hb d_Edges_allow_17 rfl (lv_at hl 0 rfl) ?_
        refine lv_iload_n hx hb d_Edges_allow_18 rfl (lv_at hl 1 rfl) ?_
        refine lv_iload_n hx hb d_Edges_allow_19 rfl (lv_at hl 2 rfl) ?_
        have hPc := hP.sub (ws' := [(h_t, .inr (2, [.ref h_t_neighbours])), (h_t_neighbours, .inl (cI, 8, .inl t_neighbours))]) [0, 1] rfl
        refine vp_callSi (va_Run.run (va_runV (As := [.int v1, .int v2]) (rest := []) ⟨hx, hb, hml, hown, hts⟩ (met_Edges_isLikeALesserNeighbour l dC dI cI cZ h_t h_t_neighbours  t_neighbours v1 v2 _ hw) ⟨cB 2 hts kc_Edges_isLikeALesserNeighbour ki_Edges kl_Edges_50 hd_Edges_isLikeALesserNeighbour ⟨Nat.le_of_ble_eq_true rfl, Nat.le_of_ble_eq_true rfl⟩, hts _ kn_Edges_isLikeALesserNeighbour, hts _ ke_Edges_isLikeALesserNeighbour⟩ (preV_ro hE hPc (va_recv hE.1 hPc (ci := 2) (q0 := 0) rfl rfl)) rfl rfl hl.1 rfl (lv_room (Nat.le_of_ble_eq_true rfl)) d_Edges_allow_20 ⟨Nat.le_of_ble_eq_true rfl, Nat.le_of_ble_eq_true rfl⟩)) (fun r20 hw => ?_)
        refine lv_if_eq (tgt := 28) hx hb d_Edges_allow_23 (by decide) (fun c23 => ?_) (fun c23 => ?_)
        · have hw := hw.1 c23
          obtain ⟨x2_28, ex2_28⟩ : ∃ y : Int32, y = v2 + 1 := ⟨_, rfl⟩
          have hw := hw x2_28 ex2_28
          refine lv_iinc (v := x2_28) (lv' := [(2, .int x2_28), (0, .ref h_t), (1, .int v1)]) hx hb d_Edges_allow_28 hl (k := 2) rfl (by rw [ex2_28]; rfl) (by decide) rfl (fun ls hl => ?_)
          refine lv_goto (tgt := 2) hx hb d_Edges_allow_31 (by decide) ?_
          exact ih x2_28 hw ls (lv_sub hl [1, 2, 0] rfl)
        · have hw := hw.2 c23
          refine lv_iconst (v := (0 : Int32)) hx hb d_Edges_allow_26 (by decide) ?_
          exact W.zret (v := (0 : Int32)) hx hb hr rfl (fun t ht hW => ⟨(0 : Int32), rfl, hw, by rw [ht]⟩) (fun _ h => by cases h) d_Edges_allow_27
set_option maxHeartbeats 4000000 in
set_option maxRecDepth 100000 in
theorem met_Edges_allow (l : Launch) (dC : Nat → ClassId) (dI : Nat → Nat → Nat) (cI cZ : ClassId) (h_t h_t_neighbours : Nat) (t_neighbours : Nat → Int32) (a1 : Int32) (post : Int32 → Prop) (hw : wp_Edges_allow post t_neighbours a1) : Met l y_Edges_allow (Cond.code y_Edges_allow b_Edges_allow 3 (some .boolean) :: gw) rm_Edges_allow (va_Pc [.ref h_t, .int a1] (fun U => EV (dC, dI) cI cZ U ∧ va_P (dC, dI) classes [(h_t, .inr (2, [.ref h_t_neighbours])), (h_t_neighbours, .inl (cI, 8, .inl t_neighbours))] U.heap)) (vp_Si post) 0 0 (fun _ => False) := by
  refine Met.ofW (cc := b_Edges_allow) (maxL := 3) (ret := (some .boolean)) (by decide) rfl ?_
  intro p e s m args below meth c s₁ B hml hv
  obtain ⟨rfl, hE, hP⟩ := hv
  have C := CX.of (own := R_Edges) (D := (dC, dI)) (cI := cI) (cZ := cZ) B hml rfl hE
  obtain ⟨hx, hb, hr, -, hown, hts, hlocks, -⟩ := id C
  have hl := lv_entry ([.ref h_t, .int a1]) (n := 3) (Nat.le_of_ble_eq_true rfl)
  rw [lg_entry_eq]
  generalize (lg_sl ([.ref h_t, .int a1]) ++ List.replicate (3 - (lg_sl ([.ref h_t, .int a1])).length) Slot.unset).toArray = ls at hl ⊢
  have hl : lv_has ls 3 [(0, .ref h_t), (1, .int a1)] := hl
  unfold wp_Edges_allow at hw
  refine lv_iconst (v := (0 : Int32)) hx hb d_Edges_allow_0 (by decide) ?_
  refine lv_istore_n (lv' := [(2, .int (0 : Int32)), (0, .ref h_t), (1, .int a1)]) hx hb d_Edges_allow_1 rfl hl (by decide) rfl (fun ls hl => ?_)
  obtain ⟨n2, hw⟩ := hw
  exact qL_Edges_allow_2 C post  t_neighbours a1 hP  n2 (0 : Int32) hw ls (lv_sub hl [1, 2, 0] rfl)

-- SwapOrbits$Edges.<init>()V
abbrev rm_Edges_init : Room := { frames := 1, cells := 1, slots := 8, locals := 20 }
abbrev QM_Edges_init (dC : Nat → ClassId) (dI : Nat → Nat → Nat) (cI cZ : ClassId) (h_t : Nat) (A : Nat → Prop) : Array Value → State → Outcome → State → Prop := va_Qv (fun _ : Unit => True) (fun _ t => ∃ (h_t_neighbours : Nat), va_P (dC, dI) classes [(h_t, .inr (2, [.ref h_t_neighbours])), (h_t_neighbours, .inl (cI, 8, .inl (fun _ => 0)))] t.heap ∧ va_D A [(h_t, .inr (2, [.ref h_t_neighbours])), (h_t_neighbours, .inl (cI, 8, .inl (fun _ => 0)))]) A
set_option maxHeartbeats 4000000 in
set_option maxRecDepth 100000 in
theorem met_Edges_init (l : Launch) (dC : Nat → ClassId) (dI : Nat → Nat → Nat) (cI cZ : ClassId) (h_t : Nat) (sz : Nat) : Met l y_Edges_init (Cond.code y_Edges_init b_Edges_init 1 none :: gw) rm_Edges_init (va_Pc [.ref h_t] (fun U => U.heap.size = sz ∧ EV (dC, dI) cI cZ U ∧ va_P (dC, dI) classes [(h_t, .inr (2, [.null]))] U.heap ∧ va_D (fun _ => True) [(h_t, .inr (2, [.null]))])) (QM_Edges_init dC dI cI cZ h_t (va_A [(h_t, .inr (2, [.null]))] sz)) 1 8 (va_A [(h_t, .inr (2, [.null]))] sz) := by
  refine Met.ofW (cc := b_Edges_init) (maxL := 1) (ret := none) (by decide) rfl ?_
  intro p e s m args below meth c s₁ B hml hv
  obtain ⟨rfl, hsz, hE, hP, hD0⟩ := hv
  have C := CX.of (own := R_Edges) (D := (dC, dI)) (cI := cI) (cZ := cZ) B hml rfl hE
  obtain ⟨hx, hb, hr, -, hown, hts, hlocks, -⟩ := id C
  have hin : meth.name = "<init>" := (name_of_methodNamed B.named B.method).1
  subst hsz
  have hD := hD0.self (sz := s.heap.size)
  generalize hAe : va_A [(h_t, .inr (2, [.null]))] s.heap.size = A at hD ⊢
  have hA : ∀ q : Nat, s.heap.size ≤ q → A q := fun q h => by rw [← hAe]; exact Or.inr h
  have hS : va_S A s.heap s.heap [] := va_S.rf
  have hP : va_P (dC, dI) classes [(h_t, .inr (2, [.null]))] s.heap := hP
  have hl := lv_entry ([.ref h_t]) (n := 1) (Nat.le_of_ble_eq_true rfl)
  rw [lg_entry_eq]
  generalize (lg_sl ([.ref h_t]) ++ List.replicate (1 - (lg_sl ([.ref h_t])).length) Slot.unset).toArray = ls at hl ⊢
  have hl : lv_has ls 1 [(0, .ref h_t)] := hl
  refine keyL (P := fun H locs => va_P (dC, dI) classes [(h_t, .inr (2, [.null]))] H ∧ va_D A [(h_t, .inr (2, [.null]))] ∧ va_S A s.heap H locs) ⟨hP, hD, hS⟩ (fun H locs hPP => ?_)
  clear hP hD hS
  obtain ⟨hP, hD, hS⟩ := hPP
  refine lv_aload_n hx hb d_Edges_init_0 rfl (lv_at hl 0 rfl) ?_
  refine W.objInit hx hb hown (hts _ kl_Edges_3) (hts _ kn_oi) (hts _ kc_oi) rfl (by rw [hml]; exact hl.1) rfl d_Edges_init_1 (Nat.le_of_ble_eq_true rfl) (Nat.le_of_ble_eq_true rfl) ?_
  refine W.eq (g2 := F0 m 4 ls []) rfl ?_
  refine lv_aload_n hx hb d_Edges_init_4 rfl (lv_at hl 0 rfl) ?_
  refine lv_bipush (v := (8 : Int32)) hx hb d_Edges_init_5 (by decide) ?_
  refine va_newa (atype := .int) (ty := .int) (a0 := (8, .inl (fun _ => 0))) (N' := 8) hx hb (hts _ ka_int) rfl hE.1 hP hD hS hA (fun _ => rfl) (by decide) (by decide) (by decide) (by decide) (by decide) d_Edges_init_7 (fun h_t_neighbours cA H hK2 hP hD hS => ?_)
  have hcA := sameI hK2
  subst hcA
  have hP : va_P (dC, dI) classes [(h_t, .inr (2, [.null])), (h_t_neighbours, .inl (cI, 8, .inl (fun _ => 0)))] H := hP
  have hD : va_D A [(h_t, .inr (2, [.null])), (h_t_neighbours, .inl (cI, 8, .inl (fun _ => 0)))] := hD
  refine W.widen (k := 1) (n := 8) (by decide) (by decide) ?_
  refine va_putF (D := (dC, dI)) (ci := 2) (v := .ref h_t_neighbours) (ty := .array .int) (C := R_Edges) (T := F_Edges) (N := 1) hx hb hts i_Edges t_Edges t_Edges_ok n_Edges hown hE.1 hP hD hS 0 rfl rfl 0 (by decide) (hts _ kf_Edges_9) (fun _ h9 => h9) rfl hin rfl (by decide +kernel) rfl rfl (Nat.le_of_ble_eq_true rfl) d_Edges_init_9 (fun H locs hP hD hS => ?_)
  have hP : va_P (dC, dI) classes [(h_t, .inr (2, [.ref h_t_neighbours])), (h_t_neighbours, .inl (cI, 8, .inl (fun _ => 0)))] H := hP
  have hD : va_D A [(h_t, .inr (2, [.ref h_t_neighbours])), (h_t_neighbours, .inl (cI, 8, .inl (fun _ => 0)))] := hD
  have hP9 : va_P (dC, dI) classes [(h_t, .inr (2, [.ref h_t_neighbours])), (h_t_neighbours, .inl (cI, 8, .inl (fun _ => 0)))] H := hP.sub [0, 1] rfl
  have hD9 : va_D A [(h_t, .inr (2, [.ref h_t_neighbours])), (h_t_neighbours, .inl (cI, 8, .inl (fun _ => 0)))] := hD.sub [0, 1] (by decide) rfl
  exact W.vret hx hb hr (fun t ht hW => ⟨⟨(), rfl, trivial, h_t_neighbours, by rw [ht]; exact hP9, hD9⟩, hS.F ht⟩) hS.2.2 d_Edges_init_12

