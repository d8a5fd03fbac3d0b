theorem d_Plans_init_0 : decode b_Plans_init 0 = .ok (.aload_n 0, 1) := by decide +kernel
theorem d_Plans_init_1 : decode b_Plans_init 1 = .ok (.invokespecial 3, 3) := by decide +kernel
theorem d_Plans_init_4 : decode b_Plans_init 4 = .ok (.aload_n 0, 1) := by decide +kernel
theorem d_Plans_init_5 : decode b_Plans_init 5 = .ok (.bipush 8, 2) := by decide +kernel
theorem d_Plans_init_7 : decode b_Plans_init 7 = .ok (.newarray .int, 2) := by decide +kernel
theorem d_Plans_init_9 : decode b_Plans_init 9 = .ok (.putfield 9, 3) := by decide +kernel
theorem d_Plans_init_12 : decode b_Plans_init 12 = .ok (.return_, 1) := by decide +kernel
theorem d_Plans_shape_0 : decode b_Plans_shape 0 = .ok (.aload_n 0, 1) := by decide +kernel
theorem d_Plans_shape_1 : decode b_Plans_shape 1 = .ok (.iload_n 1, 1) := by decide +kernel
theorem d_Plans_shape_2 : decode b_Plans_shape 2 = .ok (.putfield 15, 3) := by decide +kernel
theorem d_Plans_shape_5 : decode b_Plans_shape 5 = .ok (.aload_n 0, 1) := by decide +kernel
theorem d_Plans_shape_6 : decode b_Plans_shape 6 = .ok (.iload_n 2, 1) := by decide +kernel
theorem d_Plans_shape_7 : decode b_Plans_shape 7 = .ok (.putfield 19, 3) := by decide +kernel
theorem d_Plans_shape_10 : decode b_Plans_shape 10 = .ok (.aload_n 0, 1) := by decide +kernel
theorem d_Plans_shape_11 : decode b_Plans_shape 11 = .ok (.aload_n 0, 1) := by decide +kernel
theorem d_Plans_shape_12 : decode b_Plans_shape 12 = .ok (.getfield 19, 3) := by decide +kernel
theorem d_Plans_shape_15 : decode b_Plans_shape 15 = .ok (.aload_n 0, 1) := by decide +kernel
theorem d_Plans_shape_16 : decode b_Plans_shape 16 = .ok (.getfield 15, 3) := by decide +kernel
theorem d_Plans_shape_19 : decode b_Plans_shape 19 = .ok (.invokestatic 22, 3) := by decide +kernel
theorem d_Plans_shape_22 : decode b_Plans_shape 22 = .ok (.putfield 26, 3) := by decide +kernel
theorem d_Plans_shape_25 : decode b_Plans_shape 25 = .ok (.iconst 0, 1) := by decide +kernel
theorem d_Plans_shape_26 : decode b_Plans_shape 26 = .ok (.istore_n 3, 1) := by decide +kernel
theorem d_Plans_shape_27 : decode b_Plans_shape 27 = .ok (.iload_n 3, 1) := by decide +kernel
theorem d_Plans_shape_28 : decode b_Plans_shape 28 = .ok (.bipush 8, 2) := by decide +kernel
theorem d_Plans_shape_30 : decode b_Plans_shape 30 = .ok (.if_icmp .ge 30, 3) := by decide +kernel
theorem d_Plans_shape_33 : decode b_Plans_shape 33 = .ok (.aload_n 0, 1) := by decide +kernel
theorem d_Plans_shape_34 : decode b_Plans_shape 34 = .ok (.getfield 9, 3) := by decide +kernel
theorem d_Plans_shape_37 : decode b_Plans_shape 37 = .ok (.iload_n 3, 1) := by decide +kernel
theorem d_Plans_shape_38 : decode b_Plans_shape 38 = .ok (.aload_n 0, 1) := by decide +kernel
theorem d_Plans_shape_39 : decode b_Plans_shape 39 = .ok (.getfield 19, 3) := by decide +kernel
theorem d_Plans_shape_42 : decode b_Plans_shape 42 = .ok (.aload_n 0, 1) := by decide +kernel
theorem d_Plans_shape_43 : decode b_Plans_shape 43 = .ok (.getfield 15, 3) := by decide +kernel
theorem d_Plans_shape_46 : decode b_Plans_shape 46 = .ok (.iconst 1, 1) := by decide +kernel
theorem d_Plans_shape_47 : decode b_Plans_shape 47 = .ok (.isub, 1) := by decide +kernel
theorem d_Plans_shape_48 : decode b_Plans_shape 48 = .ok (.iload_n 3, 1) := by decide +kernel
theorem d_Plans_shape_49 : decode b_Plans_shape 49 = .ok (.isub, 1) := by decide +kernel
theorem d_Plans_shape_50 : decode b_Plans_shape 50 = .ok (.invokestatic 22, 3) := by decide +kernel
theorem d_Plans_shape_53 : decode b_Plans_shape 53 = .ok (.iastore, 1) := by decide +kernel
theorem d_Plans_shape_54 : decode b_Plans_shape 54 = .ok (.iinc 3 1, 3) := by decide +kernel
theorem d_Plans_shape_57 : decode b_Plans_shape 57 = .ok (.goto (-30), 3) := by decide +kernel
theorem d_Plans_shape_60 : decode b_Plans_shape 60 = .ok (.return_, 1) := by decide +kernel
theorem d_Plans_power_0 : decode b_Plans_power 0 = .ok (.iconst 1, 1) := by decide +kernel
theorem d_Plans_power_1 : decode b_Plans_power 1 = .ok (.istore_n 2, 1) := by decide +kernel
theorem d_Plans_power_2 : decode b_Plans_power 2 = .ok (.iconst 0, 1) := by decide +kernel
theorem d_Plans_power_3 : decode b_Plans_power 3 = .ok (.istore_n 3, 1) := by decide +kernel
theorem d_Plans_power_4 : decode b_Plans_power 4 = .ok (.iload_n 3, 1) := by decide +kernel
theorem d_Plans_power_5 : decode b_Plans_power 5 = .ok (.iload_n 1, 1) := by decide +kernel
theorem d_Plans_power_6 : decode b_Plans_power 6 = .ok (.if_icmp .ge 13, 3) := by decide +kernel
theorem d_Plans_power_9 : decode b_Plans_power 9 = .ok (.iload_n 2, 1) := by decide +kernel
theorem d_Plans_power_10 : decode b_Plans_power 10 = .ok (.iload_n 0, 1) := by decide +kernel
theorem d_Plans_power_11 : decode b_Plans_power 11 = .ok (.imul, 1) := by decide +kernel
theorem d_Plans_power_12 : decode b_Plans_power 12 = .ok (.istore_n 2, 1) := by decide +kernel
theorem d_Plans_power_13 : decode b_Plans_power 13 = .ok (.iinc 3 1, 3) := by decide +kernel
theorem d_Plans_power_16 : decode b_Plans_power 16 = .ok (.goto (-12), 3) := by decide +kernel
theorem d_Plans_power_19 : decode b_Plans_power 19 = .ok (.iload_n 2, 1) := by decide +kernel
theorem d_Plans_power_20 : decode b_Plans_power 20 = .ok (.ireturn, 1) := by decide +kernel
theorem d_Plans_has_0 : decode b_Plans_has 0 = .ok (.iload_n 1, 1) := by decide +kernel
theorem d_Plans_has_1 : decode b_Plans_has 1 = .ok (.ifCond .lt 15, 3) := by decide +kernel
theorem d_Plans_has_4 : decode b_Plans_has 4 = .ok (.iload_n 1, 1) := by decide +kernel
theorem d_Plans_has_5 : decode b_Plans_has 5 = .ok (.aload_n 0, 1) := by decide +kernel
theorem d_Plans_has_6 : decode b_Plans_has 6 = .ok (.getfield 26, 3) := by decide +kernel
theorem d_Plans_has_9 : decode b_Plans_has 9 = .ok (.if_icmp .ge 7, 3) := by decide +kernel
theorem d_Plans_has_12 : decode b_Plans_has 12 = .ok (.iconst 1, 1) := by decide +kernel
theorem d_Plans_has_13 : decode b_Plans_has 13 = .ok (.goto 4, 3) := by decide +kernel
theorem d_Plans_has_16 : decode b_Plans_has 16 = .ok (.iconst 0, 1) := by decide +kernel
theorem d_Plans_has_17 : decode b_Plans_has 17 = .ok (.ireturn, 1) := by decide +kernel
theorem d_Plans_spread_0 : decode b_Plans_spread 0 = .ok (.iconst 0, 1) := by decide +kernel
theorem d_Plans_spread_1 : decode b_Plans_spread 1 = .ok (.istore_n 2, 1) := by decide +kernel
theorem d_Plans_spread_2 : decode b_Plans_spread 2 = .ok (.iload_n 1, 1) := by decide +kernel
theorem d_Plans_spread_3 : decode b_Plans_spread 3 = .ok (.istore_n 3, 1) := by decide +kernel
theorem d_Plans_spread_4 : decode b_Plans_spread 4 = .ok (.aload_n 0, 1) := by decide +kernel
theorem d_Plans_spread_5 : decode b_Plans_spread 5 = .ok (.getfield 15, 3) := by decide +kernel
theorem d_Plans_spread_8 : decode b_Plans_spread 8 = .ok (.iconst 1, 1) := by decide +kernel
theorem d_Plans_spread_9 : decode b_Plans_spread 9 = .ok (.isub, 1) := by decide +kernel
theorem d_Plans_spread_10 : decode b_Plans_spread 10 = .ok (.istore 4, 2) := by decide +kernel
theorem d_Plans_spread_12 : decode b_Plans_spread 12 = .ok (.iload 4, 2) := by decide +kernel
theorem d_Plans_spread_14 : decode b_Plans_spread 14 = .ok (.ifCond .lt 37, 3) := by decide +kernel
theorem d_Plans_spread_17 : decode b_Plans_spread 17 = .ok (.aload_n 0, 1) := by decide +kernel
theorem d_Plans_spread_18 : decode b_Plans_spread 18 = .ok (.getfield 19, 3) := by decide +kernel
theorem d_Plans_spread_21 : decode b_Plans_spread 21 = .ok (.ifCond .le 30, 3) := by decide +kernel
theorem d_Plans_spread_24 : decode b_Plans_spread 24 = .ok (.iload_n 2, 1) := by decide +kernel
theorem d_Plans_spread_25 : decode b_Plans_spread 25 = .ok (.iload_n 3, 1) := by decide +kernel
theorem d_Plans_spread_26 : decode b_Plans_spread 26 = .ok (.aload_n 0, 1) := by decide +kernel
theorem d_Plans_spread_27 : decode b_Plans_spread 27 = .ok (.getfield 19, 3) := by decide +kernel
theorem d_Plans_spread_30 : decode b_Plans_spread 30 = .ok (.irem, 1) := by decide +kernel
theorem d_Plans_spread_31 : decode b_Plans_spread 31 = .ok (.iconst 2, 1) := by decide +kernel
theorem d_Plans_spread_32 : decode b_Plans_spread 32 = .ok (.iload 4, 2) := by decide +kernel
theorem d_Plans_spread_34 : decode b_Plans_spread 34 = .ok (.imul, 1) := by decide +kernel
theorem d_Plans_spread_35 : decode b_Plans_spread 35 = .ok (.ishl, 1) := by decide +kernel
theorem d_Plans_spread_36 : decode b_Plans_spread 36 = .ok (.ior, 1) := by decide +kernel
theorem d_Plans_spread_37 : decode b_Plans_spread 37 = .ok (.istore_n 2, 1) := by decide +kernel
theorem d_Plans_spread_38 : decode b_Plans_spread 38 = .ok (.iload_n 3, 1) := by decide +kernel
theorem d_Plans_spread_39 : decode b_Plans_spread 39 = .ok (.aload_n 0, 1) := by decide +kernel
theorem d_Plans_spread_40 : decode b_Plans_spread 40 = .ok (.getfield 19, 3) := by decide +kernel
theorem d_Plans_spread_43 : decode b_Plans_spread 43 = .ok (.idiv, 1) := by decide +kernel
theorem d_Plans_spread_44 : decode b_Plans_spread 44 = .ok (.istore_n 3, 1) := by decide +kernel
theorem d_Plans_spread_45 : decode b_Plans_spread 45 = .ok (.iinc 4 (-1), 3) := by decide +kernel
theorem d_Plans_spread_48 : decode b_Plans_spread 48 = .ok (.goto (-36), 3) := by decide +kernel
theorem d_Plans_spread_51 : decode b_Plans_spread 51 = .ok (.iload_n 2, 1) := by decide +kernel
theorem d_Plans_spread_52 : decode b_Plans_spread 52 = .ok (.ireturn, 1) := by decide +kernel
theorem d_Plans_colourAt_0 : decode b_Plans_colourAt 0 = .ok (.iload_n 0, 1) := by decide +kernel
theorem d_Plans_colourAt_1 : decode b_Plans_colourAt 1 = .ok (.iconst 2, 1) := by decide +kernel
theorem d_Plans_colourAt_2 : decode b_Plans_colourAt 2 = .ok (.iload_n 1, 1) := by decide +kernel
theorem d_Plans_colourAt_3 : decode b_Plans_colourAt 3 = .ok (.imul, 1) := by decide +kernel
theorem d_Plans_colourAt_4 : decode b_Plans_colourAt 4 = .ok (.iushr, 1) := by decide +kernel
theorem d_Plans_colourAt_5 : decode b_Plans_colourAt 5 = .ok (.iconst 3, 1) := by decide +kernel
theorem d_Plans_colourAt_6 : decode b_Plans_colourAt 6 = .ok (.iand, 1) := by decide +kernel
theorem d_Plans_colourAt_7 : decode b_Plans_colourAt 7 = .ok (.ireturn, 1) := by decide +kernel
theorem d_Plans_moved_0 : decode b_Plans_moved 0 = .ok (.iconst 0, 1) := by decide +kernel
theorem d_Plans_moved_1 : decode b_Plans_moved 1 = .ok (.istore_n 3, 1) := by decide +kernel
theorem d_Plans_moved_2 : decode b_Plans_moved 2 = .ok (.iconst 0, 1) := by decide +kernel
theorem d_Plans_moved_3 : decode b_Plans_moved 3 = .ok (.istore 4, 2) := by decide +kernel
theorem d_Plans_moved_5 : decode b_Plans_moved 5 = .ok (.iload 4, 2) := by decide +kernel
theorem d_Plans_moved_7 : decode b_Plans_moved 7 = .ok (.aload_n 0, 1) := by decide +kernel
theorem d_Plans_moved_8 : decode b_Plans_moved 8 = .ok (.getfield 15, 3) := by decide +kernel
theorem d_Plans_moved_11 : decode b_Plans_moved 11 = .ok (.if_icmp .ge 30, 3) := by decide +kernel
theorem d_Plans_moved_14 : decode b_Plans_moved 14 = .ok (.iload_n 3, 1) := by decide +kernel
theorem d_Plans_moved_15 : decode b_Plans_moved 15 = .ok (.iload_n 1, 1) := by decide +kernel
theorem d_Plans_moved_16 : decode b_Plans_moved 16 = .ok (.iload 4, 2) := by decide +kernel
theorem d_Plans_moved_18 : decode b_Plans_moved 18 = .ok (.invokestatic 29, 3) := by decide +kernel
theorem d_Plans_moved_21 : decode b_Plans_moved 21 = .ok (.aload_n 0, 1) := by decide +kernel
theorem d_Plans_moved_22 : decode b_Plans_moved 22 = .ok (.getfield 9, 3) := by decide +kernel
theorem d_Plans_moved_25 : decode b_Plans_moved 25 = .ok (.iload_n 2, 1) := by decide +kernel
theorem d_Plans_moved_26 : decode b_Plans_moved 26 = .ok (.iload 4, 2) := by decide +kernel
theorem d_Plans_moved_28 : decode b_Plans_moved 28 = .ok (.invokestatic 32, 3) := by decide +kernel
theorem d_Plans_moved_31 : decode b_Plans_moved 31 = .ok (.iaload, 1) := by decide +kernel
theorem d_Plans_moved_32 : decode b_Plans_moved 32 = .ok (.imul, 1) := by decide +kernel
theorem d_Plans_moved_33 : decode b_Plans_moved 33 = .ok (.iadd, 1) := by decide +kernel
theorem d_Plans_moved_34 : decode b_Plans_moved 34 = .ok (.istore_n 3, 1) := by decide +kernel
theorem d_Plans_moved_35 : decode b_Plans_moved 35 = .ok (.iinc 4 1, 3) := by decide +kernel
theorem d_Plans_moved_38 : decode b_Plans_moved 38 = .ok (.goto (-33), 3) := by decide +kernel
theorem d_Plans_moved_41 : decode b_Plans_moved 41 = .ok (.iload_n 3, 1) := by decide +kernel
theorem d_Plans_moved_42 : decode b_Plans_moved 42 = .ok (.ireturn, 1) := by decide +kernel
theorem d_Plans_isKept_0 : decode b_Plans_isKept 0 = .ok (.iconst 0, 1) := by decide +kernel
theorem d_Plans_isKept_1 : decode b_Plans_isKept 1 = .ok (.istore_n 3, 1) := by decide +kernel
theorem d_Plans_isKept_2 : decode b_Plans_isKept 2 = .ok (.iload_n 3, 1) := by decide +kernel
theorem d_Plans_isKept_3 : decode b_Plans_isKept 3 = .ok (.aload_n 0, 1) := by decide +kernel
theorem d_Plans_isKept_4 : decode b_Plans_isKept 4 = .ok (.getfield 15, 3) := by decide +kernel
theorem d_Plans_isKept_7 : decode b_Plans_isKept 7 = .ok (.if_icmp .ge 28, 3) := by decide +kernel
theorem d_Plans_isKept_10 : decode b_Plans_isKept 10 = .ok (.iload_n 1, 1) := by decide +kernel
theorem d_Plans_isKept_11 : decode b_Plans_isKept 11 = .ok (.iload_n 3, 1) := by decide +kernel
theorem d_Plans_isKept_12 : decode b_Plans_isKept 12 = .ok (.invokestatic 29, 3) := by decide +kernel
theorem d_Plans_isKept_15 : decode b_Plans_isKept 15 = .ok (.iload_n 1, 1) := by decide +kernel
theorem d_Plans_isKept_16 : decode b_Plans_isKept 16 = .ok (.iload_n 2, 1) := by decide +kernel
theorem d_Plans_isKept_17 : decode b_Plans_isKept 17 = .ok (.iload_n 3, 1) := by decide +kernel
theorem d_Plans_isKept_18 : decode b_Plans_isKept 18 = .ok (.invokestatic 32, 3) := by decide +kernel
theorem d_Plans_isKept_21 : decode b_Plans_isKept 21 = .ok (.invokestatic 29, 3) := by decide +kernel
theorem d_Plans_isKept_24 : decode b_Plans_isKept 24 = .ok (.if_icmp .eq 5, 3) := by decide +kernel
theorem d_Plans_isKept_27 : decode b_Plans_isKept 27 = .ok (.iconst 0, 1) := by decide +kernel
theorem d_Plans_isKept_28 : decode b_Plans_isKept 28 = .ok (.ireturn, 1) := by decide +kernel
theorem d_Plans_isKept_29 : decode b_Plans_isKept 29 = .ok (.iinc 3 1, 3) := by decide +kernel
theorem d_Plans_isKept_32 : decode b_Plans_isKept 32 = .ok (.goto (-30), 3) := by decide +kernel
theorem d_Plans_isKept_35 : decode b_Plans_isKept 35 = .ok (.iconst 1, 1) := by decide +kernel
theorem d_Plans_isKept_36 : decode b_Plans_isKept 36 = .ok (.ireturn, 1) := by decide +kernel
theorem d_Plans_tally_0 : decode b_Plans_tally 0 = .ok (.iconst 0, 1) := by decide +kernel
theorem d_Plans_tally_1 : decode b_Plans_tally 1 = .ok (.istore_n 2, 1) := by decide +kernel
theorem d_Plans_tally_2 : decode b_Plans_tally 2 = .ok (.iconst 0, 1) := by decide +kernel
theorem d_Plans_tally_3 : decode b_Plans_tally 3 = .ok (.istore_n 3, 1) := by decide +kernel
theorem d_Plans_tally_4 : decode b_Plans_tally 4 = .ok (.iload_n 3, 1) := by decide +kernel
theorem d_Plans_tally_5 : decode b_Plans_tally 5 = .ok (.aload_n 0, 1) := by decide +kernel
theorem d_Plans_tally_6 : decode b_Plans_tally 6 = .ok (.getfield 15, 3) := by decide +kernel
theorem d_Plans_tally_9 : decode b_Plans_tally 9 = .ok (.if_icmp .ge 21, 3) := by decide +kernel
theorem d_Plans_tally_12 : decode b_Plans_tally 12 = .ok (.iload_n 2, 1) := by decide +kernel
theorem d_Plans_tally_13 : decode b_Plans_tally 13 = .ok (.iconst 1, 1) := by decide +kernel
theorem d_Plans_tally_14 : decode b_Plans_tally 14 = .ok (.iconst 4, 1) := by decide +kernel
theorem d_Plans_tally_15 : decode b_Plans_tally 15 = .ok (.iload_n 1, 1) := by decide +kernel
theorem d_Plans_tally_16 : decode b_Plans_tally 16 = .ok (.iload_n 3, 1) := by decide +kernel
theorem d_Plans_tally_17 : decode b_Plans_tally 17 = .ok (.invokestatic 29, 3) := by decide +kernel
theorem d_Plans_tally_20 : decode b_Plans_tally 20 = .ok (.imul, 1) := by decide +kernel
theorem d_Plans_tally_21 : decode b_Plans_tally 21 = .ok (.ishl, 1) := by decide +kernel
theorem d_Plans_tally_22 : decode b_Plans_tally 22 = .ok (.iadd, 1) := by decide +kernel
theorem d_Plans_tally_23 : decode b_Plans_tally 23 = .ok (.istore_n 2, 1) := by decide +kernel
theorem d_Plans_tally_24 : decode b_Plans_tally 24 = .ok (.iinc 3 1, 3) := by decide +kernel
theorem d_Plans_tally_27 : decode b_Plans_tally 27 = .ok (.goto (-23), 3) := by decide +kernel
theorem d_Plans_tally_30 : decode b_Plans_tally 30 = .ok (.iload_n 2, 1) := by decide +kernel
theorem d_Plans_tally_31 : decode b_Plans_tally 31 = .ok (.ireturn, 1) := by decide +kernel
theorem d_Plans_tallyOf_0 : decode b_Plans_tallyOf 0 = .ok (.iload_n 0, 1) := by decide +kernel
theorem d_Plans_tallyOf_1 : decode b_Plans_tallyOf 1 = .ok (.iload_n 1, 1) := by decide +kernel
theorem d_Plans_tallyOf_2 : decode b_Plans_tallyOf 2 = .ok (.iconst 4, 1) := by decide +kernel
theorem d_Plans_tallyOf_3 : decode b_Plans_tallyOf 3 = .ok (.ishl, 1) := by decide +kernel
theorem d_Plans_tallyOf_4 : decode b_Plans_tallyOf 4 = .ok (.ior, 1) := by decide +kernel
theorem d_Plans_tallyOf_5 : decode b_Plans_tallyOf 5 = .ok (.iload_n 2, 1) := by decide +kernel
theorem d_Plans_tallyOf_6 : decode b_Plans_tallyOf 6 = .ok (.bipush 8, 2) := by decide +kernel
theorem d_Plans_tallyOf_8 : decode b_Plans_tallyOf 8 = .ok (.ishl, 1) := by decide +kernel
theorem d_Plans_tallyOf_9 : decode b_Plans_tallyOf 9 = .ok (.ior, 1) := by decide +kernel
theorem d_Plans_tallyOf_10 : decode b_Plans_tallyOf 10 = .ok (.iload_n 3, 1) := by decide +kernel
theorem d_Plans_tallyOf_11 : decode b_Plans_tallyOf 11 = .ok (.bipush 12, 2) := by decide +kernel
theorem d_Plans_tallyOf_13 : decode b_Plans_tallyOf 13 = .ok (.ishl, 1) := by decide +kernel
theorem d_Plans_tallyOf_14 : decode b_Plans_tallyOf 14 = .ok (.ior, 1) := by decide +kernel
theorem d_Plans_tallyOf_15 : decode b_Plans_tallyOf 15 = .ok (.ireturn, 1) := by decide +kernel
theorem d_Plans_product_0 : decode b_Plans_product 0 = .ok (.lconst 1, 1) := by decide +kernel
theorem d_Plans_product_1 : decode b_Plans_product 1 = .ok (.lstore_n 3, 1) := by decide +kernel
theorem d_Plans_product_2 : decode b_Plans_product 2 = .ok (.iconst 0, 1) := by decide +kernel
theorem d_Plans_product_3 : decode b_Plans_product 3 = .ok (.istore 5, 2) := by decide +kernel
theorem d_Plans_product_5 : decode b_Plans_product 5 = .ok (.iload 5, 2) := by decide +kernel
theorem d_Plans_product_7 : decode b_Plans_product 7 = .ok (.aload_n 0, 1) := by decide +kernel
theorem d_Plans_product_8 : decode b_Plans_product 8 = .ok (.getfield 15, 3) := by decide +kernel
theorem d_Plans_product_11 : decode b_Plans_product 11 = .ok (.if_icmp .ge 32, 3) := by decide +kernel
theorem d_Plans_product_14 : decode b_Plans_product 14 = .ok (.iload_n 1, 1) := by decide +kernel
theorem d_Plans_product_15 : decode b_Plans_product 15 = .ok (.iload 5, 2) := by decide +kernel
theorem d_Plans_product_17 : decode b_Plans_product 17 = .ok (.invokestatic 29, 3) := by decide +kernel
theorem d_Plans_product_20 : decode b_Plans_product 20 = .ok (.istore 6, 2) := by decide +kernel
theorem d_Plans_product_22 : decode b_Plans_product 22 = .ok (.iload 6, 2) := by decide +kernel
theorem d_Plans_product_24 : decode b_Plans_product 24 = .ok (.aload_n 2, 1) := by decide +kernel
theorem d_Plans_product_25 : decode b_Plans_product 25 = .ok (.arraylength, 1) := by decide +kernel
theorem d_Plans_product_26 : decode b_Plans_product 26 = .ok (.if_icmp .ge 11, 3) := by decide +kernel
theorem d_Plans_product_29 : decode b_Plans_product 29 = .ok (.lload_n 3, 1) := by decide +kernel
theorem d_Plans_product_30 : decode b_Plans_product 30 = .ok (.aload_n 2, 1) := by decide +kernel
theorem d_Plans_product_31 : decode b_Plans_product 31 = .ok (.iload 6, 2) := by decide +kernel
theorem d_Plans_product_33 : decode b_Plans_product 33 = .ok (.iaload, 1) := by decide +kernel
theorem d_Plans_product_34 : decode b_Plans_product 34 = .ok (.i2l, 1) := by decide +kernel
theorem d_Plans_product_35 : decode b_Plans_product 35 = .ok (.lmul, 1) := by decide +kernel
theorem d_Plans_product_36 : decode b_Plans_product 36 = .ok (.lstore_n 3, 1) := by decide +kernel
theorem d_Plans_product_37 : decode b_Plans_product 37 = .ok (.iinc 5 1, 3) := by decide +kernel
theorem d_Plans_product_40 : decode b_Plans_product 40 = .ok (.goto (-35), 3) := by decide +kernel
theorem d_Plans_product_43 : decode b_Plans_product 43 = .ok (.lload_n 3, 1) := by decide +kernel
theorem d_Plans_product_44 : decode b_Plans_product 44 = .ok (.lreturn, 1) := by decide +kernel

-- SwapOrbits$Plans.power(II)I
abbrev rm_Plans_power : Room := { frames := 0, cells := 0, slots := 0, locals := 0 }
def L_Plans_power_4b (post : Int32 → Prop) (v0 : Int32) (v1 : Int32) (K4 : Int32 → Int32 → Prop) (v2 : Int32) (v3 : Int32) : Prop := (v1 ≤ v3 → post v2) ∧ (¬ v1 ≤ v3 → ∀ x2_12 : Int32, x2_12 = v2 * v0 → (∀ x3_13 : Int32, x3_13 = v3 + 1 → (K4 x2_12 x3_13)))
def L_Plans_power_4 (post : Int32 → Prop) (v0 : Int32) (v1 : Int32) : Nat → Int32 → Int32 → Prop
  | 0, _, _ => False
  | n + 1, v2, v3 => L_Plans_power_4b post v0 v1 (L_Plans_power_4 post v0 v1 n) v2 v3
def wp_Plans_power (post : Int32 → Prop) (a1 : Int32) (a2 : Int32) : Prop := ∃ n, L_Plans_power_4 post a1 a2 n (1 : Int32) (0 : Int32)
set_option maxHeartbeats 4000000 in
set_option maxRecDepth 100000 in
theorem qL_Plans_power_4 {p : Program} {l : Launch} {e : Env} {s : State} {m : MethodId} {args : Array Value} {below : List Frame} {meth : Method} {c : Code} {dC : Nat → ClassId} {dI : Nat → Nat → Nat} {cI cZ : ClassId} (C : CX p s m args meth c R_Plans b_Plans_power 4 (some .int) (dC, dI) cI cZ) (post : Int32 → Prop) (v0 : Int32) (v1 : Int32) (hP : va_P (dC, dI) classes [] s.heap) : ∀ (n : Nat) (v2 : Int32) (v3 : Int32) , L_Plans_power_4 post v0 v1 n v2 v3 → ∀ (ls : Array Slot), lv_has ls 4 [(0, .int v0), (1, .int v1), (2, .int v2), (3, .int v3)] → W p l e rm_Plans_power s m args below meth c s.heap [] 0 0 (MQ below (vp_Si post) args s 0 0 (fun _ => False)) (F0 m 4 ls []) := by
  obtain ⟨hx, hb, hr, hml, hown, hts, hlocks, hE⟩ := id C
  intro n
  induction n with
  | zero =>
    intro v2 v3 hw
    exact (show False from hw).elim
  | succ n ih =>
    intro v2 v3 hw ls hl
    have hw : L_Plans_power_4b post v0 v1 (L_Plans_power_4 post v0 v1 n) v2 v3 := hw
    unfold L_Plans_power_4b at hw
    refine lv_iload_n hx hb d_Plans_power_4 rfl (lv_at hl 3 rfl) ?_
    refine lv_iload_n hx hb d_Plans_power_5 rfl (lv_at hl 1 rfl) ?_
    refine lv_icmp_ge (tgt := 19) hx hb d_Plans_power_6 (by decide) (fun c6 => ?_) (fun c6 => ?_)
    · have hw := hw.1 c6
      refine lv_iload_n hx hb d_Plans_power_19 rfl (lv_at hl 2 rfl) ?_
      exact W.iret (v := v2) hx hb hr (fun t ht hW => ⟨v2, rfl, hw, by rw [ht]⟩) (fun _ h => by cases h) d_Plans_power_20
    · have hw := hw.2 c6
      refine lv_iload_n hx hb d_Plans_power_9 rfl (lv_at hl 2 rfl) ?_
      refine lv_iload_n hx hb d_Plans_power_10 rfl (lv_at hl 0 rfl) ?_
      refine lv_imul hx hb d_Plans_power_11 ?_
      refine lv_topi (fun x2_12 ex2_12 => ?_)
      have hw := hw x2_12 ex2_12
      refine lv_istore_n (lv' := [(2, .int x2_12), (0, .int v0), (1, .int v1), (3, .int v3)]) hx hb d_Plans_power_12 rfl hl (by decide) rfl (fun ls hl => ?_)
      obtain ⟨x3_13, ex3_13⟩ : ∃ y : Int32, y = v3 + 1 := ⟨_, rfl⟩
      have hw := hw x3_13 ex3_13
      refine lv_iinc (v := x3_13) (lv' := [(3, .int x3_13), (2, .int x2_12), (0, .int v0), (1, .int v1)]) hx hb d_Plans_power_13 hl (k := 3) rfl (by rw [ex3_13]; rfl) (by decide) rfl (fun ls hl => ?_)
      refine lv_goto (tgt := 4) hx hb d_Plans_power_16 (by decide) ?_
      exact ih x2_12 x3_13 hw ls (lv_sub hl [2, 3, 1, 0] rfl)
set_option maxHeartbeats 4000000 in
set_option maxRecDepth 100000 in
theorem met_Plans_power (l : Launch) (dC : Nat → ClassId) (dI : Nat → Nat → Nat) (cI cZ : ClassId) (a1 : Int32) (a2 : Int32) (post : Int32 → Prop) (hw : wp_Plans_power post a1 a2) : Met l y_Plans_power (Cond.code y_Plans_power b_Plans_power 4 (some .int) :: gw) rm_Plans_power (va_Pc [.int a1, .int a2] (fun U => EV (dC, dI) cI cZ U ∧ va_P (dC, dI) classes [] U.heap)) (vp_Si post) 0 0 (fun _ => False) := by
  refine Met.ofW (cc := b_Plans_power) (maxL := 4) (ret := (some .int)) (by decide) rfl ?_
  intro p e s m args below meth c s₁ B hml hv
  obtain ⟨rfl, hE, hP⟩ := hv
  have C := CX.of (own := R_Plans) (D := (dC, dI)) (cI := cI) (cZ := cZ) B hml rfl hE
  obtain ⟨hx, hb, hr, -, hown, hts, hlocks, -⟩ := id C
  have hl := lv_entry ([.int a1, .int a2]) (n := 4) (Nat.le_of_ble_eq_true rfl)
  rw [lg_entry_eq]
  generalize (lg_sl ([.int a1, .int a2]) ++ List.replicate (4 - (lg_sl ([.int a1, .int a2])).length) Slot.unset).toArray = ls at hl ⊢
  have hl : lv_has ls 4 [(0, .int a1), (1, .int a2)] := hl
  unfold wp_Plans_power at hw
  refine lv_iconst (v := (1 : Int32)) hx hb d_Plans_power_0 (by decide) ?_
  refine lv_istore_n (lv' := [(2, .int (1 : Int32)), (0, .int a1), (1, .int a2)]) hx hb d_Plans_power_1 rfl hl (by decide) rfl (fun ls hl => ?_)
  refine lv_iconst (v := (0 : Int32)) hx hb d_Plans_power_2 (by decide) ?_
  refine lv_istore_n (lv' := [(3, .int (0 : Int32)), (2, .int (1 : Int32)), (0, .int a1), (1, .int a2)]) hx hb d_Plans_power_3 rfl hl (by decide) rfl (fun ls hl => ?_)
  obtain ⟨n4, hw⟩ := hw
  exact qL_Plans_power_4 C post  a1 a2 hP  n4 (1 : Int32) (0 : Int32) hw ls (lv_sub hl [2, 3, 1, 0] rfl)

-- SwapOrbits$Plans.shape(II)V
abbrev rm_Plans_shape : Room := { frames := 1, cells := 0, slots := 0, locals := 23 }
abbrev QM_Plans_shape (dC : Nat → ClassId) (dI : Nat → Nat → Nat) (cI cZ : ClassId) (h_t h_t_units : Nat) (post : Int32 → Int32 → Int32 → (Nat → Int32) → Prop) (A : Nat → Prop) : Array Value → State → Outcome → State → Prop := va_Qv (fun u : Int32 × Int32 × Int32 × (Nat → Int32) => post u.1 u.2.1 u.2.2.1 u.2.2.2) (fun u t => va_P (dC, dI) classes [(h_t, .inr (4, [.ref h_t_units, .int u.1, .int u.2.1, .int u.2.2.1])), (h_t_units, .inl (cI, 8, .inl u.2.2.2))] t.heap ∧ va_D A [(h_t, .inr (4, [.ref h_t_units, .int u.1, .int u.2.1, .int u.2.2.1])), (h_t_units, .inl (cI, 8, .inl u.2.2.2))]) A
def L_Plans_shape_27b (post : Int32 → Int32 → Int32 → (Nat → Int32) → Prop) (t_points : Int32) (t_colours : Int32) (t_count : Int32) (K27 : (Nat → Int32) → Int32 → Prop) (t_units : Nat → Int32) (v3 : Int32) : Prop := ((8 : Int32) ≤ v3 → post t_points t_colours t_count t_units) ∧ (¬ (8 : Int32) ≤ v3 → wp_Plans_power (fun r50 => vp_in v3 8 ∧ (∀ x3_54 : Int32, x3_54 = v3 + 1 → (K27 (upd t_units v3.toNatClampNeg r50) x3_54))) t_colours ((t_points - (1 : Int32)) - v3))
def L_Plans_shape_27 (post : Int32 → Int32 → Int32 → (Nat → Int32) → Prop) (t_points : Int32) (t_colours : Int32) (t_count : Int32) : Nat → (Nat → Int32) → Int32 → Prop
  | 0, _, _ => False
  | n + 1, t_units, v3 => L_Plans_shape_27b post t_points t_colours t_count (L_Plans_shape_27 post t_points t_colours t_count n) t_units v3
def wp_Plans_shape (post : Int32 → Int32 → Int32 → (Nat → Int32) → Prop) (t_units : Nat → Int32) (a1 : Int32) (a2 : Int32) : Prop := wp_Plans_power (fun r19 => ∃ n, L_Plans_shape_27 post a1 a2 r19 n t_units (0 : Int32)) a2 a1
set_option maxHeartbeats 4000000 in
set_option maxRecDepth 100000 in
theorem qL_Plans_shape_27 {p : Program} {l : Launch} {e : Env} {s : State} {m : MethodId} {args : Array Value} {below : List Frame} {meth : Method} {c : Code} {dC : Nat → ClassId} {dI : Nat → Nat → Nat} {cI cZ : ClassId} (C : CX p s m args meth c R_Plans b_Plans_shape 4 none (dC, dI) cI cZ) {h_t h_t_units : Nat} {A : Nat → Prop} (hA : ∀ q : Nat, s.heap.size ≤ q → A q) (post : Int32 → Int32 → Int32 → (Nat → Int32) → Prop) (t_points : Int32) (t_colours : Int32) (t_count : Int32) : ∀ (n : Nat) (t_units : Nat → Int32) (v3 : Int32) , L_Plans_shape_27 post t_points t_colours t_count n t_units v3 → ∀ (H : Heap) (locs : List Loc), va_P (dC, dI) classes [(h_t, .inr (4, [.ref h_t_units, .int t_points, .int t_colours, .int t_count])), (h_t_units, .inl (cI, 8, .inl t_units))] H → va_D A [(h_t, .inr (4, [.ref h_t_units, .int t_points, .int t_colours, .int t_count])), (h_t_units, .inl (cI, 8, .inl t_units))] → va_S A s.heap H locs → ∀ (ls : Array Slot), lv_has ls 4 [(0, .ref h_t), (3, .int v3)] → W p l e rm_Plans_shape s m args below meth c H locs 0 0 (MQ below (QM_Plans_shape dC dI cI cZ h_t h_t_units post A) args s 0 0 A) (F0 m 27 ls []) := by
  obtain ⟨hx, hb, hr, hml, hown, hts, hlocks, hE⟩ := id C
  intro n
  induction n with
  | zero =>
    intro t_units v3 hw
    exact (show False from hw).elim
  | succ n ih =>
    intro t_units v3 hw H locs hP hD hS ls hl
    have hw : L_Plans_shape_27b post t_points t_colours t_count (L_Plans_shape_27 post t_points t_colours t_count n) t_units v3 := hw
    unfold L_Plans_shape_27b at hw
    refine lv_iload_n hx hb d_Plans_shape_27 rfl (lv_at hl 1 rfl) ?_
    refine lv_bipush (v := (8 : Int32)) hx hb d_Plans_shape_28 (by decide) ?_
    refine lv_icmp_ge (tgt := 60) hx hb d_Plans_shape_30 (by decide) (fun c30 => ?_) (fun c30 => ?_)
    · have hw := hw.1 c30
      exact W.vret hx hb hr (fun t ht hW => ⟨⟨(t_points, t_colours, t_count, t_units), rfl, hw, by rw [ht]; exact hP, hD⟩, hS.F ht⟩) hS.2.2 d_Plans_shape_60
    · have hw := hw.2 c30
      refine lv_aload_n hx hb d_Plans_shape_33 rfl (lv_at hl 0 rfl) ?_
      refine va_get (D := (dC, dI)) (ci := 4) (v := .ref h_t_units) (C := R_Plans) (T := F_Plans) (N := 4) hx hb hts i_Plans hown hE.1 hP 0 rfl rfl 0 (by decide) (hts _ kf_Plans_9) (fun _ h9 => h9) rfl d_Plans_shape_34 ?_
      refine lv_iload_n hx hb d_Plans_shape_37 rfl (lv_at hl 1 rfl) ?_
      refine lv_aload_n hx hb d_Plans_shape_38 rfl (lv_at hl 0 rfl) ?_
      refine va_get (D := (dC, dI)) (ci := 4) (v := .int t_colours) (C := R_Plans) (T := F_Plans) (N := 4) hx hb hts i_Plans hown hE.1 hP 0 rfl rfl 2 (by decide) (hts _ kf_Plans_19) (fun _ h9 => h9) rfl d_Plans_shape_39 ?_
      refine lv_aload_n hx hb d_Plans_shape_42 rfl (lv_at hl 0 rfl) ?_
      refine va_get (D := (dC, dI)) (ci := 4) (v := .int t_points) (C := R_Plans) (T := F_Plans) (N := 4) hx hb hts i_Plans hown hE.1 hP 0 rfl rfl 1 (by decide) (hts _ kf_Plans_15) (fun _ h9 => h9) rfl d_Plans_shape_43 ?_
      refine lv_iconst (v := (1 : Int32)) hx hb d_Plans_shape_46 (by decide) ?_
      refine lv_isub hx hb d_Plans_shape_47 ?_
      refine lv_iload_n hx hb d_Plans_shape_48 rfl (lv_at hl 1 rfl) ?_
      refine lv_isub hx hb d_Plans_shape_49 ?_
      have hPc := hP.sub (ws' := []) [] rfl
      refine vp_callSi (va_Run.run (va_runS (As := [.int t_colours, .int ((t_points - (1 : Int32)) - v3)]) (rest := [.int v3, .ref h_t_units]) ⟨hx, hb, hml, hown, hts⟩ (met_Plans_power l dC dI cI cZ  t_colours ((t_points - (1 : Int32)) - v3) _ hw) ⟨cB 2 hts kc_Plans_power ki_Plans kl_Plans_22 hd_Plans_power ⟨Nat.le_of_ble_eq_true rfl, Nat.le_of_ble_eq_true rfl⟩, hts _ ks_Plans_power⟩ (preS_ro hE hPc) rfl rfl hl.1 rfl (lv_room (Nat.le_of_ble_eq_true rfl)) d_Plans_shape_50 ⟨Nat.le_of_ble_eq_true rfl, Nat.le_of_ble_eq_true rfl⟩)) (fun r50 hw => ?_)
      have hz := hw.1
      have hw := hw.2
      refine va_iast hx hb hE.1 hP hD hS 1 0 rfl rfl hz d_Plans_shape_53 (fun H locs hP hD hS => ?_)
      have hP : va_P (dC, dI) classes [(h_t, .inr (4, [.ref h_t_units, .int t_points, .int t_colours, .int t_count])), (h_t_units, .inl (cI, 8, .inl (upd t_units v3.toNatClampNeg r50)))] H := hP
      have hD : va_D A [(h_t, .inr (4, [.ref h_t_units, .int t_points, .int t_colours, .int t_count])), (h_t_units, .inl (cI, 8, .inl (upd t_units v3.toNatClampNeg r50)))] := hD
      obtain ⟨x3_54, ex3_54⟩ : ∃ y : Int32, y = v3 + 1 := ⟨_, rfl⟩
      have hw := hw x3_54 ex3_54
      refine lv_iinc (v := x3_54) (lv' := [(3, .int x3_54), (0, .ref h_t)]) hx hb d_Plans_shape_54 hl (k := 1) rfl (by rw [ex3_54]; rfl) (by decide) rfl (fun ls hl => ?_)
      refine lv_goto (tgt := 27) hx hb d_Plans_shape_57 (by decide) ?_
      exact ih (upd t_units v3.toNatClampNeg r50) x3_54 hw H locs hP hD hS ls (lv_sub hl [1, 0] rfl)
set_option maxHeartbeats 4000000 in
set_option maxRecDepth 100000 in
theorem met_Plans_shape (l : Launch) (dC : Nat → ClassId) (dI : Nat → Nat → Nat) (cI cZ : ClassId) (h_t h_t_units : Nat) (sz : Nat) (t_points : Int32) (t_colours : Int32) (t_count : Int32) (t_units : Nat → Int32) (a1 : Int32) (a2 : Int32) (post : Int32 → Int32 → Int32 → (Nat → Int32) → Prop) (hw : wp_Plans_shape post t_units a1 a2) : Met l y_Plans_shape (Cond.code y_Plans_shape b_Plans_shape 4 none :: gw) rm_Plans_shape (va_Pc [.ref h_t, .int a1, .int a2] (fun U => U.heap.size = sz ∧ EV (dC, dI) cI cZ U ∧ va_P (dC, dI) classes [(h_t, .inr (4, [.ref h_t_units, .int t_points, .int t_colours, .int t_count])), (h_t_units, .inl (cI, 8, .inl t_units))] U.heap ∧ va_D (fun _ => True) [(h_t, .inr (4, [.ref h_t_units, .int t_points, .int t_colours, .int t_count])), (h_t_units, .inl (cI, 8, .inl t_units))])) (QM_Plans_shape dC dI cI cZ h_t h_t_units post (va_A [(h_t, .inr (4, [.ref h_t_units, .int t_points, .int t_colours, .int t_count])), (h_t_units, .inl (cI, 8, .inl t_units))] sz)) 0 0 (va_A [(h_t, .inr (4, [.ref h_t_units, .int t_points, .int t_colours, .int t_count])), (h_t_units, .inl (cI, 8, .inl t_units))] sz) := by
  refine Met.ofW (cc := b_Plans_shape) (maxL := 4) (ret := none) (by decide) rfl ?_
  intro p e s m args below meth c s₁ B hml hv
  obtain ⟨rfl, hsz, hE, hP, hD0⟩ := hv
  have C := CX.of (own := R_Plans) (D := (dC, dI)) (cI := cI) (cZ := cZ) B hml rfl hE
  obtain ⟨hx, hb, hr, -, hown, hts, hlocks, -⟩ := id C
  subst hsz
  have hD := hD0.self (sz := s.heap.size)
  generalize hAe : va_A [(h_t, .inr (4, [.ref h_t_units, .int t_points, .int t_colours, .int t_count])), (h_t_units, .inl (cI, 8, .inl t_units))] s.heap.size = A at hD ⊢
  have hA : ∀ q : Nat, s.heap.size ≤ q → A q := fun q h => by rw [← hAe]; exact Or.inr h
  have hS : va_S A s.heap s.heap [] := va_S.rf
  have hP : va_P (dC, dI) classes [(h_t, .inr (4, [.ref h_t_units, .int t_points, .int t_colours, .int t_count])), (h_t_units, .inl (cI, 8, .inl t_units))] s.heap := hP
  have hl := lv_entry ([.ref h_t, .int a1, .int a2]) (n := 4) (Nat.le_of_ble_eq_true rfl)
  rw [lg_entry_eq]
  generalize (lg_sl ([.ref h_t, .int a1, .int a2]) ++ List.replicate (4 - (lg_sl ([.ref h_t, .int a1, .int a2])).length) Slot.unset).toArray = ls at hl ⊢
  have hl : lv_has ls 4 [(0, .ref h_t), (1, .int a1), (2, .int a2)] := hl
  refine keyL (P := fun H locs => va_P (dC, dI) classes [(h_t, .inr (4, [.ref h_t_units, .int t_points, .int t_colours, .int t_count])), (h_t_units, .inl (cI, 8, .inl t_units))] H ∧ va_D A [(h_t, .inr (4, [.ref h_t_units, .int t_points, .int t_colours, .int t_count])), (h_t_units, .inl (cI, 8, .inl t_units))] ∧ va_S A s.heap H locs) ⟨hP, hD, hS⟩ (fun H locs hPP => ?_)
  clear hP hD hS
  obtain ⟨hP, hD, hS⟩ := hPP
  unfold wp_Plans_shape at hw
  refine lv_aload_n hx hb d_Plans_shape_0 rfl (lv_at hl 0 rfl) ?_
  refine lv_iload_n hx hb d_Plans_shape_1 rfl (lv_at hl 1 rfl) ?_
  refine va_put (D := (dC, dI)) (ci := 4) (v := .int a1) (ty := .int) (C := R_Plans) (T := F_Plans) (N := 4) hx hb hts i_Plans t_Plans t_Plans_ok n_Plans hown hE.1 hP hD hS 0 rfl rfl 1 (by decide) (hts _ kf_Plans_15) (fun _ h9 => h9) rfl (by decide +kernel) rfl rfl (Nat.le_of_ble_eq_true rfl) d_Plans_shape_2 (fun H locs hP hD hS => ?_)
  have hP : va_P (dC, dI) classes [(h_t, .inr (4, [.ref h_t_units, .int a1, .int t_colours, .int t_count])), (h_t_units, .inl (cI, 8, .inl t_units))] H := hP
  have hD : va_D A [(h_t, .inr (4, [.ref h_t_units, .int a1, .int t_colours, .int t_count])), (h_t_units, .inl (cI, 8, .inl t_units))] := hD
  refine lv_aload_n hx hb d_Plans_shape_5 rfl (lv_at hl 0 rfl) ?_
  refine lv_iload_n hx hb d_Plans_shape_6 rfl (lv_at hl 2 rfl) ?_
  refine va_put (D := (dC, dI)) (ci := 4) (v := .int a2) (ty := .int) (C := R_Plans) (T := F_Plans) (N := 4) hx hb hts i_Plans t_Plans t_Plans_ok n_Plans hown hE.1 hP hD hS 0 rfl rfl 2 (by decide) (hts _ kf_Plans_19) (fun _ h9 => h9) rfl (by decide +kernel) rfl rfl (Nat.le_of_ble_eq_true rfl) d_Plans_shape_7 (fun H locs hP hD hS => ?_)
  have hP : va_P (dC, dI) classes [(h_t, .inr (4, [.ref h_t_units, .int a1, .int a2, .int t_count])), (h_t_units, .inl (cI, 8, .inl t_units))] H := hP
  have hD : va_D A [(h_t, .inr (4, [.ref h_t_units, .int a1, .int a2, .int t_count])), (h_t_units, .inl (cI, 8, .inl t_units))] := hD
  refine lv_aload_n hx hb d_Plans_shape_10 rfl (lv_at hl 0 rfl) ?_
  refine lv_aload_n hx hb d_Plans_shape_11 rfl (lv_at hl 0 rfl) ?_
  refine va_get (D := (dC, dI)) (ci := 4) (v := .int a2) (C := R_Plans) (T := F_Plans) (N := 4) hx hb hts i_Plans hown hE.1 hP 0 rfl rfl 2 (by decide) (hts _ kf_Plans_19) (fun _ h9 => h9) rfl d_Plans_shape_12 ?_
  refine lv_aload_n hx hb d_Plans_shape_15 rfl (lv_at hl 0 rfl) ?_
  refine va_get (D := (dC, dI)) (ci := 4) (v := .int a1) (C := R_Plans) (T := F_Plans) (N := 4) hx hb hts i_Plans hown hE.1 hP 0 rfl rfl 1 (by decide) (hts _ kf_Plans_15) (fun _ h9 => h9) rfl d_Plans_shape_16 ?_
  have hPc := hP.sub (ws' := []) [] rfl
  refine vp_callSi (va_Run.run (va_runS (As := [.int a2, .int a1]) (rest := [.ref h_t]) ⟨hx, hb, hml, hown, hts⟩ (met_Plans_power l dC dI cI cZ  a2 a1 _ hw) ⟨cB 2 hts kc_Plans_power ki_Plans kl_Plans_22 hd_Plans_power ⟨Nat.le_of_ble_eq_true rfl, Nat.le_of_ble_eq_true rfl⟩, hts _ ks_Plans_power⟩ (preS_ro hE hPc) rfl rfl hl.1 rfl (lv_room (Nat.le_of_ble_eq_true rfl)) d_Plans_shape_19 ⟨Nat.le_of_ble_eq_true rfl, Nat.le_of_ble_eq_true rfl⟩)) (fun r19 hw => ?_)
  refine va_put (D := (dC, dI)) (ci := 4) (v := .int r19) (ty := .int) (C := R_Plans) (T := F_Plans) (N := 4) hx hb hts i_Plans t_Plans t_Plans_ok n_Plans hown hE.1 hP hD hS 0 rfl rfl 3 (by decide) (hts _ kf_Plans_26) (fun _ h9 => h9) rfl (by decide +kernel) rfl rfl (Nat.le_of_ble_eq_true rfl) d_Plans_shape_22 (fun H locs hP hD hS => ?_)
  have hP : va_P (dC, dI) classes [(h_t, .inr (4, [.ref h_t_units, .int a1, .int a2, .int r19])), (h_t_units, .inl (cI, 8, .inl t_units))] H := hP
  have hD : va_D A [(h_t, .inr (4, [.ref h_t_units, .int a1, .int a2, .int r19])), (h_t_units, .inl (cI, 8, .inl t_units))] := hD
  refine lv_iconst (v := (0 : Int32)) hx hb d_Plans_shape_25 (by decide) ?_
  refine lv_istore_n (lv' := [(3, .int (0 : Int32)), (0, .ref h_t), (1, .int a1), (2, .int a2)]) hx hb d_Plans_shape_26 rfl hl (by decide) rfl (fun ls hl => ?_)
  obtain ⟨n27, hw⟩ := hw
  exact qL_Plans_shape_27 C hA post  a1 a2 r19  n27 t_units (0 : Int32) hw H locs hP hD hS ls (lv_sub hl [1, 0] rfl)

-- SwapOrbits$Plans.has(I)Z
abbrev rm_Plans_has : Room := { frames := 0, cells := 0, slots := 0, locals := 0 }
def wp_Plans_has (post : Int32 → Prop) (t_count : Int32) (a1 : Int32) : Prop := (a1 < 0 → post (0 : Int32)) ∧ (¬ a1 < 0 → (t_count ≤ a1 → post (0 : Int32)) ∧ (¬ t_count ≤ a1 → post (1 : Int32)))
set_option maxHeartbeats 4000000 in
set_option maxRecDepth 100000 in
theorem met_Plans_has (l : Launch) (dC : Nat → ClassId) (dI : Nat → Nat → Nat) (cI cZ : ClassId) (h_t h_t_units : Nat) (t_points : Int32) (t_colours : Int32) (t_count : Int32) (t_units : Nat → Int32) (a1 : Int32) (post : Int32 → Prop) (hw : wp_Plans_has post t_count a1) : Met l y_Plans_has (Cond.code y_Plans_has b_Plans_has 2 (some .boolean) :: gw) rm_Plans_has (va_Pc [.ref h_t, .int a1] (fun U => EV (dC, dI) cI cZ U ∧ va_P (dC, dI) classes [(h_t, .inr (4, [.ref h_t_units, .int t_points, .int t_colours, .int t_count])), (h_t_units, .inl (cI, 8, .inl t_units))] U.heap)) (vp_Si post) 0 0 (fun _ => False) := by
  refine Met.ofW (cc := b_Plans_has) (maxL := 2) (ret := (some .boolean)) (by decide) rfl ?_
  intro p e s m args below meth c s₁ B hml hv
  obtain ⟨rfl, hE, hP⟩ := hv
  have C := CX.of (own := R_Plans) (D := (dC, dI)) (cI := cI) (cZ := cZ) B hml rfl hE
  obtain ⟨hx, hb, hr, -, hown, hts, hlocks, -⟩ := id C
  have hl := lv_entry ([.ref h_t, .int a1]) (n := 2) (Nat.le_of_ble_eq_true rfl)
  rw [lg_entry_eq]
  generalize (lg_sl ([.ref h_t, .int a1]) ++ List.replicate (2 - (lg_sl ([.ref h_t, .int a1])).length) Slot.unset).toArray = ls at hl ⊢
  have hl : lv_has ls 2 [(0, .ref h_t), (1, .int a1)] := hl
  unfold wp_Plans_has at hw
  refine lv_iload_n hx hb d_Plans_has_0 rfl (lv_at hl 1 rfl) ?_
  refine lv_if_lt (tgt := 16) hx hb d_Plans_has_1 (by decide) (fun c1 => ?_) (fun c1 => ?_)
  · have hw := hw.1 c1
    refine lv_iconst (v := (0 : Int32)) hx hb d_Plans_has_16 (by decide) ?_
    exact W.zret (v := (0 : Int32)) hx hb hr rfl (fun t ht hW => ⟨(0 : Int32), rfl, hw, by rw [ht]⟩) (fun _ h => by cases h) d_Plans_has_17
  · have hw := hw.2 c1
    refine lv_iload_n hx hb d_Plans_has_4 rfl (lv_at hl 1 rfl) ?_
    refine lv_aload_n hx hb d_Plans_has_5 rfl (lv_at hl 0 rfl) ?_
    refine va_get (D := (dC, dI)) (ci := 4) (v := .int t_count) (C := R_Plans) (T := F_Plans) (N := 4) hx hb hts i_Plans hown hE.1 hP 0 rfl rfl 3 (by decide) (hts _ kf_Plans_26) (fun _ h9 => h9) rfl d_Plans_has_6 ?_
    refine lv_icmp_ge (tgt := 16) hx hb d_Plans_has_9 (by decide) (fun c9 => ?_) (fun c9 => ?_)
    · have hw := hw.1 c9
      refine lv_iconst (v := (0 : Int32)) hx hb d_Plans_has_16 (by decide) ?_
      exact W.zret (v := (0 : Int32)) hx hb hr rfl (fun t ht hW => ⟨(0 : Int32), rfl, hw, by rw [ht]⟩) (fun _ h => by cases h) d_Plans_has_17
    · have hw := hw.2 c9
      refine lv_iconst (v := (1 : Int32)) hx hb d_Plans_has_12 (by decide) ?_
      refine lv_goto (tgt := 17) hx hb d_Plans_has_13 (by decide) ?_
      exact W.zret (v := (1 : Int32)) hx hb hr rfl (fun t ht hW => ⟨(1 : Int32), rfl, hw, by rw [ht]⟩) (fun _ h => by cases h) d_Plans_has_17

-- SwapOrbits$Plans.spread(I)I
abbrev rm_Plans_spread : Room := { frames := 0, cells := 0, slots := 0, locals := 0 }
def L_Plans_spread_12b (post : Int32 → Prop) (t_colours : Int32) (K12 : Int32 → Int32 → Int32 → Prop) (v2 : Int32) (v3 : Int32) (v4 : Int32) : Prop := (v4 < 0 → post v2) ∧ (¬ v4 < 0 → (t_colours ≤ 0 → post v2) ∧ (¬ t_colours ≤ 0 → (¬ t_colours = 0) ∧ (∀ x2_37 : Int32, x2_37 = v2 ||| ((v3 - v3 / t_colours * t_colours) <<< (((2 : Int32) * v4) &&& 31)) → ((¬ t_colours = 0) ∧ (∀ x3_44 : Int32, x3_44 = v3 / t_colours → (∀ x4_45 : Int32, x4_45 = v4 + (-1) → (K12 x2_37 x3_44 x4_45)))))))
def L_Plans_spread_12 (post : Int32 → Prop) (t_colours : Int32) : Nat → Int32 → Int32 → Int32 → Prop
  | 0, _, _, _ => False
  | n + 1, v2, v3, v4 => L_Plans_spread_12b post t_colours (L_Plans_spread_12 post t_colours n) v2 v3 v4
def wp_Plans_spread (post : Int32 → Prop) (t_points : Int32) (t_colours : Int32) (a1 : Int32) : Prop := ∀ x4_10 : Int32, x4_10 = t_points - (1 : Int32) → (∃ n, L_Plans_spread_12 post t_colours n (0 : Int32) a1 x4_10)
set_option maxHeartbeats 4000000 in
set_option maxRecDepth 100000 in
theorem qL_Plans_spread_12 {p : Program} {l : Launch} {e : Env} {s : State} {m : MethodId} {args : Array Value} {below : List Frame} {meth : Method} {c : Code} {dC : Nat → ClassId} {dI : Nat → Nat → Nat} {cI cZ : ClassId} (C : CX p s m args meth c R_Plans b_Plans_spread 5 (some .int) (dC, dI) cI cZ) {h_t h_t_units : Nat} (post : Int32 → Prop) (t_points : Int32) (t_colours : Int32) (t_count : Int32) (t_units : Nat → Int32) (hP : va_P (dC, dI) classes [(h_t, .inr (4, [.ref h_t_units, .int t_points, .int t_colours, .int t_count])), (h_t_units, .inl (cI, 8, .inl t_units))] s.heap) : ∀ (n : Nat) (v2 : Int32) (v3 : Int32) (v4 : Int32) , L_Plans_spread_12 post t_colours n v2 v3 v4 → ∀ (ls : Array Slot), lv_has ls 5 [(0, .ref h_t), (2, .int v2), (3, .int v3), (4, .int v4)] → W p l e rm_Plans_spread s m args below meth c s.heap [] 0 0 (MQ below (vp_Si post) args s 0 0 (fun _ => False)) (F0 m 12 ls []) := by
  obtain ⟨hx, hb, hr, hml, hown, hts, hlocks, hE⟩ := id C
  intro n
  induction n with
  | zero =>
    intro v2 v3 v4 hw
    exact (show False from hw).elim
  | succ n ih =>
    intro v2 v3 v4 hw ls hl
    have hw : L_Plans_spread_12b post t_colours (L_Plans_spread_12 post t_colours n) v2 v3 v4 := hw
    unfold L_Plans_spread_12b at hw
    refine lv_iload hx hb d_Plans_spread_12 (lv_at hl 3 rfl) ?_
    refine lv_if_lt (tgt := 51) hx hb d_Plans_spread_14 (by decide) (fun c14 => ?_) (fun c14 => ?_)
    · have hw := hw.1 c14
      refine lv_iload_n hx hb d_Plans_spread_51 rfl (lv_at hl 1 rfl) ?_
      exact W.iret (v := v2) hx hb hr (fun t ht hW => ⟨v2, rfl, hw, by rw [ht]⟩) (fun _ h => by cases h) d_Plans_spread_52
    · have hw := hw.2 c14
      refine lv_aload_n hx hb d_Plans_spread_17 rfl (lv_at hl 0 rfl) ?_
      refine va_get (D := (dC, dI)) (ci := 4) (v := .int t_colours) (C := R_Plans) (T := F_Plans) (N := 4) hx hb hts i_Plans hown hE.1 hP 0 rfl rfl 2 (by decide) (hts _ kf_Plans_19) (fun _ h9 => h9) rfl d_Plans_spread_18 ?_
      refine lv_if_le (tgt := 51) hx hb d_Plans_spread_21 (by decide) (fun c21 => ?_) (fun c21 => ?_)
      · have hw := hw.1 c21
        refine lv_iload_n hx hb d_Plans_spread_51 rfl (lv_at hl 1 rfl) ?_
        exact W.iret (v := v2) hx hb hr (fun t ht hW => ⟨v2, rfl, hw, by rw [ht]⟩) (fun _ h => by cases h) d_Plans_spread_52
      · have hw := hw.2 c21
        refine lv_iload_n hx hb d_Plans_spread_24 rfl (lv_at hl 1 rfl) ?_
        refine lv_iload_n hx hb d_Plans_spread_25 rfl (lv_at hl 2 rfl) ?_
        refine lv_aload_n hx hb d_Plans_spread_26 rfl (lv_at hl 0 rfl) ?_
        refine va_get (D := (dC, dI)) (ci := 4) (v := .int t_colours) (C := R_Plans) (T := F_Plans) (N := 4) hx hb hts i_Plans hown hE.1 hP 0 rfl rfl 2 (by decide) (hts _ kf_Plans_19) (fun _ h9 => h9) rfl d_Plans_spread_27 ?_
        have hz := hw.1
        have hw := hw.2
        refine lv_irem hx hb d_Plans_spread_30 hz ?_
        refine lv_iconst (v := (2 : Int32)) hx hb d_Plans_spread_31 (by decide) ?_
        refine lv_iload hx hb d_Plans_spread_32 (lv_at hl 3 rfl) ?_
        refine lv_imul hx hb d_Plans_spread_34 ?_
        refine lv_ishl hx hb d_Plans_spread_35 ?_
        refine lv_ior hx hb d_Plans_spread_36 ?_
        refine lv_topi (fun x2_37 ex2_37 => ?_)
        have hw := hw x2_37 ex2_37
        refine lv_istore_n (lv' := [(2, .int x2_37), (0, .ref h_t), (3, .int v3), (4, .int v4)]) hx hb d_Plans_spread_37 rfl hl (by decide) rfl (fun ls hl => ?_)
        refine lv_iload_n hx hb d_Plans_spread_38 rfl (lv_at hl 2 rfl) ?_
        refine lv_aload_n hx hb d_Plans_spread_39 rfl (lv_at hl 1 rfl) ?_
        refine va_get (D := (dC, dI)) (ci := 4) (v := .int t_colours) (C := R_Plans) (T := F_Plans) (N := 4) hx hb hts i_Plans hown hE.1 hP 0 rfl rfl 2 (by decide) (hts _ kf_Plans_19) (fun _ h9 => h9) rfl d_Plans_spread_40 ?_
        have hz := hw.1
        have hw := hw.2
        refine lv_idiv hx hb d_Plans_spread_43 hz ?_
        refine lv_topi (fun x3_44 ex3_44 => ?_)
        have hw := hw x3_44 ex3_44
        refine lv_istore_n (lv' := [(3, .int x3_44), (2, .int x2_37), (0, .ref h_t), (4, .int v4)]) hx hb d_Plans_spread_44 rfl hl (by decide) rfl (fun ls hl => ?_)
        obtain ⟨x4_45, ex4_45⟩ : ∃ y : Int32, y = v4 + (-1) := ⟨_, rfl⟩
        have hw := hw x4_45 ex4_45
        refine lv_iinc (v := x4_45) (lv' := [(4, .int x4_45), (3, .int x3_44), (2, .int x2_37), (0, .ref h_t)]) hx hb d_Plans_spread_45 hl (k := 3) rfl (by rw [ex4_45]; rfl) (by decide) rfl (fun ls hl => ?_)
        refine lv_goto (tgt := 12) hx hb d_Plans_spread_48 (by decide) ?_
        exact ih x2_37 x3_44 x4_45 hw ls (lv_sub hl [3, 2, 1, 0] rfl)
set_option maxHeartbeats 4000000 in
set_option maxRecDepth 100000 in
theorem met_Plans_spread (l : Launch) (dC : Nat → ClassId) (dI : Nat → Nat → Nat) (cI cZ : ClassId) (h_t h_t_units : Nat) (t_points : Int32) (t_colours : Int32) (t_count : Int32) (t_units : Nat → Int32) (a1 : Int32) (post : Int32 → Prop) (hw : wp_Plans_spread post t_points t_colours a1) : Met l y_Plans_spread (Cond.code y_Plans_spread b_Plans_spread 5 (some .int) :: gw) rm_Plans_spread (va_Pc [.ref h_t, .int a1] (fun U => EV (dC, dI) cI cZ U ∧ va_P (dC, dI) classes [(h_t, .inr (4, [.ref h_t_units, .int t_points, .int t_colours, .int t_count])), (h_t_units, .inl (cI, 8, .inl t_units))] U.heap)) (vp_Si post) 0 0 (fun _ => False) := by
  refine Met.ofW (cc := b_Plans_spread) (maxL := 5) (ret := (some .int)) (by decide) rfl ?_
  intro p e s m args below meth c s₁ B hml hv
  obtain ⟨rfl, hE, hP⟩ := hv
  have C := CX.of (own := R_Plans) (D := (dC, dI)) (cI := cI) (cZ := cZ) B hml rfl hE
  obtain ⟨hx, hb, hr, -, hown, hts, hlocks, -⟩ := id C
  have hl := lv_entry ([.ref h_t, .int a1]) (n := 5) (Nat.le_of_ble_eq_true rfl)
  rw [lg_entry_eq]
  generalize (lg_sl ([.ref h_t, .int a1]) ++ List.replicate (5 - (lg_sl ([.ref h_t, .int a1])).length) Slot.unset).toArray = ls at hl ⊢
  have hl : lv_has ls 5 [(0, .ref h_t), (1, .int a1)] := hl
  unfold wp_Plans_spread at hw
  refine lv_iconst (v := (0 : Int32)) hx hb d_Plans_spread_0 (by decide) ?_
  refine lv_istore_n (lv' := [(2, .int (0 : Int32)), (0, .ref h_t), (1, .int a1)]) hx hb d_Plans_spread_1 rfl hl (by decide) rfl (fun ls hl => ?_)
  refine lv_iload_n hx hb d_Plans_spread_2 rfl (lv_at hl 2 rfl) ?_
  refine lv_istore_n (lv' := [(3, .int a1), (2, .int (0 : Int32)), (0, .ref h_t), (1, .int a1)]) hx hb d_Plans_spread_3 rfl hl (by decide) rfl (fun ls hl => ?_)
  refine lv_aload_n hx hb d_Plans_spread_4 rfl (lv_at hl 2 rfl) ?_
  refine va_get (D := (dC, dI)) (ci := 4) (v := .int t_points) (C := R_Plans) (T := F_Plans) (N := 4) hx hb hts i_Plans hown hE.1 hP 0 rfl rfl 1 (by decide) (hts _ kf_Plans_15) (fun _ h9 => h9) rfl d_Plans_spread_5 ?_
  refine lv_iconst (v := (1 : Int32)) hx hb d_Plans_spread_8 (by decide) ?_
  refine lv_isub hx hb d_Plans_spread_9 ?_
  refine lv_topi (fun x4_10 ex4_10 => ?_)
  have hw := hw x4_10 ex4_10
  refine lv_istore (lv' := [(4, .int x4_10), (3, .int a1), (2, .int (0 : Int32)), (0, .ref h_t), (1, .int a1)]) hx hb d_Plans_spread_10 hl (by decide) rfl (fun ls hl => ?_)
  obtain ⟨n12, hw⟩ := hw
  exact qL_Plans_spread_12 C post  t_points t_colours t_count t_units hP  n12 (0 : Int32) a1 x4_10 hw ls (lv_sub hl [3, 2, 1, 0] rfl)

-- SwapOrbits$Plans.colourAt(II)I
abbrev rm_Plans_colourAt : Room := { frames := 0, cells := 0, slots := 0, locals := 0 }
def wp_Plans_colourAt (post : Int32 → Prop) (a1 : Int32) (a2 : Int32) : Prop := post (((a1.toUInt32 >>> (((2 : Int32) * a2).toUInt32 &&& Int32.toUInt32 31)).toInt32) &&& (3 : Int32))
set_option maxHeartbeats 4000000 in
set_option maxRecDepth 100000 in
theorem met_Plans_colourAt (l : Launch) (dC : Nat → ClassId) (dI : Nat → Nat → Nat) (cI cZ : ClassId) (a1 : Int32) (a2 : Int32) (post : Int32 → Prop) (hw : wp_Plans_colourAt post a1 a2) : Met l y_Plans_colourAt (Cond.code y_Plans_colourAt b_Plans_colourAt 2 (some .int) :: gw) rm_Plans_colourAt (va_Pc [.int a1, .int a2] (fun U => EV (dC, dI) cI cZ U ∧ va_P (dC, dI) classes [] U.heap)) (vp_Si post) 0 0 (fun _ => False) := by
  refine Met.ofW (cc := b_Plans_colourAt) (maxL := 2) (ret := (some .int)) (by decide) rfl ?_
  intro p e s m args below meth c s₁ B hml hv
  obtain ⟨rfl, hE, hP⟩ := hv
  have C := CX.of (own := R_Plans) (D := (dC, dI)) (cI := cI) (cZ := cZ) B hml rfl hE
  obtain ⟨hx, hb, hr, -, hown, hts, hlocks, -⟩ := id C
  have hl := lv_entry ([.int a1, .int a2]) (n := 2) (Nat.le_of_ble_eq_true rfl)
  rw [lg_entry_eq]
  generalize (lg_sl ([.int a1, .int a2]) ++ List.replicate (2 - (lg_sl ([.int a1, .int a2])).length) Slot.unset).toArray = ls at hl ⊢
  have hl : lv_has ls 2 [(0, .int a1), (1, .int a2)] := hl
  unfold wp_Plans_colourAt at hw
  refine lv_iload_n hx hb d_Plans_colourAt_0 rfl (lv_at hl 0 rfl) ?_
  refine lv_iconst (v := (2 : Int32)) hx hb d_Plans_colourAt_1 (by decide) ?_
  refine lv_iload_n hx hb d_Plans_colourAt_2 rfl (lv_at hl 1 rfl) ?_
  refine lv_imul hx hb d_Plans_colourAt_3 ?_
  refine lv_iushr (v := (a1.toUInt32 >>> (((2 : Int32) * a2).toUInt32 &&& Int32.toUInt32 31)).toInt32) hx hb d_Plans_colourAt_4 rfl ?_
  refine lv_iconst (v := (3 : Int32)) hx hb d_Plans_colourAt_5 (by decide) ?_
  refine lv_iand hx hb d_Plans_colourAt_6 ?_
  exact W.iret (v := (((a1.toUInt32 >>> (((2 : Int32) * a2).toUInt32 &&& Int32.toUInt32 31)).toInt32) &&& (3 : Int32))) hx hb hr (fun t ht hW => ⟨(((a1.toUInt32 >>> (((2 : Int32) * a2).toUInt32 &&& Int32.toUInt32 31)).toInt32) &&& (3 : Int32)), rfl, hw, by rw [ht]⟩) (fun _ h => by cases h) d_Plans_colourAt_7

-- SwapOrbits$Plans.moved(II)I
abbrev rm_Plans_moved : Room := { frames := 1, cells := 0, slots := 0, locals := 21 }
def L_Plans_moved_5b (post : Int32 → Prop) (t_points : Int32) (t_units : Nat → Int32) (v1 : Int32) (v2 : Int32) (K5 : Int32 → Int32 → Prop) (v3 : Int32) (v4 : Int32) : Prop := (t_points ≤ v4 → post v3) ∧ (¬ t_points ≤ v4 → wp_Plans_colourAt (fun r18 => wp_Rows_target (fun r28 => vp_in r28 8 ∧ (∀ x3_34 : Int32, x3_34 = v3 + (r18 * (t_units r28.toNatClampNeg)) → (∀ x4_35 : Int32, x4_35 = v4 + 1 → (K5 x3_34 x4_35)))) v2 v4) v1 v4)
def L_Plans_moved_5 (post : Int32 → Prop) (t_points : Int32) (t_units : Nat → Int32) (v1 : Int32) (v2 : Int32) : Nat → Int32 → Int32 → Prop
  | 0, _, _ => False
  | n + 1, v3, v4 => L_Plans_moved_5b post t_points t_units v1 v2 (L_Plans_moved_5 post t_points t_units v1 v2 n) v3 v4
def wp_Plans_moved (post : Int32 → Prop) (t_points : Int32) (t_units : Nat → Int32) (a1 : Int32) (a2 : Int32) : Prop := ∃ n, L_Plans_moved_5 post t_points t_units a1 a2 n (0 : Int32) (0 : Int32)
set_option maxHeartbeats 4000000 in
set_option maxRecDepth 100000 in
theorem qL_Plans_moved_5 {p : Program} {l : Launch} {e : Env} {s : State} {m : MethodId} {args : Array Value} {below : List Frame} {meth : Method} {c : Code} {dC : Nat → ClassId} {dI : Nat → Nat → Nat} {cI cZ : ClassId} (C : CX p s m args meth c R_Plans b_Plans_moved 5 (some .int) (dC, dI) cI cZ) {h_t h_t_units : Nat} (post : Int32 → Prop) (t_points : Int32) (t_colours : Int32) (t_count : Int32) (t_units : Nat → Int32) (v1 : Int32) (v2 : Int32) (hP : va_P (dC, dI) classes [(h_t, .inr (4, [.ref h_t_units, .int t_points, .int t_colours, .int t_count])), (h_t_units, .inl (cI, 8, .inl t_units))] s.heap) : ∀ (n : Nat) (v3 : Int32) (v4 : Int32) , L_Plans_moved_5 post t_points t_units v1 v2 n v3 v4 → ∀ (ls : Array Slot), lv_has ls 5 [(0, .ref h_t), (1, .int v1), (2, .int v2), (3, .int v3), (4, .int v4)] → W p l e rm_Plans_moved s m args below meth c s.heap [] 0 0 (MQ below (vp_Si post) args s 0 0 (fun _ => False)) (F0 m 5 ls []) := by
  obtain ⟨hx, hb, hr, hml, hown, hts, hlocks, hE⟩ := id C
  intro n
  induction n with
  | zero =>
    intro v3 v4 hw
    exact (show False from hw).elim
  | succ n ih =>
    intro v3 v4 hw ls hl
    have hw : L_Plans_moved_5b post t_points t_units v1 v2 (L_Plans_moved_5 post t_points t_units v1 v2 n) v3 v4 := hw
    unfold L_Plans_moved_5b at hw
    refine lv_iload hx hb d_Plans_moved_5 (lv_at hl 4 rfl) ?_
    refine lv_aload_n hx hb d_Plans_moved_7 rfl (lv_at hl 0 rfl) ?_
    refine va_get (D := (dC, dI)) (ci := 4) (v := .int t_points) (C := R_Plans) (T := F_Plans) (N := 4) hx hb hts i_Plans hown hE.1 hP 0 rfl rfl 1 (by decide) (hts _ kf_Plans_15) (fun _ h9 => h9) rfl d_Plans_moved_8 ?_
    refine lv_icmp_ge (tgt := 41) hx hb d_Plans_moved_11 (by decide) (fun c11 => ?_) (fun c11 => ?_)
    · have hw := hw.1 c11
      refine lv_iload_n hx hb d_Plans_moved_41 rfl (lv_at hl 3 rfl) ?_
      exact W.iret (v := v3) hx hb hr (fun t ht hW => ⟨v3, rfl, hw, by rw [ht]⟩) (fun _ h => by cases h) d_Plans_moved_42
    · have hw := hw.2 c11
      refine lv_iload_n hx hb d_Plans_moved_14 rfl (lv_at hl 3 rfl) ?_
      refine lv_iload_n hx hb d_Plans_moved_15 rfl (lv_at hl 1 rfl) ?_
      refine lv_iload hx hb d_Plans_moved_16 (lv_at hl 4 rfl) ?_
      have hPc := hP.sub (ws' := []) [] rfl
      refine vp_callSi (va_Run.run (va_runS (As := [.int v1, .int v4]) (rest := [.int v3]) ⟨hx, hb, hml, hown, hts⟩ (met_Plans_colourAt l dC dI cI cZ  v1 v4 _ hw) ⟨cB 2 hts kc_Plans_colourAt ki_Plans kl_Plans_29 hd_Plans_colourAt ⟨Nat.le_of_ble_eq_true rfl, Nat.le_of_ble_eq_true rfl⟩, hts _ ks_Plans_colourAt⟩ (preS_ro hE hPc) rfl rfl hl.1 rfl (lv_room (Nat.le_of_ble_eq_true rfl)) d_Plans_moved_18 ⟨Nat.le_of_ble_eq_true rfl, Nat.le_of_ble_eq_true rfl⟩)) (fun r18 hw => ?_)
      refine lv_aload_n hx hb d_Plans_moved_21 rfl (lv_at hl 0 rfl) ?_
      refine va_get (D := (dC, dI)) (ci := 4) (v := .ref h_t_units) (C := R_Plans) (T := F_Plans) (N := 4) hx hb hts i_Plans hown hE.1 hP 0 rfl rfl 0 (by decide) (hts _ kf_Plans_9) (fun _ h9 => h9) rfl d_Plans_moved_22 ?_
      refine lv_iload_n hx hb d_Plans_moved_25 rfl (lv_at hl 2 rfl) ?_
      refine lv_iload hx hb d_Plans_moved_26 (lv_at hl 4 rfl) ?_
      have hPc := hP.sub (ws' := []) [] rfl
      refine vp_callSi (va_Run.run (va_runS (As := [.int v2, .int v4]) (rest := [.ref h_t_units, .int r18, .int v3]) ⟨hx, hb, hml, hown, hts⟩ (met_Rows_target l dC dI cI cZ  v2 v4 _ hw) ⟨cB 2 hts kc_Rows_target ki_Rows kl_Plans_32 hd_Rows_target ⟨Nat.le_of_ble_eq_true rfl, Nat.le_of_ble_eq_true rfl⟩, hts _ ks_Rows_target⟩ (preS_ro hE hPc) rfl rfl hl.1 rfl (lv_room (Nat.le_of_ble_eq_true rfl)) d_Plans_moved_28 ⟨Nat.le_of_ble_eq_true rfl, Nat.le_of_ble_eq_true rfl⟩)) (fun r28 hw => ?_)
      have hz := hw.1
      have hw := hw.2
      refine va_iald hx hb hE.1 hP 1 0 rfl rfl hz d_Plans_moved_31 ?_
      refine lv_imul hx hb d_Plans_moved_32 ?_
      refine lv_iadd hx hb d_Plans_moved_33 ?_
      refine lv_topi (fun x3_34 ex3_34 => ?_)
      have hw := hw x3_34 ex3_34
      refine lv_istore_n (lv' := [(3, .int x3_34), (0, .ref h_t), (1, .int v1), (2, .int v2), (4, .int v4)]) hx hb d_Plans_moved_34 rfl hl (by decide) rfl (fun ls hl => ?_)
      obtain ⟨x4_35, ex4_35⟩ : ∃ y : Int32, y = v4 + 1 := ⟨_, rfl⟩
      have hw := hw x4_35 ex4_35
      refine lv_iinc (v := x4_35) (lv' := [(4, .int x4_35), (3, .int x3_34), (0, .ref h_t), (1, .int v1), (2, .int v2)]) hx hb d_Plans_moved_35 hl (k := 4) rfl (by rw [ex4_35]; rfl) (by decide) rfl (fun ls hl => ?_)
      refine lv_goto (tgt := 5) hx hb d_Plans_moved_38 (by decide) ?_
      exact ih x3_34 x4_35 hw ls (lv_sub hl [2, 3, 4, 1, 0] rfl)
set_option maxHeartbeats 4000000 in
set_option maxRecDepth 100000 in
theorem met_Plans_moved (l : Launch) (dC : Nat → ClassId) (dI : Nat → Nat → Nat) (cI cZ : ClassId) (h_t h_t_units : Nat) (t_points : Int32) (t_colours : Int32) (t_count : Int32) (t_units : Nat → Int32) (a1 : Int32) (a2 : Int32) (post : Int32 → Prop) (hw : wp_Plans_moved post t_points t_units a1 a2) : Met l y_Plans_moved (Cond.code y_Plans_moved b_Plans_moved 5 (some .int) :: gw) rm_Plans_moved (va_Pc [.ref h_t, .int a1, .int a2] (fun U => EV (dC, dI) cI cZ U ∧ va_P (dC, dI) classes [(h_t, .inr (4, [.ref h_t_units, .int t_points, .int t_colours, .int t_count])), (h_t_units, .inl (cI, 8, .inl t_units))] U.heap)) (vp_Si post) 0 0 (fun _ => False) := by
  refine Met.ofW (cc := b_Plans_moved) (maxL := 5) (ret := (some .int)) (by decide) rfl ?_
  intro p e s m args below meth c s₁ B hml hv
  obtain ⟨rfl, hE, hP⟩ := hv
  have C := CX.of (own := R_Plans) (D := (dC, dI)) (cI := cI) (cZ := cZ) B hml rfl hE
  obtain ⟨hx, hb, hr, -, hown, hts, hlocks, -⟩ := id C
  have hl := lv_entry ([.ref h_t, .int a1, .int a2]) (n := 5) (Nat.le_of_ble_eq_true rfl)
  rw [lg_entry_eq]
  generalize (lg_sl ([.ref h_t, .int a1, .int a2]) ++ List.replicate (5 - (lg_sl ([.ref h_t, .int a1, .int a2])).length) Slot.unset).toArray = ls at hl ⊢
  have hl : lv_has ls 5 [(0, .ref h_t), (1, .int a1), (2, .int a2)] := hl
  unfold wp_Plans_moved at hw
  refine lv_iconst (v := (0 : Int32)) hx hb d_Plans_moved_0 (by decide) ?_
  refine lv_istore_n (lv' := [(3, .int (0 : Int32)), (0, .ref h_t), (1, .int a1), (2, .int a2)]) hx hb d_Plans_moved_1 rfl hl (by decide) rfl (fun ls hl => ?_)
  refine lv_iconst (v := (0 : Int32)) hx hb d_Plans_moved_2 (by decide) ?_
  refine lv_istore (lv' := [(4, .int (0 : Int32)), (3, .int (0 : Int32)), (0, .ref h_t), (1, .int a1), (2, .int a2)]) hx hb d_Plans_moved_3 hl (by decide) rfl (fun ls hl => ?_)
  obtain ⟨n5, hw⟩ := hw
  exact qL_Plans_moved_5 C post  t_points t_colours t_count t_units a1 a2 hP  n5 (0 : Int32) (0 : Int32) hw ls (lv_sub hl [2, 3, 4, 1, 0] rfl)

-- SwapOrbits$Plans.isKept(II)Z
abbrev rm_Plans_isKept : Room := { frames := 1, cells := 0, slots := 0, locals := 21 }
def L_Plans_isKept_2b (post : Int32 → Prop) (t_points : Int32) (v1 : Int32) (v2 : Int32) (K2 : Int32 → Prop) (v3 : Int32) : Prop := (t_points ≤ v3 → post (1 : Int32)) ∧ (¬ t_points ≤ v3 → wp_Plans_colourAt (fun r12 => wp_Rows_target (fun r18 => wp_Plans_colourAt (fun r21 => (r12 = r21 → ∀ x3_29 : Int32, x3_29 = v3 + 1 → (K2 x3_29)) ∧ (¬ r12 = r21 → post (0 : Int32))) v1 r18) v2 v3) v1 v3)
def L_Plans_isKept_2 (post : Int32 → Prop) (t_points : Int32) (v1 : Int32) (v2 : Int32) : Nat → Int32 → Prop
  | 0, _ => False
  | n + 1, v3 => L_Plans_isKept_2b post t_points v1 v2 (L_Plans_isKept_2 post t_points v1 v2 n) v3
def wp_Plans_isKept (post : Int32 → Prop) (t_points : Int32) (a1 : Int32) (a2 : Int32) : Prop := ∃ n, L_Plans_isKept_2 post t_points a1 a2 n (0 : Int32)
set_option maxHeartbeats 4000000 in
set_option maxRecDepth 100000 in
theorem qL_Plans_isKept_2 {p : Program} {l : Launch} {e : Env} {s : State} {m : MethodId} {args : Array Value} {below : List Frame} {meth : Method} {c : Code} {dC : Nat → ClassId} {dI : Nat → Nat → Nat} {cI cZ : ClassId} (C : CX p s m args meth c R_Plans b_Plans_isKept 4 (some .boolean) (dC, dI) cI cZ) {h_t h_t_units : Nat} (post : Int32 → Prop) (t_points : Int32) (t_colours : Int32) (t_count : Int32) (t_units : Nat → Int32) (v1 : Int32) (v2 : Int32) (hP : va_P (dC, dI) classes [(h_t, .inr (4, [.ref h_t_units, .int t_points, .int t_colours, .int t_count])), (h_t_units, .inl (cI, 8, .inl t_units))] s.heap) : ∀ (n : Nat) (v3 : Int32) , L_Plans_isKept_2 post t_points v1 v2 n v3 → ∀ (ls : Array Slot), lv_has ls 4 [(0, .ref h_t), (1, .int v1), (2, .int v2), (3, .int v3)] → W p l e rm_Plans_isKept s m args below meth c s.heap [] 0 0 (MQ below (vp_Si post) args s 0 0 (fun _ => False)) (F0 m 2 ls []) := by
  obtain ⟨hx, hb, hr, hml, hown, hts, hlocks, hE⟩ := id C
  intro n
  induction n with
  | zero =>
    intro v3 hw
    exact (show False from hw).elim
  | succ n ih =>
    intro v3 hw ls hl
    have hw : L_Plans_isKept_2b post t_points v1 v2 (L_Plans_isKept_2 post t_points v1 v2 n) v3 := hw
    unfold L_Plans_isKept_2b at hw
    refine lv_iload_n hx hb d_Plans_isKept_2 rfl (lv_at hl 3 rfl) ?_
    refine lv_aload_n hx hb d_Plans_isKept_3 rfl (lv_at hl 0 rfl) ?_
    refine va_get (D := (dC, dI)) (ci := 4) (v := .int t_points) (C := R_Plans) (T := F_Plans) (N := 4) hx hb hts i_Plans hown hE.1 hP 0 rfl rfl 1 (by decide) (hts _ kf_Plans_15) (fun _ h9 => h9) rfl d_Plans_isKept_4 ?_
    refine lv_icmp_ge (tgt := 35) hx hb d_Plans_isKept_7 (by decide) (fun c7 => ?_) (fun c7 => ?_)
    · have hw := hw.1 c7
      refine lv_iconst (v := (1 : Int32)) hx hb d_Plans_isKept_35 (by decide) ?_
      exact W.zret (v := (1 : Int32)) hx hb hr rfl (fun t ht hW => ⟨(1 : Int32), rfl, hw, by rw [ht]⟩) (fun _ h => by cases h) d_Plans_isKept_36
    · have hw := hw.2 c7
      refine lv_iload_n hx hb d_Plans_isKept_10 rfl (lv_at hl 1 rfl) ?_
      refine lv_iload_n hx hb d_Plans_isKept_11 rfl (lv_at hl 3 rfl) ?_
      have hPc := hP.sub (ws' := []) [] rfl
      refine vp_callSi (va_Run.run (va_runS (As := [.int v1, .int v3]) (rest := []) ⟨hx, hb, hml, hown, hts⟩ (met_Plans_colourAt l dC dI cI cZ  v1 v3 _ hw) ⟨cB 2 hts kc_Plans_colourAt ki_Plans kl_Plans_29 hd_Plans_colourAt ⟨Nat.le_of_ble_eq_true rfl, Nat.le_of_ble_eq_true rfl⟩, hts _ ks_Plans_colourAt⟩ (preS_ro hE hPc) rfl rfl hl.1 rfl (lv_room (Nat.le_of_ble_eq_true rfl)) d_Plans_isKept_12 ⟨Nat.le_of_ble_eq_true rfl, Nat.le_of_ble_eq_true rfl⟩)) (fun r12 hw => ?_)
      refine lv_iload_n hx hb d_Plans_isKept_15 rfl (lv_at hl 1 rfl) ?_
      refine lv_iload_n hx hb d_Plans_isKept_16 rfl (lv_at hl 2 rfl) ?_
      refine lv_iload_n hx hb d_Plans_isKept_17 rfl (lv_at hl 3 rfl) ?_
      have hPc := hP.sub (ws' := []) [] rfl
      refine vp_callSi (va_Run.run (va_runS (As := [.int v2, .int v3]) (rest := [.int v1, .int r12]) ⟨hx, hb, hml, hown, hts⟩ (met_Rows_target l dC dI cI cZ  v2 v3 _ hw) ⟨cB 2 hts kc_Rows_target ki_Rows kl_Plans_32 hd_Rows_target ⟨Nat.le_of_ble_eq_true rfl, Nat.le_of_ble_eq_true rfl⟩, hts _ ks_Rows_target⟩ (preS_ro hE hPc) rfl rfl hl.1 rfl (lv_room (Nat.le_of_ble_eq_true rfl)) d_Plans_isKept_18 ⟨Nat.le_of_ble_eq_true rfl, Nat.le_of_ble_eq_true rfl⟩)) (fun r18 hw => ?_)
      have hPc := hP.sub (ws' := []) [] rfl
      refine vp_callSi (va_Run.run (va_runS (As := [.int v1, .int r18]) (rest := [.int r12]) ⟨hx, hb, hml, hown, hts⟩ (met_Plans_colourAt l dC dI cI cZ  v1 r18 _ hw) ⟨cB 2 hts kc_Plans_colourAt ki_Plans kl_Plans_29 hd_Plans_colourAt ⟨Nat.le_of_ble_eq_true rfl, Nat.le_of_ble_eq_true rfl⟩, hts _ ks_Plans_colourAt⟩ (preS_ro hE hPc) rfl rfl hl.1 rfl (lv_room (Nat.le_of_ble_eq_true rfl)) d_Plans_isKept_21 ⟨Nat.le_of_ble_eq_true rfl, Nat.le_of_ble_eq_true rfl⟩)) (fun r21 hw => ?_)
      refine lv_icmp_eq (tgt := 29) hx hb d_Plans_isKept_24 (by decide) (fun c24 => ?_) (fun c24 => ?_)
      · have hw := hw.1 c24
        obtain ⟨x3_29, ex3_29⟩ : ∃ y : Int32, y = v3 + 1 := ⟨_, rfl⟩
        have hw := hw x3_29 ex3_29
        refine lv_iinc (v := x3_29) (lv' := [(3, .int x3_29), (0, .ref h_t), (1, .int v1), (2, .int v2)]) hx hb d_Plans_isKept_29 hl (k := 3) rfl (by rw [ex3_29]; rfl) (by decide) rfl (fun ls hl => ?_)
        refine lv_goto (tgt := 2) hx hb d_Plans_isKept_32 (by decide) ?_
        exact ih x3_29 hw ls (lv_sub hl [1, 2, 3, 0] rfl)
      · have hw := hw.2 c24
        refine lv_iconst (v := (0 : Int32)) hx hb d_Plans_isKept_27 (by decide) ?_
        exact W.zret (v := (0 : Int32)) hx hb hr rfl (fun t ht hW => ⟨(0 : Int32), rfl, hw, by rw [ht]⟩) (fun _ h => by cases h) d_Plans_isKept_28
set_option maxHeartbeats 4000000 in
set_option maxRecDepth 100000 in
theorem met_Plans_isKept (l : Launch) (dC : Nat → ClassId) (dI : Nat → Nat → Nat) (cI cZ : ClassId) (h_t h_t_units : Nat) (t_points : Int32) (t_colours : Int32) (t_count : Int32) (t_units : Nat → Int32) (a1 : Int32) (a2 : Int32) (post : Int32 → Prop) (hw : wp_Plans_isKept post t_points a1 a2) : Met l y_Plans_isKept (Cond.code y_Plans_isKept b_Plans_isKept 4 (some .boolean) :: gw) rm_Plans_isKept (va_Pc [.ref h_t, .int a1, .int a2] (fun U => EV (dC, dI) cI cZ U ∧ va_P (dC, dI) classes [(h_t, .inr (4, [.ref h_t_units, .int t_points, .int t_colours, .int t_count])), (h_t_units, .inl (cI, 8, .inl t_units))] U.heap)) (vp_Si post) 0 0 (fun _ => False) := by
  refine Met.ofW (cc := b_Plans_isKept) (maxL := 4) (ret := (some .boolean)) (by decide) rfl ?_
  intro p e s m args below meth c s₁ B hml hv
  obtain ⟨rfl, hE, hP⟩ := hv
  have C := CX.of (own := R_Plans) (D := (dC, dI)) (cI := cI) (cZ := cZ) B hml rfl hE
  obtain ⟨hx, hb, hr, -, hown, hts, hlocks, -⟩ := id C
  have hl := lv_entry ([.ref h_t, .int a1, .int a2]) (n := 4) (Nat.le_of_ble_eq_true rfl)
  rw [lg_entry_eq]
  generalize (lg_sl ([.ref h_t, .int a1, .int a2]) ++ List.replicate (4 - (lg_sl ([.ref h_t, .int a1, .int a2])).length) Slot.unset).toArray = ls at hl ⊢
  have hl : lv_has ls 4 [(0, .ref h_t), (1, .int a1), (2, .int a2)] := hl
  unfold wp_Plans_isKept at hw
  refine lv_iconst (v := (0 : Int32)) hx hb d_Plans_isKept_0 (by decide) ?_
  refine lv_istore_n (lv' := [(3, .int (0 : Int32)), (0, .ref h_t), (1, .int a1), (2, .int a2)]) hx hb d_Plans_isKept_1 rfl hl (by decide) rfl (fun ls hl => ?_)
  obtain ⟨n2, hw⟩ := hw
  exact qL_Plans_isKept_2 C post  t_points t_colours t_count t_units a1 a2 hP  n2 (0 : Int32) hw ls (lv_sub hl [1, 2, 3, 0] rfl)

-- SwapOrbits$Plans.tally(I)I
abbrev rm_Plans_tally : Room := { frames := 1, cells := 0, slots := 0, locals := 21 }
def L_Plans_tally_4b (post : Int32 → Prop) (t_points : Int32) (v1 : Int32) (K4 : Int32 → Int32 → Prop) (v2 : Int32) (v3 : Int32) : Prop := (t_points ≤ v3 → post v2) ∧ (¬ t_points ≤ v3 → wp_Plans_colourAt (fun r17 => ∀ x2_23 : Int32, x2_23 = v2 + ((1 : Int32) <<< (((4 : Int32) * r17) &&& 31)) → (∀ x3_24 : Int32, x3_24 = v3 + 1 → (K4 x2_23 x3_24))) v1 v3)
def L_Plans_tally_4 (post : Int32 → Prop) (t_points : Int32) (v1 : Int32) : Nat → Int32 → Int32 → Prop
  | 0, _, _ => False
  | n + 1, v2, v3 => L_Plans_tally_4b post t_points v1 (L_Plans_tally_4 post t_points v1 n) v2 v3
def wp_Plans_tally (post : Int32 → Prop) (t_points : Int32) (a1 : Int32) : Prop := ∃ n, L_Plans_tally_4 post t_points a1 n (0 : Int32) (0 : Int32)
set_option maxHeartbeats 4000000 in
set_option maxRecDepth 100000 in
theorem qL_Plans_tally_4 {p : Program} {l : Launch} {e : Env} {s : State} {m : MethodId} {args : Array Value} {below : List Frame} {meth : Method} {c : Code} {dC : Nat → ClassId} {dI : Nat → Nat → Nat} {cI cZ : ClassId} (C : CX p s m args meth c R_Plans b_Plans_tally 4 (some .int) (dC, dI) cI cZ) {h_t h_t_units : Nat} (post : Int32 → Prop) (t_points : Int32) (t_colours : Int32) (t_count : Int32) (t_units : Nat → Int32) (v1 : Int32) (hP : va_P (dC, dI) classes [(h_t, .inr (4, [.ref h_t_units, .int t_points, .int t_colours, .int t_count])), (h_t_units, .inl (cI, 8, .inl t_units))] s.heap) : ∀ (n : Nat) (v2 : Int32) (v3 : Int32) , L_Plans_tally_4 post t_points v1 n v2 v3 → ∀ (ls : Array Slot), lv_has ls 4 [(0, .ref h_t), (1, .int v1), (2, .int v2), (3, .int v3)] → W p l e rm_Plans_tally s m args below meth c s.heap [] 0 0 (MQ below (vp_Si post) args s 0 0 (fun _ => False)) (F0 m 4 ls []) := by
  obtain ⟨hx, hb, hr, hml, hown, hts, hlocks, hE⟩ := id C
  intro n
  induction n with
  | zero =>
    intro v2 v3 hw
    exact (show False from hw).elim
  | succ n ih =>
    intro v2 v3 hw ls hl
    have hw : L_Plans_tally_4b post t_points v1 (L_Plans_tally_4 post t_points v1 n) v2 v3 := hw
    unfold L_Plans_tally_4b at hw
    refine lv_iload_n hx hb d_Plans_tally_4 rfl (lv_at hl 3 rfl) ?_
    refine lv_aload_n hx hb d_Plans_tally_5 rfl (lv_at hl 0 rfl) ?_
    refine va_get (D := (dC, dI)) (ci := 4) (v := .int t_points) (C := R_Plans) (T := F_Plans) (N := 4) hx hb hts i_Plans hown hE.1 hP 0 rfl rfl 1 (by decide) (hts _ kf_Plans_15) (fun _ h9 => h9) rfl d_Plans_tally_6 ?_
    refine lv_icmp_ge (tgt := 30) hx hb d_Plans_tally_9 (by decide) (fun c9 => ?_) (fun c9 => ?_)
    · have hw := hw.1 c9
      refine lv_iload_n hx hb d_Plans_tally_30 rfl (lv_at hl 2 rfl) ?_
      exact W.iret (v := v2) hx hb hr (fun t ht hW => ⟨v2, rfl, hw, by rw [ht]⟩) (fun _ h => by cases h) d_Plans_tally_31
    · have hw := hw.2 c9
      refine lv_iload_n hx hb d_Plans_tally_12 rfl (lv_at hl 2 rfl) ?_
      refine lv_iconst (v := (1 : Int32)) hx hb d_Plans_tally_13 (by decide) ?_
      refine lv_iconst (v := (4 : Int32)) hx hb d_Plans_tally_14 (by decide) ?_
      refine lv_iload_n hx hb d_Plans_tally_15 rfl (lv_at hl 1 rfl) ?_
      refine lv_iload_n hx hb d_Plans_tally_16 rfl (lv_at hl 3 rfl) ?_
      have hPc := hP.sub (ws' := []) [] rfl
      refine vp_callSi (va_Run.run (va_runS (As := [.int v1, .int v3]) (rest := [.int (4 : Int32), .int (1 : Int32), .int v2]) ⟨hx, hb, hml, hown, hts⟩ (met_Plans_colourAt l dC dI cI cZ  v1 v3 _ hw) ⟨cB 2 hts kc_Plans_colourAt ki_Plans kl_Plans_29 hd_Plans_colourAt ⟨Nat.le_of_ble_eq_true rfl, Nat.le_of_ble_eq_true rfl⟩, hts _ ks_Plans_colourAt⟩ (preS_ro hE hPc) rfl rfl hl.1 rfl (lv_room (Nat.le_of_ble_eq_true rfl)) d_Plans_tally_17 ⟨Nat.le_of_ble_eq_true rfl, Nat.le_of_ble_eq_true rfl⟩)) (fun r17 hw => ?_)
      refine lv_imul hx hb d_Plans_tally_20 ?_
      refine lv_ishl hx hb d_Plans_tally_21 ?_
      refine lv_iadd hx hb d_Plans_tally_22 ?_
      refine lv_topi (fun x2_23 ex2_23 => ?_)
      have hw := hw x2_23 ex2_23
      refine lv_istore_n (lv' := [(2, .int x2_23), (0, .ref h_t), (1, .int v1), (3, .int v3)]) hx hb d_Plans_tally_23 rfl hl (by decide) rfl (fun ls hl => ?_)
      obtain ⟨x3_24, ex3_24⟩ : ∃ y : Int32, y = v3 + 1 := ⟨_, rfl⟩
      have hw := hw x3_24 ex3_24
      refine lv_iinc (v := x3_24) (lv' := [(3, .int x3_24), (2, .int x2_23), (0, .ref h_t), (1, .int v1)]) hx hb d_Plans_tally_24 hl (k := 3) rfl (by rw [ex3_24]; rfl) (by decide) rfl (fun ls hl => ?_)
      refine lv_goto (tgt := 4) hx hb d_Plans_tally_27 (by decide) ?_
      exact ih x2_23 x3_24 hw ls (lv_sub hl [2, 3, 1, 0] rfl)
set_option maxHeartbeats 4000000 in
set_option maxRecDepth 100000 in
theorem met_Plans_tally (l : Launch) (dC : Nat → ClassId) (dI : Nat → Nat → Nat) (cI cZ : ClassId) (h_t h_t_units : Nat) (t_points : Int32) (t_colours : Int32) (t_count : Int32) (t_units : Nat → Int32) (a1 : Int32) (post : Int32 → Prop) (hw : wp_Plans_tally post t_points a1) : Met l y_Plans_tally (Cond.code y_Plans_tally b_Plans_tally 4 (some .int) :: gw) rm_Plans_tally (va_Pc [.ref h_t, .int a1] (fun U => EV (dC, dI) cI cZ U ∧ va_P (dC, dI) classes [(h_t, .inr (4, [.ref h_t_units, .int t_points, .int t_colours, .int t_count])), (h_t_units, .inl (cI, 8, .inl t_units))] U.heap)) (vp_Si post) 0 0 (fun _ => False) := by
  refine Met.ofW (cc := b_Plans_tally) (maxL := 4) (ret := (some .int)) (by decide) rfl ?_
  intro p e s m args below meth c s₁ B hml hv
  obtain ⟨rfl, hE, hP⟩ := hv
  have C := CX.of (own := R_Plans) (D := (dC, dI)) (cI := cI) (cZ := cZ) B hml rfl hE
  obtain ⟨hx, hb, hr, -, hown, hts, hlocks, -⟩ := id C
  have hl := lv_entry ([.ref h_t, .int a1]) (n := 4) (Nat.le_of_ble_eq_true rfl)
  rw [lg_entry_eq]
  generalize (lg_sl ([.ref h_t, .int a1]) ++ List.replicate (4 - (lg_sl ([.ref h_t, .int a1])).length) Slot.unset).toArray = ls at hl ⊢
  have hl : lv_has ls 4 [(0, .ref h_t), (1, .int a1)] := hl
  unfold wp_Plans_tally at hw
  refine lv_iconst (v := (0 : Int32)) hx hb d_Plans_tally_0 (by decide) ?_
  refine lv_istore_n (lv' := [(2, .int (0 : Int32)), (0, .ref h_t), (1, .int a1)]) hx hb d_Plans_tally_1 rfl hl (by decide) rfl (fun ls hl => ?_)
  refine lv_iconst (v := (0 : Int32)) hx hb d_Plans_tally_2 (by decide) ?_
  refine lv_istore_n (lv' := [(3, .int (0 : Int32)), (2, .int (0 : Int32)), (0, .ref h_t), (1, .int a1)]) hx hb d_Plans_tally_3 rfl hl (by decide) rfl (fun ls hl => ?_)
  obtain ⟨n4, hw⟩ := hw
  exact qL_Plans_tally_4 C post  t_points t_colours t_count t_units a1 hP  n4 (0 : Int32) (0 : Int32) hw ls (lv_sub hl [2, 3, 1, 0] rfl)

-- SwapOrbits$Plans.tallyOf(IIII)I
abbrev rm_Plans_tallyOf : Room := { frames := 0, cells := 0, slots := 0, locals := 0 }
def wp_Plans_tallyOf (post : Int32 → Prop) (a1 : Int32) (a2 : Int32) (a3 : Int32) (a4 : Int32) : Prop := post (((a1 ||| (a2 <<< ((4 : Int32) &&& 31))) ||| (a3 <<< ((8 : Int32) &&& 31))) ||| (a4 <<< ((12 : Int32) &&& 31)))
set_option maxHeartbeats 4000000 in
set_option maxRecDepth 100000 in
theorem met_Plans_tallyOf (l : Launch) (dC : Nat → ClassId) (dI : Nat → Nat → Nat) (cI cZ : ClassId) (a1 : Int32) (a2 : Int32) (a3 : Int32) (a4 : Int32) (post : Int32 → Prop) (hw : wp_Plans_tallyOf post a1 a2 a3 a4) : Met l y_Plans_tallyOf (Cond.code y_Plans_tallyOf b_Plans_tallyOf 4 (some .int) :: gw) rm_Plans_tallyOf (va_Pc [.int a1, .int a2, .int a3, .int a4] (fun U => EV (dC, dI) cI cZ U ∧ va_P (dC, dI) classes [] U.heap)) (vp_Si post) 0 0 (fun _ => False) := by
  refine Met.ofW (cc := b_Plans_tallyOf) (maxL := 4) (ret := (some .int)) (by decide) rfl ?_
  intro p e s m args below meth c s₁ B hml hv
  obtain ⟨rfl, hE, hP⟩ := hv
  have C := CX.of (own := R_Plans) (D := (dC, dI)) (cI := cI) (cZ := cZ) B hml rfl hE
  obtain ⟨hx, hb, hr, -, hown, hts, hlocks, -⟩ := id C
  have hl := lv_entry ([.int a1, .int a2, .int a3, .int a4]) (n := 4) (Nat.le_of_ble_eq_true rfl)
  rw [lg_entry_eq]
  generalize (lg_sl ([.int a1, .int a2, .int a3, .int a4]) ++ List.replicate (4 - (lg_sl ([.int a1, .int a2, .int a3, .int a4])).length) Slot.unset).toArray = ls at hl ⊢
  have hl : lv_has ls 4 [(0, .int a1), (1, .int a2), (2, .int a3), (3, .int a4)] := hl
  unfold wp_Plans_tallyOf at hw
  refine lv_iload_n hx hb d_Plans_tallyOf_0 rfl (lv_at hl 0 rfl) ?_
  refine lv_iload_n hx hb d_Plans_tallyOf_1 rfl (lv_at hl 1 rfl) ?_
  refine lv_iconst (v := (4 : Int32)) hx hb d_Plans_tallyOf_2 (by decide) ?_
  refine lv_ishl hx hb d_Plans_tallyOf_3 ?_
  refine lv_ior hx hb d_Plans_tallyOf_4 ?_
  refine lv_iload_n hx hb d_Plans_tallyOf_5 rfl (lv_at hl 2 rfl) ?_
  refine lv_bipush (v := (8 : Int32)) hx hb d_Plans_tallyOf_6 (by decide) ?_
  refine lv_ishl hx hb d_Plans_tallyOf_8 ?_
  refine lv_ior hx hb d_Plans_tallyOf_9 ?_
  refine lv_iload_n hx hb d_Plans_tallyOf_10 rfl (lv_at hl 3 rfl) ?_
  refine lv_bipush (v := (12 : Int32)) hx hb d_Plans_tallyOf_11 (by decide) ?_
  refine lv_ishl hx hb d_Plans_tallyOf_13 ?_
  refine lv_ior hx hb d_Plans_tallyOf_14 ?_
  exact W.iret (v := (((a1 ||| (a2 <<< ((4 : Int32) &&& 31))) ||| (a3 <<< ((8 : Int32) &&& 31))) ||| (a4 <<< ((12 : Int32) &&& 31)))) hx hb hr (fun t ht hW => ⟨(((a1 ||| (a2 <<< ((4 : Int32) &&& 31))) ||| (a3 <<< ((8 : Int32) &&& 31))) ||| (a4 <<< ((12 : Int32) &&& 31))), rfl, hw, by rw [ht]⟩) (fun _ h => by cases h) d_Plans_tallyOf_15

-- SwapOrbits$Plans.product(I[I)J
abbrev rm_Plans_product : Room := { frames := 1, cells := 0, slots := 0, locals := 21 }
def L_Plans_product_5b (post : Int64 → Prop) (t_points : Int32) (a2_len : Nat) (a2 : Nat → Int32) (v1 : Int32) (K5 : Int64 → Int32 → Prop) (v3 : Int64) (v5 : Int32) : Prop := (t_points ≤ v5 → post v3) ∧ (¬ t_points ≤ v5 → wp_Plans_colourAt (fun r17 => ((nI a2_len) ≤ r17 → ∀ x5_37 : Int32, x5_37 = v5 + 1 → (K5 v3 x5_37)) ∧ (¬ (nI a2_len) ≤ r17 → vp_in r17 a2_len ∧ (∀ x3_36 : Int64, x3_36 = v3 * ((a2 r17.toNatClampNeg).toInt64) → (∀ x5_37 : Int32, x5_37 = v5 + 1 → (K5 x3_36 x5_37))))) v1 v5)
def L_Plans_product_5 (post : Int64 → Prop) (t_points : Int32) (a2_len : Nat) (a2 : Nat → Int32) (v1 : Int32) : Nat → Int64 → Int32 → Prop
  | 0, _, _ => False
  | n + 1, v3, v5 => L_Plans_product_5b post t_points a2_len a2 v1 (L_Plans_product_5 post t_points a2_len a2 v1 n) v3 v5
def wp_Plans_product (post : Int64 → Prop) (t_points : Int32) (a2_len : Nat) (a2 : Nat → Int32) (a1 : Int32) : Prop := ∃ n, L_Plans_product_5 post t_points a2_len a2 a1 n (1 : Int64) (0 : Int32)
set_option maxHeartbeats 4000000 in
set_option maxRecDepth 100000 in
theorem qL_Plans_product_5 {p : Program} {l : Launch} {e : Env} {s : State} {m : MethodId} {args : Array Value} {below : List Frame} {meth : Method} {c : Code} {dC : Nat → ClassId} {dI : Nat → Nat → Nat} {cI cZ : ClassId} (C : CX p s m args meth c R_Plans b_Plans_product 7 (some .long) (dC, dI) cI cZ) {h_t h_t_units h_a2 : Nat} (post : Int64 → Prop) (t_points : Int32) (t_colours : Int32) (t_count : Int32) (t_units : Nat → Int32) (a2_len : Nat) (a2 : Nat → Int32) (v1 : Int32) (hP : va_P (dC, dI) classes [(h_t, .inr (4, [.ref h_t_units, .int t_points, .int t_colours, .int t_count])), (h_t_units, .inl (cI, 8, .inl t_units)), (h_a2, .inl (cI, a2_len, .inl a2))] s.heap) : ∀ (n : Nat) (v3 : Int64) (v5 : Int32) , L_Plans_product_5 post t_points a2_len a2 v1 n v3 v5 → ∀ (ls : Array Slot), lv_has ls 7 [(0, .ref h_t), (1, .int v1), (2, .ref h_a2), (3, .long v3), (5, .int v5)] → W p l e rm_Plans_product s m args below meth c s.heap [] 0 0 (MQ below (vp_Sl post) args s 0 0 (fun _ => False)) (F0 m 5 ls []) := by
  obtain ⟨hx, hb, hr, hml, hown, hts, hlocks, hE⟩ := id C
  intro n
  induction n with
  | zero =>
    intro v3 v5 hw
    exact (show False from hw).elim
  | succ n ih =>
    intro v3 v5 hw ls hl
    have hw : L_Plans_product_5b post t_points a2_len a2 v1 (L_Plans_product_5 post t_points a2_len a2 v1 n) v3 v5 := hw
    unfold L_Plans_product_5b at hw
    refine lv_iload hx hb d_Plans_product_5 (lv_at hl 4 rfl) ?_
    refine lv_aload_n hx hb d_Plans_product_7 rfl (lv_at hl 0 rfl) ?_
    refine va_get (D := (dC, dI)) (ci := 4) (v := .int t_points) (C := R_Plans) (T := F_Plans) (N := 4) hx hb hts i_Plans hown hE.1 hP 0 rfl rfl 1 (by decide) (hts _ kf_Plans_15) (fun _ h9 => h9) rfl d_Plans_product_8 ?_
    refine lv_icmp_ge (tgt := 43) hx hb d_Plans_product_11 (by decide) (fun c11 => ?_) (fun c11 => ?_)
    · have hw := hw.1 c11
      refine lv_lload_n hx hb d_Plans_product_43 rfl (lv_at hl 3 rfl) ?_
      exact W.lret (v := v3) hx hb hr (fun t ht hW => ⟨v3, rfl, hw, by rw [ht]⟩) (fun _ h => by cases h) d_Plans_product_44
    · have hw := hw.2 c11
      refine lv_iload_n hx hb d_Plans_product_14 rfl (lv_at hl 1 rfl) ?_
      refine lv_iload hx hb d_Plans_product_15 (lv_at hl 4 rfl) ?_
      have hPc := hP.sub (ws' := []) [] rfl
      refine vp_callSi (va_Run.run (va_runS (As := [.int v1, .int v5]) (rest := []) ⟨hx, hb, hml, hown, hts⟩ (met_Plans_colourAt l dC dI cI cZ  v1 v5 _ hw) ⟨cB 2 hts kc_Plans_colourAt ki_Plans kl_Plans_29 hd_Plans_colourAt ⟨Nat.le_of_ble_eq_true rfl, Nat.le_of_ble_eq_true rfl⟩, hts _ ks_Plans_colourAt⟩ (preS_ro hE hPc) rfl rfl hl.1 rfl (lv_room (Nat.le_of_ble_eq_true rfl)) d_Plans_product_17 ⟨Nat.le_of_ble_eq_true rfl, Nat.le_of_ble_eq_true rfl⟩)) (fun r17 hw => ?_)
      refine lv_istore (lv' := [(6, .int r17), (0, .ref h_t), (1, .int v1), (2, .ref h_a2), (3, .long v3), (5, .int v5)]) hx hb d_Plans_product_20 hl (by decide) rfl (fun ls hl => ?_)
      refine lv_iload hx hb d_Plans_product_22 (lv_at hl 0 rfl) ?_
      refine lv_aload_n hx hb d_Plans_product_24 rfl (lv_at hl 3 rfl) ?_
      refine va_alen (v := nI a2_len) hx hb hE.1 hP 2 0 rfl rfl rfl d_Plans_product_25 ?_
      refine lv_icmp_ge (tgt := 37) hx hb d_Plans_product_26 (by decide) (fun c26 => ?_) (fun c26 => ?_)
      · have hw := hw.1 c26
        obtain ⟨x5_37, ex5_37⟩ : ∃ y : Int32, y = v5 + 1 := ⟨_, rfl⟩
        have hw := hw x5_37 ex5_37
        refine lv_iinc (v := x5_37) (lv' := [(5, .int x5_37), (6, .int r17), (0, .ref h_t), (1, .int v1), (2, .ref h_a2), (3, .long v3)]) hx hb d_Plans_product_37 hl (k := 5) rfl (by rw [ex5_37]; rfl) (by decide) rfl (fun ls hl => ?_)
        refine lv_goto (tgt := 5) hx hb d_Plans_product_40 (by decide) ?_
        exact ih v3 x5_37 hw ls (lv_sub hl [2, 3, 4, 5, 0] rfl)
      · have hw := hw.2 c26
        refine lv_lload_n hx hb d_Plans_product_29 rfl (lv_at hl 4 rfl) ?_
        refine lv_aload_n hx hb d_Plans_product_30 rfl (lv_at hl 3 rfl) ?_
        refine lv_iload hx hb d_Plans_product_31 (lv_at hl 0 rfl) ?_
        have hz := hw.1
        have hw := hw.2
        refine va_iald hx hb hE.1 hP 2 0 rfl rfl hz d_Plans_product_33 ?_
        refine lv_i2l (v := (a2 r17.toNatClampNeg).toInt64) hx hb d_Plans_product_34 rfl ?_
        refine lv_lmul hx hb d_Plans_product_35 ?_
        refine lv_topl (fun x3_36 ex3_36 => ?_)
        have hw := hw x3_36 ex3_36
        refine lv_lstore_n (lv' := [(3, .long x3_36), (6, .int r17), (0, .ref h_t), (1, .int v1), (2, .ref h_a2), (5, .int v5)]) hx hb d_Plans_product_36 rfl hl (by decide) rfl (fun ls hl => ?_)
        obtain ⟨x5_37, ex5_37⟩ : ∃ y : Int32, y = v5 + 1 := ⟨_, rfl⟩
        have hw := hw x5_37 ex5_37
        refine lv_iinc (v := x5_37) (lv' := [(5, .int x5_37), (3, .long x3_36), (6, .int r17), (0, .ref h_t), (1, .int v1), (2, .ref h_a2)]) hx hb d_Plans_product_37 hl (k := 5) rfl (by rw [ex5_37]; rfl) (by decide) rfl (fun ls hl => ?_)
        refine lv_goto (tgt := 5) hx hb d_Plans_product_40 (by decide) ?_
        exact ih x3_36 x5_37 hw ls (lv_sub hl [3, 4, 5, 1, 0] rfl)
set_option maxHeartbeats 4000000 in
set_option maxRecDepth 100000 in
theorem met_Plans_product (l : Launch) (dC : Nat → ClassId) (dI : Nat → Nat → Nat) (cI cZ : ClassId) (h_t h_t_units h_a2 : Nat) (t_points : Int32) (t_colours : Int32) (t_count : Int32) (t_units : Nat → Int32) (a2_len : Nat) (a2 : Nat → Int32) (a1 : Int32) (post : Int64 → Prop) (hw : wp_Plans_product post t_points a2_len a2 a1) : Met l y_Plans_product (Cond.code y_Plans_product b_Plans_product 7 (some .long) :: gw) rm_Plans_product (va_Pc [.ref h_t, .int a1, .ref h_a2] (fun U => EV (dC, dI) cI cZ U ∧ va_P (dC, dI) classes [(h_t, .inr (4, [.ref h_t_units, .int t_points, .int t_colours, .int t_count])), (h_t_units, .inl (cI, 8, .inl t_units)), (h_a2, .inl (cI, a2_len, .inl a2))] U.heap)) (vp_Sl post) 0 0 (fun _ => False) := by
  refine Met.ofW (cc := b_Plans_product) (maxL := 7) (ret := (some .long)) (by decide) rfl ?_
  intro p e s m args below meth c s₁ B hml hv
  obtain ⟨rfl, hE, hP⟩ := hv
  have C := CX.of (own := R_Plans) (D := (dC, dI)) (cI := cI) (cZ := cZ) B hml rfl hE
  obtain ⟨hx, hb, hr, -, hown, hts, hlocks, -⟩ := id C
  have hl := lv_entry ([.ref h_t, .int a1, .ref h_a2]) (n := 7) (Nat.le_of_ble_eq_true rfl)
  rw [lg_entry_eq]
  generalize (lg_sl ([.ref h_t, .int a1, .ref h_a2]) ++ List.replicate (7 - (lg_sl ([.ref h_t, .int a1, .ref h_a2])).length) Slot.unset).toArray = ls at hl ⊢
  have hl : lv_has ls 7 [(0, .ref h_t), (1, .int a1), (2, .ref h_a2)] := hl
  unfold wp_Plans_product at hw
  refine lv_lconst (v := (1 : Int64)) hx hb d_Plans_product_0 (by decide) ?_
  refine lv_lstore_n (lv' := [(3, .long (1 : Int64)), (0, .ref h_t), (1, .int a1), (2, .ref h_a2)]) hx hb d_Plans_product_1 rfl hl (by decide) rfl (fun ls hl => ?_)
  refine lv_iconst (v := (0 : Int32)) hx hb d_Plans_product_2 (by decide) ?_
  refine lv_istore (lv' := [(5, .int (0 : Int32)), (3, .long (1 : Int64)), (0, .ref h_t), (1, .int a1), (2, .ref h_a2)]) hx hb d_Plans_product_3 hl (by decide) rfl (fun ls hl => ?_)
  obtain ⟨n5, hw⟩ := hw
  exact qL_Plans_product_5 C post  t_points t_colours t_count t_units a2_len a2 a1 hP  n5 (1 : Int64) (0 : Int32) hw ls (lv_sub hl [2, 3, 4, 1, 0] rfl)

-- SwapOrbits$Plans.<init>()V
abbrev rm_Plans_init : Room := { frames := 1, cells := 1, slots := 8, locals := 20 }
abbrev QM_Plans_init (dC : Nat → ClassId) (dI : Nat → Nat → Nat) (cI cZ : ClassId) (h_t : Nat) (A : Nat → Prop) : Array Value → State → Outcome → State → Prop := va_Qv (fun _ : Unit => True) (fun _ t => ∃ (h_t_units : Nat), va_P (dC, dI) classes [(h_t, .inr (4, [.ref h_t_units, .int (0 : Int32), .int (0 : Int32), .int (0 : Int32)])), (h_t_units, .inl (cI, 8, .inl (fun _ => 0)))] t.heap ∧ va_D A [(h_t, .inr (4, [.ref h_t_units, .int (0 : Int32), .int (0 : Int32), .int (0 : Int32)])), (h_t_units, .inl (cI, 8, .inl (fun _ => 0)))]) A
set_option maxHeartbeats 4000000 in
set_option maxRecDepth 100000 in
theorem met_Plans_init (l : Launch) (dC : Nat → ClassId) (dI : Nat → Nat → Nat) (cI cZ : ClassId) (h_t : Nat) (sz : Nat) : Met l y_Plans_init (Cond.code y_Plans_init b_Plans_init 1 none :: gw) rm_Plans_init (va_Pc [.ref h_t] (fun U => U.heap.size = sz ∧ EV (dC, dI) cI cZ U ∧ va_P (dC, dI) classes [(h_t, .inr (4, [.null, .int (0 : Int32), .int (0 : Int32), .int (0 : Int32)]))] U.heap ∧ va_D (fun _ => True) [(h_t, .inr (4, [.null, .int (0 : Int32), .int (0 : Int32), .int (0 : Int32)]))])) (QM_Plans_init dC dI cI cZ h_t (va_A [(h_t, .inr (4, [.null, .int (0 : Int32), .int (0 : Int32), .int (0 : Int32)]))] sz)) 1 8 (va_A [(h_t, .inr (4, [.null, .int (0 : Int32), .int (0 : Int32), .int (0 : Int32)]))] sz) := by
  refine Met.ofW (cc := b_Plans_init) (maxL := 1) (ret := none) (by decide) rfl ?_
  intro p e s m args below meth c s₁ B hml hv
  obtain ⟨rfl, hsz, hE, hP, hD0⟩ := hv
  have C := CX.of (own := R_Plans) (D := (dC, dI)) (cI := cI) (cZ := cZ) B hml rfl hE
  obtain ⟨hx, hb, hr, -, hown, hts, hlocks, -⟩ := id C
  have hin : meth.name = "<init>" := (name_of_methodNamed B.named B.method).1
  subst hsz
  have hD := hD0.self (sz := s.heap.size)
  generalize hAe : va_A [(h_t, .inr (4, [.null, .int (0 : Int32), .int (0 : Int32), .int (0 : Int32)]))] s.heap.size = A at hD ⊢
  have hA : ∀ q : Nat, s.heap.size ≤ q → A q := fun q h => by rw [← hAe]; exact Or.inr h
  have hS : va_S A s.heap s.heap [] := va_S.rf
  have hP : va_P (dC, dI) classes [(h_t, .inr (4, [.null, .int (0 : Int32), .int (0 : Int32), .int (0 : Int32)]))] s.heap := hP
  have hl := lv_entry ([.ref h_t]) (n := 1) (Nat.le_of_ble_eq_true rfl)
  rw [lg_entry_eq]
  generalize (lg_sl ([.ref h_t]) ++ List.replicate (1 - (lg_sl ([.ref h_t])).length) Slot.unset).toArray = ls at hl ⊢
  have hl : lv_has ls 1 [(0, .ref h_t)] := hl
  refine keyL (P := fun H locs => va_P (dC, dI) classes [(h_t, .inr (4, [.null, .int (0 : Int32), .int (0 : Int32), .int (0 : Int32)]))] H ∧ va_D A [(h_t, .inr (4, [.null, .int (0 : Int32), .int (0 : Int32), .int (0 : Int32)]))] ∧ va_S A s.heap H locs) ⟨hP, hD, hS⟩ (fun H locs hPP => ?_)
  clear hP hD hS
  obtain ⟨hP, hD, hS⟩ := hPP
  refine lv_aload_n hx hb d_Plans_init_0 rfl (lv_at hl 0 rfl) ?_
  refine W.objInit hx hb hown (hts _ kl_Plans_3) (hts _ kn_oi) (hts _ kc_oi) rfl (by rw [hml]; exact hl.1) rfl d_Plans_init_1 (Nat.le_of_ble_eq_true rfl) (Nat.le_of_ble_eq_true rfl) ?_
  refine W.eq (g2 := F0 m 4 ls []) rfl ?_
  refine lv_aload_n hx hb d_Plans_init_4 rfl (lv_at hl 0 rfl) ?_
  refine lv_bipush (v := (8 : Int32)) hx hb d_Plans_init_5 (by decide) ?_
  refine va_newa (atype := .int) (ty := .int) (a0 := (8, .inl (fun _ => 0))) (N' := 8) hx hb (hts _ ka_int) rfl hE.1 hP hD hS hA (fun _ => rfl) (by decide) (by decide) (by decide) (by decide) (by decide) d_Plans_init_7 (fun h_t_units cA H hK2 hP hD hS => ?_)
  have hcA := sameI hK2
  subst hcA
  have hP : va_P (dC, dI) classes [(h_t, .inr (4, [.null, .int (0 : Int32), .int (0 : Int32), .int (0 : Int32)])), (h_t_units, .inl (cI, 8, .inl (fun _ => 0)))] H := hP
  have hD : va_D A [(h_t, .inr (4, [.null, .int (0 : Int32), .int (0 : Int32), .int (0 : Int32)])), (h_t_units, .inl (cI, 8, .inl (fun _ => 0)))] := hD
  refine W.widen (k := 1) (n := 8) (by decide) (by decide) ?_
  refine va_putF (D := (dC, dI)) (ci := 4) (v := .ref h_t_units) (ty := .array .int) (C := R_Plans) (T := F_Plans) (N := 4) hx hb hts i_Plans t_Plans t_Plans_ok n_Plans hown hE.1 hP hD hS 0 rfl rfl 0 (by decide) (hts _ kf_Plans_9) (fun _ h9 => h9) rfl hin rfl (by decide +kernel) rfl rfl (Nat.le_of_ble_eq_true rfl) d_Plans_init_9 (fun H locs hP hD hS => ?_)
  have hP : va_P (dC, dI) classes [(h_t, .inr (4, [.ref h_t_units, .int (0 : Int32), .int (0 : Int32), .int (0 : Int32)])), (h_t_units, .inl (cI, 8, .inl (fun _ => 0)))] H := hP
  have hD : va_D A [(h_t, .inr (4, [.ref h_t_units, .int (0 : Int32), .int (0 : Int32), .int (0 : Int32)])), (h_t_units, .inl (cI, 8, .inl (fun _ => 0)))] := hD
  have hP9 : va_P (dC, dI) classes [(h_t, .inr (4, [.ref h_t_units, .int (0 : Int32), .int (0 : Int32), .int (0 : Int32)])), (h_t_units, .inl (cI, 8, .inl (fun _ => 0)))] H := hP.sub [0, 1] rfl
  have hD9 : va_D A [(h_t, .inr (4, [.ref h_t_units, .int (0 : Int32), .int (0 : Int32), .int (0 : Int32)])), (h_t_units, .inl (cI, 8, .inl (fun _ => 0)))] := hD.sub [0, 1] (by decide) rfl
  exact W.vret hx hb hr (fun t ht hW => ⟨⟨(), rfl, trivial, h_t_units, by rw [ht]; exact hP9, hD9⟩, hS.F ht⟩) hS.2.2 d_Plans_init_12

