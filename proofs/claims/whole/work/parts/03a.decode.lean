theorem dX0_init_0 : decode cX0_init 0 = .ok (.aload_n 0, 1) := by decide +kernel
theorem dX0_init_1 : decode cX0_init 1 = .ok (.invokespecial 1, 3) := by decide +kernel
theorem dX0_init_4 : decode cX0_init 4 = .ok (.aload_n 0, 1) := by decide +kernel
theorem dX0_init_5 : decode cX0_init 5 = .ok (.iload_n 1, 1) := by decide +kernel
theorem dX0_init_6 : decode cX0_init 6 = .ok (.putfield 7, 3) := by decide +kernel
theorem dX0_init_9 : decode cX0_init 9 = .ok (.aload_n 0, 1) := by decide +kernel
theorem dX0_init_10 : decode cX0_init 10 = .ok (.aload_n 2, 1) := by decide +kernel
theorem dX0_init_11 : decode cX0_init 11 = .ok (.putfield 13, 3) := by decide +kernel
theorem dX0_init_14 : decode cX0_init 14 = .ok (.return_, 1) := by decide +kernel
theorem dX1_init_0 : decode cX1_init 0 = .ok (.aload_n 0, 1) := by decide +kernel
theorem dX1_init_1 : decode cX1_init 1 = .ok (.iconst 4, 1) := by decide +kernel
theorem dX1_init_2 : decode cX1_init 2 = .ok (.aload_n 1, 1) := by decide +kernel
theorem dX1_init_3 : decode cX1_init 3 = .ok (.iload_n 2, 1) := by decide +kernel
theorem dX1_init_4 : decode cX1_init 4 = .ok (.iload_n 3, 1) := by decide +kernel
theorem dX1_init_5 : decode cX1_init 5 = .ok (.iload 4, 2) := by decide +kernel
theorem dX1_init_7 : decode cX1_init 7 = .ok (.invokespecial 3, 3) := by decide +kernel
theorem dX1_init_10 : decode cX1_init 10 = .ok (.return_, 1) := by decide +kernel
theorem dX1_mustFetch_0 : decode cX1_mustFetch 0 = .ok (.iconst 0, 1) := by decide +kernel
theorem dX1_mustFetch_1 : decode cX1_mustFetch 1 = .ok (.ireturn, 1) := by decide +kernel
theorem dX1_entriesOnPage_0 : decode cX1_entriesOnPage 0 = .ok (.aload_n 0, 1) := by decide +kernel
theorem dX1_entriesOnPage_1 : decode cX1_entriesOnPage 1 = .ok (.getfield 9, 3) := by decide +kernel
theorem dX1_entriesOnPage_4 : decode cX1_entriesOnPage 4 = .ok (.getfield 15, 3) := by decide +kernel
theorem dX1_entriesOnPage_7 : decode cX1_entriesOnPage 7 = .ok (.ireturn, 1) := by decide +kernel
theorem dX1_space_0 : decode cX1_space 0 = .ok (.iconst 0, 1) := by decide +kernel
theorem dX1_space_1 : decode cX1_space 1 = .ok (.ireturn, 1) := by decide +kernel
theorem dX1_keeping_0 : decode cX1_keeping 0 = .ok (.iconst 4, 1) := by decide +kernel
theorem dX1_keeping_1 : decode cX1_keeping 1 = .ok (.ireturn, 1) := by decide +kernel
theorem dX2_init_0 : decode cX2_init 0 = .ok (.aload_n 0, 1) := by decide +kernel
theorem dX2_init_1 : decode cX2_init 1 = .ok (.iconst 1, 1) := by decide +kernel
theorem dX2_init_2 : decode cX2_init 2 = .ok (.aload_n 1, 1) := by decide +kernel
theorem dX2_init_3 : decode cX2_init 3 = .ok (.iload_n 2, 1) := by decide +kernel
theorem dX2_init_4 : decode cX2_init 4 = .ok (.iload_n 3, 1) := by decide +kernel
theorem dX2_init_5 : decode cX2_init 5 = .ok (.iload 4, 2) := by decide +kernel
theorem dX2_init_7 : decode cX2_init 7 = .ok (.invokespecial 3, 3) := by decide +kernel
theorem dX2_init_10 : decode cX2_init 10 = .ok (.aload_n 0, 1) := by decide +kernel
theorem dX2_init_11 : decode cX2_init 11 = .ok (.aload_n 0, 1) := by decide +kernel
theorem dX2_init_12 : decode cX2_init 12 = .ok (.getfield 9, 3) := by decide +kernel
theorem dX2_init_15 : decode cX2_init 15 = .ok (.iload 5, 2) := by decide +kernel
theorem dX2_init_17 : decode cX2_init 17 = .ok (.ior, 1) := by decide +kernel
theorem dX2_init_18 : decode cX2_init 18 = .ok (.putfield 15, 3) := by decide +kernel
theorem dX2_init_21 : decode cX2_init 21 = .ok (.return_, 1) := by decide +kernel
theorem dX2_mustFetch_0 : decode cX2_mustFetch 0 = .ok (.aload_n 1, 1) := by decide +kernel
theorem dX2_mustFetch_1 : decode cX2_mustFetch 1 = .ok (.invokevirtual 18, 3) := by decide +kernel
theorem dX2_mustFetch_4 : decode cX2_mustFetch 4 = .ok (.aload_n 0, 1) := by decide +kernel
theorem dX2_mustFetch_5 : decode cX2_mustFetch 5 = .ok (.getfield 15, 3) := by decide +kernel
theorem dX2_mustFetch_8 : decode cX2_mustFetch 8 = .ok (.iconst (-1), 1) := by decide +kernel
theorem dX2_mustFetch_9 : decode cX2_mustFetch 9 = .ok (.ixor, 1) := by decide +kernel
theorem dX2_mustFetch_10 : decode cX2_mustFetch 10 = .ok (.iand, 1) := by decide +kernel
theorem dX2_mustFetch_11 : decode cX2_mustFetch 11 = .ok (.ifCond .eq 7, 3) := by decide +kernel
theorem dX2_mustFetch_14 : decode cX2_mustFetch 14 = .ok (.iconst 1, 1) := by decide +kernel
theorem dX2_mustFetch_15 : decode cX2_mustFetch 15 = .ok (.goto 4, 3) := by decide +kernel
theorem dX2_mustFetch_18 : decode cX2_mustFetch 18 = .ok (.iconst 0, 1) := by decide +kernel
theorem dX2_mustFetch_19 : decode cX2_mustFetch 19 = .ok (.ireturn, 1) := by decide +kernel
theorem dX2_space_0 : decode cX2_space 0 = .ok (.aload_n 0, 1) := by decide +kernel
theorem dX2_space_1 : decode cX2_space 1 = .ok (.getfield 15, 3) := by decide +kernel
theorem dX2_space_4 : decode cX2_space 4 = .ok (.aload_n 0, 1) := by decide +kernel
theorem dX2_space_5 : decode cX2_space 5 = .ok (.getfield 9, 3) := by decide +kernel
theorem dX2_space_8 : decode cX2_space 8 = .ok (.iconst (-1), 1) := by decide +kernel
theorem dX2_space_9 : decode cX2_space 9 = .ok (.ixor, 1) := by decide +kernel
theorem dX2_space_10 : decode cX2_space 10 = .ok (.iand, 1) := by decide +kernel
theorem dX2_space_11 : decode cX2_space 11 = .ok (.invokestatic 24, 3) := by decide +kernel
theorem dX2_space_14 : decode cX2_space 14 = .ok (.istore_n 1, 1) := by decide +kernel
theorem dX2_space_15 : decode cX2_space 15 = .ok (.aload_n 0, 1) := by decide +kernel
theorem dX2_space_16 : decode cX2_space 16 = .ok (.getfield 30, 3) := by decide +kernel
theorem dX2_space_19 : decode cX2_space 19 = .ok (.getfield 34, 3) := by decide +kernel
theorem dX2_space_22 : decode cX2_space 22 = .ok (.iconst 1, 1) := by decide +kernel
theorem dX2_space_23 : decode cX2_space 23 = .ok (.iload_n 1, 1) := by decide +kernel
theorem dX2_space_24 : decode cX2_space 24 = .ok (.iadd, 1) := by decide +kernel
theorem dX2_space_25 : decode cX2_space 25 = .ok (.imul, 1) := by decide +kernel
theorem dX2_space_26 : decode cX2_space 26 = .ok (.iconst 2, 1) := by decide +kernel
theorem dX2_space_27 : decode cX2_space 27 = .ok (.aload_n 0, 1) := by decide +kernel
theorem dX2_space_28 : decode cX2_space 28 = .ok (.getfield 30, 3) := by decide +kernel
theorem dX2_space_31 : decode cX2_space 31 = .ok (.getfield 39, 3) := by decide +kernel
theorem dX2_space_34 : decode cX2_space 34 = .ok (.imul, 1) := by decide +kernel
theorem dX2_space_35 : decode cX2_space 35 = .ok (.invokestatic 42, 3) := by decide +kernel
theorem dX2_space_38 : decode cX2_space 38 = .ok (.ireturn, 1) := by decide +kernel
theorem dX2_keeping_0 : decode cX2_keeping 0 = .ok (.iconst 3, 1) := by decide +kernel
theorem dX2_keeping_1 : decode cX2_keeping 1 = .ok (.ireturn, 1) := by decide +kernel
theorem dX3_init_0 : decode cX3_init 0 = .ok (.aload_n 0, 1) := by decide +kernel
theorem dX3_init_1 : decode cX3_init 1 = .ok (.iconst 0, 1) := by decide +kernel
theorem dX3_init_2 : decode cX3_init 2 = .ok (.aload_n 1, 1) := by decide +kernel
theorem dX3_init_3 : decode cX3_init 3 = .ok (.iload_n 2, 1) := by decide +kernel
theorem dX3_init_4 : decode cX3_init 4 = .ok (.iload_n 3, 1) := by decide +kernel
theorem dX3_init_5 : decode cX3_init 5 = .ok (.iload 4, 2) := by decide +kernel
theorem dX3_init_7 : decode cX3_init 7 = .ok (.invokespecial 3, 3) := by decide +kernel
theorem dX3_init_10 : decode cX3_init 10 = .ok (.return_, 1) := by decide +kernel
theorem dX3_keeping_0 : decode cX3_keeping 0 = .ok (.iconst 2, 1) := by decide +kernel
theorem dX3_keeping_1 : decode cX3_keeping 1 = .ok (.ireturn, 1) := by decide +kernel
theorem dX4_init_0 : decode cX4_init 0 = .ok (.aload_n 0, 1) := by decide +kernel
theorem dX4_init_1 : decode cX4_init 1 = .ok (.iload_n 1, 1) := by decide +kernel
theorem dX4_init_2 : decode cX4_init 2 = .ok (.aload_n 2, 1) := by decide +kernel
theorem dX4_init_3 : decode cX4_init 3 = .ok (.invokespecial 3, 3) := by decide +kernel
theorem dX4_init_6 : decode cX4_init 6 = .ok (.aload_n 0, 1) := by decide +kernel
theorem dX4_init_7 : decode cX4_init 7 = .ok (.iload_n 3, 1) := by decide +kernel
theorem dX4_init_8 : decode cX4_init 8 = .ok (.invokestatic 9, 3) := by decide +kernel
theorem dX4_init_11 : decode cX4_init 11 = .ok (.iload 4, 2) := by decide +kernel
theorem dX4_init_13 : decode cX4_init 13 = .ok (.invokestatic 9, 3) := by decide +kernel
theorem dX4_init_16 : decode cX4_init 16 = .ok (.ior, 1) := by decide +kernel
theorem dX4_init_17 : decode cX4_init 17 = .ok (.iload 5, 2) := by decide +kernel
theorem dX4_init_19 : decode cX4_init 19 = .ok (.invokestatic 9, 3) := by decide +kernel
theorem dX4_init_22 : decode cX4_init 22 = .ok (.ior, 1) := by decide +kernel
theorem dX4_init_23 : decode cX4_init 23 = .ok (.putfield 13, 3) := by decide +kernel
theorem dX4_init_26 : decode cX4_init 26 = .ok (.aload_n 0, 1) := by decide +kernel
theorem dX4_init_27 : decode cX4_init 27 = .ok (.iconst 3, 1) := by decide +kernel
theorem dX4_init_28 : decode cX4_init 28 = .ok (.newarray .int, 2) := by decide +kernel
theorem dX4_init_30 : decode cX4_init 30 = .ok (.dup, 1) := by decide +kernel
theorem dX4_init_31 : decode cX4_init 31 = .ok (.iconst 0, 1) := by decide +kernel
theorem dX4_init_32 : decode cX4_init 32 = .ok (.iload_n 3, 1) := by decide +kernel
theorem dX4_init_33 : decode cX4_init 33 = .ok (.iastore, 1) := by decide +kernel
theorem dX4_init_34 : decode cX4_init 34 = .ok (.dup, 1) := by decide +kernel
theorem dX4_init_35 : decode cX4_init 35 = .ok (.iconst 1, 1) := by decide +kernel
theorem dX4_init_36 : decode cX4_init 36 = .ok (.iload 4, 2) := by decide +kernel
theorem dX4_init_38 : decode cX4_init 38 = .ok (.iastore, 1) := by decide +kernel
theorem dX4_init_39 : decode cX4_init 39 = .ok (.dup, 1) := by decide +kernel
theorem dX4_init_40 : decode cX4_init 40 = .ok (.iconst 2, 1) := by decide +kernel
theorem dX4_init_41 : decode cX4_init 41 = .ok (.iload 5, 2) := by decide +kernel
theorem dX4_init_43 : decode cX4_init 43 = .ok (.iastore, 1) := by decide +kernel
theorem dX4_init_44 : decode cX4_init 44 = .ok (.putfield 19, 3) := by decide +kernel
theorem dX4_init_47 : decode cX4_init 47 = .ok (.return_, 1) := by decide +kernel
theorem dX4_usedBy_0 : decode cX4_usedBy 0 = .ok (.iconst 0, 1) := by decide +kernel
theorem dX4_usedBy_1 : decode cX4_usedBy 1 = .ok (.istore_n 2, 1) := by decide +kernel
theorem dX4_usedBy_2 : decode cX4_usedBy 2 = .ok (.iload_n 2, 1) := by decide +kernel
theorem dX4_usedBy_3 : decode cX4_usedBy 3 = .ok (.aload_n 0, 1) := by decide +kernel
theorem dX4_usedBy_4 : decode cX4_usedBy 4 = .ok (.getfield 19, 3) := by decide +kernel
theorem dX4_usedBy_7 : decode cX4_usedBy 7 = .ok (.arraylength, 1) := by decide +kernel
theorem dX4_usedBy_8 : decode cX4_usedBy 8 = .ok (.if_icmp .ge 22, 3) := by decide +kernel
theorem dX4_usedBy_11 : decode cX4_usedBy 11 = .ok (.aload_n 1, 1) := by decide +kernel
theorem dX4_usedBy_12 : decode cX4_usedBy 12 = .ok (.aload_n 0, 1) := by decide +kernel
theorem dX4_usedBy_13 : decode cX4_usedBy 13 = .ok (.getfield 19, 3) := by decide +kernel
theorem dX4_usedBy_16 : decode cX4_usedBy 16 = .ok (.iload_n 2, 1) := by decide +kernel
theorem dX4_usedBy_17 : decode cX4_usedBy 17 = .ok (.iaload, 1) := by decide +kernel
theorem dX4_usedBy_18 : decode cX4_usedBy 18 = .ok (.invokevirtual 23, 3) := by decide +kernel
theorem dX4_usedBy_21 : decode cX4_usedBy 21 = .ok (.ifCond .eq 9, 3) := by decide +kernel
theorem dX4_usedBy_24 : decode cX4_usedBy 24 = .ok (.iinc 2 1, 3) := by decide +kernel
theorem dX4_usedBy_27 : decode cX4_usedBy 27 = .ok (.goto (-25), 3) := by decide +kernel
theorem dX4_usedBy_30 : decode cX4_usedBy 30 = .ok (.iload_n 2, 1) := by decide +kernel
theorem dX4_usedBy_31 : decode cX4_usedBy 31 = .ok (.aload_n 0, 1) := by decide +kernel
theorem dX4_usedBy_32 : decode cX4_usedBy 32 = .ok (.getfield 19, 3) := by decide +kernel
theorem dX4_usedBy_35 : decode cX4_usedBy 35 = .ok (.arraylength, 1) := by decide +kernel
theorem dX4_usedBy_36 : decode cX4_usedBy 36 = .ok (.if_icmp .ge 19, 3) := by decide +kernel
theorem dX4_usedBy_39 : decode cX4_usedBy 39 = .ok (.aload_n 1, 1) := by decide +kernel
theorem dX4_usedBy_40 : decode cX4_usedBy 40 = .ok (.aload_n 0, 1) := by decide +kernel
theorem dX4_usedBy_41 : decode cX4_usedBy 41 = .ok (.getfield 19, 3) := by decide +kernel
theorem dX4_usedBy_44 : decode cX4_usedBy 44 = .ok (.iload_n 2, 1) := by decide +kernel
theorem dX4_usedBy_45 : decode cX4_usedBy 45 = .ok (.iaload, 1) := by decide +kernel
theorem dX4_usedBy_46 : decode cX4_usedBy 46 = .ok (.invokevirtual 29, 3) := by decide +kernel
theorem dX4_usedBy_49 : decode cX4_usedBy 49 = .ok (.ifCond .eq 6, 3) := by decide +kernel
theorem dX4_usedBy_52 : decode cX4_usedBy 52 = .ok (.iinc 2 1, 3) := by decide +kernel
theorem dX4_usedBy_55 : decode cX4_usedBy 55 = .ok (.iload_n 2, 1) := by decide +kernel
theorem dX4_usedBy_56 : decode cX4_usedBy 56 = .ok (.ireturn, 1) := by decide +kernel
theorem dX4_helps_0 : decode cX4_helps 0 = .ok (.aload_n 0, 1) := by decide +kernel
theorem dX4_helps_1 : decode cX4_helps 1 = .ok (.aload_n 1, 1) := by decide +kernel
theorem dX4_helps_2 : decode cX4_helps 2 = .ok (.invokevirtual 32, 3) := by decide +kernel
theorem dX4_helps_5 : decode cX4_helps 5 = .ok (.ifCond .le 7, 3) := by decide +kernel
theorem dX4_helps_8 : decode cX4_helps 8 = .ok (.iconst 1, 1) := by decide +kernel
theorem dX4_helps_9 : decode cX4_helps 9 = .ok (.goto 4, 3) := by decide +kernel
theorem dX4_helps_12 : decode cX4_helps 12 = .ok (.iconst 0, 1) := by decide +kernel
theorem dX4_helps_13 : decode cX4_helps 13 = .ok (.ireturn, 1) := by decide +kernel
theorem dX4_foretoldRows_0 : decode cX4_foretoldRows 0 = .ok (.aload_n 0, 1) := by decide +kernel
theorem dX4_foretoldRows_1 : decode cX4_foretoldRows 1 = .ok (.getfield 36, 3) := by decide +kernel
theorem dX4_foretoldRows_4 : decode cX4_foretoldRows 4 = .ok (.getfield 40, 3) := by decide +kernel
theorem dX4_foretoldRows_7 : decode cX4_foretoldRows 7 = .ok (.ireturn, 1) := by decide +kernel
theorem dX4_holds_0 : decode cX4_holds 0 = .ok (.iconst 1, 1) := by decide +kernel
theorem dX4_holds_1 : decode cX4_holds 1 = .ok (.ireturn, 1) := by decide +kernel
theorem dX4_mustFetch_0 : decode cX4_mustFetch 0 = .ok (.iconst 1, 1) := by decide +kernel
theorem dX4_mustFetch_1 : decode cX4_mustFetch 1 = .ok (.ireturn, 1) := by decide +kernel
theorem dX4_entriesOnPage_0 : decode cX4_entriesOnPage 0 = .ok (.iconst 2, 1) := by decide +kernel
theorem dX4_entriesOnPage_1 : decode cX4_entriesOnPage 1 = .ok (.aload_n 0, 1) := by decide +kernel
theorem dX4_entriesOnPage_2 : decode cX4_entriesOnPage 2 = .ok (.getfield 36, 3) := by decide +kernel
theorem dX4_entriesOnPage_5 : decode cX4_entriesOnPage 5 = .ok (.getfield 45, 3) := by decide +kernel
theorem dX4_entriesOnPage_8 : decode cX4_entriesOnPage 8 = .ok (.imul, 1) := by decide +kernel
theorem dX4_entriesOnPage_9 : decode cX4_entriesOnPage 9 = .ok (.ireturn, 1) := by decide +kernel
theorem dX4_foretold_0 : decode cX4_foretold 0 = .ok (.aload_n 0, 1) := by decide +kernel
theorem dX4_foretold_1 : decode cX4_foretold 1 = .ok (.invokevirtual 48, 3) := by decide +kernel
theorem dX4_foretold_4 : decode cX4_foretold 4 = .ok (.istore_n 2, 1) := by decide +kernel
theorem dX4_foretold_5 : decode cX4_foretold 5 = .ok (.aload_n 0, 1) := by decide +kernel
theorem dX4_foretold_6 : decode cX4_foretold 6 = .ok (.aload_n 1, 1) := by decide +kernel
theorem dX4_foretold_7 : decode cX4_foretold 7 = .ok (.invokevirtual 32, 3) := by decide +kernel
theorem dX4_foretold_10 : decode cX4_foretold 10 = .ok (.istore_n 3, 1) := by decide +kernel
theorem dX4_foretold_11 : decode cX4_foretold 11 = .ok (.iconst 0, 1) := by decide +kernel
theorem dX4_foretold_12 : decode cX4_foretold 12 = .ok (.istore 4, 2) := by decide +kernel
theorem dX4_foretold_14 : decode cX4_foretold 14 = .ok (.iload 4, 2) := by decide +kernel
theorem dX4_foretold_16 : decode cX4_foretold 16 = .ok (.iload_n 3, 1) := by decide +kernel
theorem dX4_foretold_17 : decode cX4_foretold 17 = .ok (.if_icmp .ge 32, 3) := by decide +kernel
theorem dX4_foretold_20 : decode cX4_foretold 20 = .ok (.iload 4, 2) := by decide +kernel
theorem dX4_foretold_22 : decode cX4_foretold 22 = .ok (.aload_n 0, 1) := by decide +kernel
theorem dX4_foretold_23 : decode cX4_foretold 23 = .ok (.getfield 19, 3) := by decide +kernel
theorem dX4_foretold_26 : decode cX4_foretold 26 = .ok (.arraylength, 1) := by decide +kernel
theorem dX4_foretold_27 : decode cX4_foretold 27 = .ok (.if_icmp .ge 22, 3) := by decide +kernel
theorem dX4_foretold_30 : decode cX4_foretold 30 = .ok (.aload_n 1, 1) := by decide +kernel
theorem dX4_foretold_31 : decode cX4_foretold 31 = .ok (.iload_n 2, 1) := by decide +kernel
theorem dX4_foretold_32 : decode cX4_foretold 32 = .ok (.aload_n 0, 1) := by decide +kernel
theorem dX4_foretold_33 : decode cX4_foretold 33 = .ok (.getfield 19, 3) := by decide +kernel
theorem dX4_foretold_36 : decode cX4_foretold 36 = .ok (.iload 4, 2) := by decide +kernel
theorem dX4_foretold_38 : decode cX4_foretold 38 = .ok (.iaload, 1) := by decide +kernel
theorem dX4_foretold_39 : decode cX4_foretold 39 = .ok (.invokevirtual 52, 3) := by decide +kernel
theorem dX4_foretold_42 : decode cX4_foretold 42 = .ok (.istore_n 2, 1) := by decide +kernel
theorem dX4_foretold_43 : decode cX4_foretold 43 = .ok (.iinc 4 1, 3) := by decide +kernel
theorem dX4_foretold_46 : decode cX4_foretold 46 = .ok (.goto (-32), 3) := by decide +kernel
theorem dX4_foretold_49 : decode cX4_foretold 49 = .ok (.aload_n 0, 1) := by decide +kernel
theorem dX4_foretold_50 : decode cX4_foretold 50 = .ok (.aload_n 1, 1) := by decide +kernel
theorem dX4_foretold_51 : decode cX4_foretold 51 = .ok (.invokevirtual 56, 3) := by decide +kernel
theorem dX4_foretold_54 : decode cX4_foretold 54 = .ok (.ifCond .eq 17, 3) := by decide +kernel
theorem dX4_foretold_57 : decode cX4_foretold 57 = .ok (.iload_n 2, 1) := by decide +kernel
theorem dX4_foretold_58 : decode cX4_foretold 58 = .ok (.aload_n 0, 1) := by decide +kernel
theorem dX4_foretold_59 : decode cX4_foretold 59 = .ok (.getfield 36, 3) := by decide +kernel
theorem dX4_foretold_62 : decode cX4_foretold 62 = .ok (.invokevirtual 60, 3) := by decide +kernel
theorem dX4_foretold_65 : decode cX4_foretold 65 = .ok (.invokestatic 63, 3) := by decide +kernel
theorem dX4_foretold_68 : decode cX4_foretold 68 = .ok (.goto 4, 3) := by decide +kernel
theorem dX4_foretold_71 : decode cX4_foretold 71 = .ok (.iconst 0, 1) := by decide +kernel
theorem dX4_foretold_72 : decode cX4_foretold 72 = .ok (.istore 4, 2) := by decide +kernel
theorem dX4_foretold_74 : decode cX4_foretold 74 = .ok (.iconst 1, 1) := by decide +kernel
theorem dX4_foretold_75 : decode cX4_foretold 75 = .ok (.iload_n 2, 1) := by decide +kernel
theorem dX4_foretold_76 : decode cX4_foretold 76 = .ok (.aload_n 0, 1) := by decide +kernel
theorem dX4_foretold_77 : decode cX4_foretold 77 = .ok (.invokevirtual 68, 3) := by decide +kernel
theorem dX4_foretold_80 : decode cX4_foretold 80 = .ok (.invokestatic 71, 3) := by decide +kernel
theorem dX4_foretold_83 : decode cX4_foretold 83 = .ok (.iadd, 1) := by decide +kernel
theorem dX4_foretold_84 : decode cX4_foretold 84 = .ok (.iload 4, 2) := by decide +kernel
theorem dX4_foretold_86 : decode cX4_foretold 86 = .ok (.iadd, 1) := by decide +kernel
theorem dX4_foretold_87 : decode cX4_foretold 87 = .ok (.ireturn, 1) := by decide +kernel
theorem dX4_fetched_0 : decode cX4_fetched 0 = .ok (.aload_n 0, 1) := by decide +kernel
theorem dX4_fetched_1 : decode cX4_fetched 1 = .ok (.aload_n 1, 1) := by decide +kernel
theorem dX4_fetched_2 : decode cX4_fetched 2 = .ok (.invokevirtual 32, 3) := by decide +kernel
theorem dX4_fetched_5 : decode cX4_fetched 5 = .ok (.istore_n 2, 1) := by decide +kernel
theorem dX4_fetched_6 : decode cX4_fetched 6 = .ok (.iconst 0, 1) := by decide +kernel
theorem dX4_fetched_7 : decode cX4_fetched 7 = .ok (.istore_n 3, 1) := by decide +kernel
theorem dX4_fetched_8 : decode cX4_fetched 8 = .ok (.iconst 0, 1) := by decide +kernel
theorem dX4_fetched_9 : decode cX4_fetched 9 = .ok (.istore 4, 2) := by decide +kernel
theorem dX4_fetched_11 : decode cX4_fetched 11 = .ok (.iconst (-1), 1) := by decide +kernel
theorem dX4_fetched_12 : decode cX4_fetched 12 = .ok (.istore 5, 2) := by decide +kernel
theorem dX4_fetched_14 : decode cX4_fetched 14 = .ok (.iconst 0, 1) := by decide +kernel
theorem dX4_fetched_15 : decode cX4_fetched 15 = .ok (.istore 6, 2) := by decide +kernel
theorem dX4_fetched_17 : decode cX4_fetched 17 = .ok (.iload 6, 2) := by decide +kernel
theorem dX4_fetched_19 : decode cX4_fetched 19 = .ok (.aload_n 0, 1) := by decide +kernel
theorem dX4_fetched_20 : decode cX4_fetched 20 = .ok (.getfield 36, 3) := by decide +kernel
theorem dX4_fetched_23 : decode cX4_fetched 23 = .ok (.getfield 74, 3) := by decide +kernel
theorem dX4_fetched_26 : decode cX4_fetched 26 = .ok (.if_icmp .ge 67, 3) := by decide +kernel
theorem dX4_fetched_29 : decode cX4_fetched 29 = .ok (.aload_n 0, 1) := by decide +kernel
theorem dX4_fetched_30 : decode cX4_fetched 30 = .ok (.iload 6, 2) := by decide +kernel
theorem dX4_fetched_32 : decode cX4_fetched 32 = .ok (.invokevirtual 77, 3) := by decide +kernel
theorem dX4_fetched_35 : decode cX4_fetched 35 = .ok (.ifCond .eq 52, 3) := by decide +kernel
theorem dX4_fetched_38 : decode cX4_fetched 38 = .ok (.aload_n 0, 1) := by decide +kernel
theorem dX4_fetched_39 : decode cX4_fetched 39 = .ok (.aload_n 1, 1) := by decide +kernel
theorem dX4_fetched_40 : decode cX4_fetched 40 = .ok (.iload_n 2, 1) := by decide +kernel
theorem dX4_fetched_41 : decode cX4_fetched 41 = .ok (.iload 6, 2) := by decide +kernel
theorem dX4_fetched_43 : decode cX4_fetched 43 = .ok (.invokevirtual 80, 3) := by decide +kernel
theorem dX4_fetched_46 : decode cX4_fetched 46 = .ok (.ifCond .eq 41, 3) := by decide +kernel
theorem dX4_fetched_49 : decode cX4_fetched 49 = .ok (.iinc 3 1, 3) := by decide +kernel
theorem dX4_fetched_52 : decode cX4_fetched 52 = .ok (.iload 4, 2) := by decide +kernel
theorem dX4_fetched_54 : decode cX4_fetched 54 = .ok (.aload_n 0, 1) := by decide +kernel
theorem dX4_fetched_55 : decode cX4_fetched 55 = .ok (.getfield 36, 3) := by decide +kernel
theorem dX4_fetched_58 : decode cX4_fetched 58 = .ok (.iload 6, 2) := by decide +kernel
theorem dX4_fetched_60 : decode cX4_fetched 60 = .ok (.invokevirtual 84, 3) := by decide +kernel
theorem dX4_fetched_63 : decode cX4_fetched 63 = .ok (.iload 5, 2) := by decide +kernel
theorem dX4_fetched_65 : decode cX4_fetched 65 = .ok (.if_icmp .ne 7, 3) := by decide +kernel
theorem dX4_fetched_68 : decode cX4_fetched 68 = .ok (.iconst 0, 1) := by decide +kernel
theorem dX4_fetched_69 : decode cX4_fetched 69 = .ok (.goto 4, 3) := by decide +kernel
theorem dX4_fetched_72 : decode cX4_fetched 72 = .ok (.iconst 1, 1) := by decide +kernel
theorem dX4_fetched_73 : decode cX4_fetched 73 = .ok (.iadd, 1) := by decide +kernel
theorem dX4_fetched_74 : decode cX4_fetched 74 = .ok (.istore 4, 2) := by decide +kernel
theorem dX4_fetched_76 : decode cX4_fetched 76 = .ok (.aload_n 0, 1) := by decide +kernel
theorem dX4_fetched_77 : decode cX4_fetched 77 = .ok (.getfield 36, 3) := by decide +kernel
theorem dX4_fetched_80 : decode cX4_fetched 80 = .ok (.iload 6, 2) := by decide +kernel
theorem dX4_fetched_82 : decode cX4_fetched 82 = .ok (.invokevirtual 84, 3) := by decide +kernel
theorem dX4_fetched_85 : decode cX4_fetched 85 = .ok (.istore 5, 2) := by decide +kernel
theorem dX4_fetched_87 : decode cX4_fetched 87 = .ok (.iinc 6 1, 3) := by decide +kernel
theorem dX4_fetched_90 : decode cX4_fetched 90 = .ok (.goto (-73), 3) := by decide +kernel
theorem dX4_fetched_93 : decode cX4_fetched 93 = .ok (.iconst 1, 1) := by decide +kernel
theorem dX4_fetched_94 : decode cX4_fetched 94 = .ok (.iload_n 3, 1) := by decide +kernel
theorem dX4_fetched_95 : decode cX4_fetched 95 = .ok (.aload_n 0, 1) := by decide +kernel
theorem dX4_fetched_96 : decode cX4_fetched 96 = .ok (.invokevirtual 68, 3) := by decide +kernel
theorem dX4_fetched_99 : decode cX4_fetched 99 = .ok (.invokestatic 71, 3) := by decide +kernel
theorem dX4_fetched_102 : decode cX4_fetched 102 = .ok (.iadd, 1) := by decide +kernel
theorem dX4_fetched_103 : decode cX4_fetched 103 = .ok (.aload_n 0, 1) := by decide +kernel
theorem dX4_fetched_104 : decode cX4_fetched 104 = .ok (.aload_n 1, 1) := by decide +kernel
theorem dX4_fetched_105 : decode cX4_fetched 105 = .ok (.invokevirtual 56, 3) := by decide +kernel
theorem dX4_fetched_108 : decode cX4_fetched 108 = .ok (.ifCond .eq 8, 3) := by decide +kernel
theorem dX4_fetched_111 : decode cX4_fetched 111 = .ok (.iload 4, 2) := by decide +kernel
theorem dX4_fetched_113 : decode cX4_fetched 113 = .ok (.goto 4, 3) := by decide +kernel
theorem dX4_fetched_116 : decode cX4_fetched 116 = .ok (.iconst 0, 1) := by decide +kernel
theorem dX4_fetched_117 : decode cX4_fetched 117 = .ok (.iadd, 1) := by decide +kernel
theorem dX4_fetched_118 : decode cX4_fetched 118 = .ok (.ireturn, 1) := by decide +kernel
theorem dX4_finds_0 : decode cX4_finds 0 = .ok (.iconst 0, 1) := by decide +kernel
theorem dX4_finds_1 : decode cX4_finds 1 = .ok (.istore 4, 2) := by decide +kernel
theorem dX4_finds_3 : decode cX4_finds 3 = .ok (.iload 4, 2) := by decide +kernel
theorem dX4_finds_5 : decode cX4_finds 5 = .ok (.iload_n 2, 1) := by decide +kernel
theorem dX4_finds_6 : decode cX4_finds 6 = .ok (.if_icmp .ge 36, 3) := by decide +kernel
theorem dX4_finds_9 : decode cX4_finds 9 = .ok (.iload 4, 2) := by decide +kernel
theorem dX4_finds_11 : decode cX4_finds 11 = .ok (.aload_n 0, 1) := by decide +kernel
theorem dX4_finds_12 : decode cX4_finds 12 = .ok (.getfield 19, 3) := by decide +kernel
theorem dX4_finds_15 : decode cX4_finds 15 = .ok (.arraylength, 1) := by decide +kernel
theorem dX4_finds_16 : decode cX4_finds 16 = .ok (.if_icmp .ge 26, 3) := by decide +kernel
theorem dX4_finds_19 : decode cX4_finds 19 = .ok (.aload_n 1, 1) := by decide +kernel
theorem dX4_finds_20 : decode cX4_finds 20 = .ok (.iload_n 3, 1) := by decide +kernel
theorem dX4_finds_21 : decode cX4_finds 21 = .ok (.aload_n 0, 1) := by decide +kernel
theorem dX4_finds_22 : decode cX4_finds 22 = .ok (.getfield 19, 3) := by decide +kernel
theorem dX4_finds_25 : decode cX4_finds 25 = .ok (.iload 4, 2) := by decide +kernel
theorem dX4_finds_27 : decode cX4_finds 27 = .ok (.iaload, 1) := by decide +kernel
theorem dX4_finds_28 : decode cX4_finds 28 = .ok (.invokevirtual 87, 3) := by decide +kernel
theorem dX4_finds_31 : decode cX4_finds 31 = .ok (.ifCond .ne 5, 3) := by decide +kernel
theorem dX4_finds_34 : decode cX4_finds 34 = .ok (.iconst 0, 1) := by decide +kernel
theorem dX4_finds_35 : decode cX4_finds 35 = .ok (.ireturn, 1) := by decide +kernel
theorem dX4_finds_36 : decode cX4_finds 36 = .ok (.iinc 4 1, 3) := by decide +kernel
theorem dX4_finds_39 : decode cX4_finds 39 = .ok (.goto (-36), 3) := by decide +kernel
theorem dX4_finds_42 : decode cX4_finds 42 = .ok (.iconst 1, 1) := by decide +kernel
theorem dX4_finds_43 : decode cX4_finds 43 = .ok (.ireturn, 1) := by decide +kernel
theorem dX4_space_0 : decode cX4_space 0 = .ok (.aload_n 0, 1) := by decide +kernel
theorem dX4_space_1 : decode cX4_space 1 = .ok (.invokevirtual 48, 3) := by decide +kernel
theorem dX4_space_4 : decode cX4_space 4 = .ok (.iconst 2, 1) := by decide +kernel
theorem dX4_space_5 : decode cX4_space 5 = .ok (.aload_n 0, 1) := by decide +kernel
theorem dX4_space_6 : decode cX4_space 6 = .ok (.getfield 36, 3) := by decide +kernel
theorem dX4_space_9 : decode cX4_space 9 = .ok (.getfield 45, 3) := by decide +kernel
theorem dX4_space_12 : decode cX4_space 12 = .ok (.imul, 1) := by decide +kernel
theorem dX4_space_13 : decode cX4_space 13 = .ok (.invokestatic 71, 3) := by decide +kernel
theorem dX4_space_16 : decode cX4_space 16 = .ok (.ireturn, 1) := by decide +kernel
theorem dX5_init_0 : decode cX5_init 0 = .ok (.aload_n 0, 1) := by decide +kernel
theorem dX5_init_1 : decode cX5_init 1 = .ok (.iconst 2, 1) := by decide +kernel
theorem dX5_init_2 : decode cX5_init 2 = .ok (.aload_n 1, 1) := by decide +kernel
theorem dX5_init_3 : decode cX5_init 3 = .ok (.iload_n 2, 1) := by decide +kernel
theorem dX5_init_4 : decode cX5_init 4 = .ok (.iload_n 3, 1) := by decide +kernel
theorem dX5_init_5 : decode cX5_init 5 = .ok (.iconst (-1), 1) := by decide +kernel
theorem dX5_init_6 : decode cX5_init 6 = .ok (.invokespecial 3, 3) := by decide +kernel
theorem dX5_init_9 : decode cX5_init 9 = .ok (.aload_n 0, 1) := by decide +kernel
theorem dX5_init_10 : decode cX5_init 10 = .ok (.iload 4, 2) := by decide +kernel
theorem dX5_init_12 : decode cX5_init 12 = .ok (.putfield 9, 3) := by decide +kernel
theorem dX5_init_15 : decode cX5_init 15 = .ok (.aload_n 0, 1) := by decide +kernel
theorem dX5_init_16 : decode cX5_init 16 = .ok (.iload 5, 2) := by decide +kernel
theorem dX5_init_18 : decode cX5_init 18 = .ok (.putfield 15, 3) := by decide +kernel
theorem dX5_init_21 : decode cX5_init 21 = .ok (.aload_n 0, 1) := by decide +kernel
theorem dX5_init_22 : decode cX5_init 22 = .ok (.iload 6, 2) := by decide +kernel
theorem dX5_init_24 : decode cX5_init 24 = .ok (.putfield 18, 3) := by decide +kernel
theorem dX5_init_27 : decode cX5_init 27 = .ok (.return_, 1) := by decide +kernel
theorem dX5_helps_0 : decode cX5_helps 0 = .ok (.aload_n 1, 1) := by decide +kernel
theorem dX5_helps_1 : decode cX5_helps 1 = .ok (.aload_n 0, 1) := by decide +kernel
theorem dX5_helps_2 : decode cX5_helps 2 = .ok (.getfield 9, 3) := by decide +kernel
theorem dX5_helps_5 : decode cX5_helps 5 = .ok (.aload_n 0, 1) := by decide +kernel
theorem dX5_helps_6 : decode cX5_helps 6 = .ok (.getfield 15, 3) := by decide +kernel
theorem dX5_helps_9 : decode cX5_helps 9 = .ok (.aload_n 0, 1) := by decide +kernel
theorem dX5_helps_10 : decode cX5_helps 10 = .ok (.getfield 18, 3) := by decide +kernel
theorem dX5_helps_13 : decode cX5_helps 13 = .ok (.invokevirtual 21, 3) := by decide +kernel
theorem dX5_helps_16 : decode cX5_helps 16 = .ok (.ireturn, 1) := by decide +kernel
theorem dX5_foretoldRows_0 : decode cX5_foretoldRows 0 = .ok (.aload_n 0, 1) := by decide +kernel
theorem dX5_foretoldRows_1 : decode cX5_foretoldRows 1 = .ok (.getfield 27, 3) := by decide +kernel
theorem dX5_foretoldRows_4 : decode cX5_foretoldRows 4 = .ok (.aload_n 0, 1) := by decide +kernel
theorem dX5_foretoldRows_5 : decode cX5_foretoldRows 5 = .ok (.getfield 27, 3) := by decide +kernel
theorem dX5_foretoldRows_8 : decode cX5_foretoldRows 8 = .ok (.getfield 31, 3) := by decide +kernel
theorem dX5_foretoldRows_11 : decode cX5_foretoldRows 11 = .ok (.aload_n 0, 1) := by decide +kernel
theorem dX5_foretoldRows_12 : decode cX5_foretoldRows 12 = .ok (.getfield 9, 3) := by decide +kernel
theorem dX5_foretoldRows_15 : decode cX5_foretoldRows 15 = .ok (.aload_n 0, 1) := by decide +kernel
theorem dX5_foretoldRows_16 : decode cX5_foretoldRows 16 = .ok (.getfield 15, 3) := by decide +kernel
theorem dX5_foretoldRows_19 : decode cX5_foretoldRows 19 = .ok (.aload_n 0, 1) := by decide +kernel
theorem dX5_foretoldRows_20 : decode cX5_foretoldRows 20 = .ok (.getfield 18, 3) := by decide +kernel
theorem dX5_foretoldRows_23 : decode cX5_foretoldRows 23 = .ok (.invokevirtual 36, 3) := by decide +kernel
theorem dX5_foretoldRows_26 : decode cX5_foretoldRows 26 = .ok (.ireturn, 1) := by decide +kernel
theorem dX5_holds_0 : decode cX5_holds 0 = .ok (.aload_n 0, 1) := by decide +kernel
theorem dX5_holds_1 : decode cX5_holds 1 = .ok (.getfield 27, 3) := by decide +kernel
theorem dX5_holds_4 : decode cX5_holds 4 = .ok (.iload_n 1, 1) := by decide +kernel
theorem dX5_holds_5 : decode cX5_holds 5 = .ok (.aload_n 0, 1) := by decide +kernel
theorem dX5_holds_6 : decode cX5_holds 6 = .ok (.getfield 9, 3) := by decide +kernel
theorem dX5_holds_9 : decode cX5_holds 9 = .ok (.invokevirtual 40, 3) := by decide +kernel
theorem dX5_holds_12 : decode cX5_holds 12 = .ok (.aload_n 0, 1) := by decide +kernel
theorem dX5_holds_13 : decode cX5_holds 13 = .ok (.getfield 15, 3) := by decide +kernel
theorem dX5_holds_16 : decode cX5_holds 16 = .ok (.aload_n 0, 1) := by decide +kernel
theorem dX5_holds_17 : decode cX5_holds 17 = .ok (.getfield 18, 3) := by decide +kernel
theorem dX5_holds_20 : decode cX5_holds 20 = .ok (.invokestatic 44, 3) := by decide +kernel
theorem dX5_holds_23 : decode cX5_holds 23 = .ok (.ireturn, 1) := by decide +kernel
theorem dX5_keeping_0 : decode cX5_keeping 0 = .ok (.iconst 1, 1) := by decide +kernel
theorem dX5_keeping_1 : decode cX5_keeping 1 = .ok (.ireturn, 1) := by decide +kernel
theorem dX6_init_0 : decode cX6_init 0 = .ok (.aload_n 0, 1) := by decide +kernel
theorem dX6_init_1 : decode cX6_init 1 = .ok (.invokespecial 3, 3) := by decide +kernel
theorem dX6_init_4 : decode cX6_init 4 = .ok (.aload_n 0, 1) := by decide +kernel
theorem dX6_init_5 : decode cX6_init 5 = .ok (.iconst 4, 1) := by decide +kernel
theorem dX6_init_6 : decode cX6_init 6 = .ok (.newarray .int, 2) := by decide +kernel
theorem dX6_init_8 : decode cX6_init 8 = .ok (.putfield 9, 3) := by decide +kernel
theorem dX6_init_11 : decode cX6_init 11 = .ok (.aload_n 0, 1) := by decide +kernel
theorem dX6_init_12 : decode cX6_init 12 = .ok (.iconst 4, 1) := by decide +kernel
theorem dX6_init_13 : decode cX6_init 13 = .ok (.newarray .int, 2) := by decide +kernel
theorem dX6_init_15 : decode cX6_init 15 = .ok (.putfield 15, 3) := by decide +kernel
theorem dX6_init_18 : decode cX6_init 18 = .ok (.aload_n 0, 1) := by decide +kernel
theorem dX6_init_19 : decode cX6_init 19 = .ok (.aload_n 1, 1) := by decide +kernel
theorem dX6_init_20 : decode cX6_init 20 = .ok (.putfield 18, 3) := by decide +kernel
theorem dX6_init_23 : decode cX6_init 23 = .ok (.aload_n 0, 1) := by decide +kernel
theorem dX6_init_24 : decode cX6_init 24 = .ok (.iload_n 2, 1) := by decide +kernel
theorem dX6_init_25 : decode cX6_init 25 = .ok (.putfield 22, 3) := by decide +kernel
theorem dX6_init_28 : decode cX6_init 28 = .ok (.aload_n 0, 1) := by decide +kernel
theorem dX6_init_29 : decode cX6_init 29 = .ok (.iload_n 3, 1) := by decide +kernel
theorem dX6_init_30 : decode cX6_init 30 = .ok (.putfield 26, 3) := by decide +kernel
theorem dX6_init_33 : decode cX6_init 33 = .ok (.aload_n 0, 1) := by decide +kernel
theorem dX6_init_34 : decode cX6_init 34 = .ok (.iload 4, 2) := by decide +kernel
theorem dX6_init_36 : decode cX6_init 36 = .ok (.putfield 29, 3) := by decide +kernel
theorem dX6_init_39 : decode cX6_init 39 = .ok (.return_, 1) := by decide +kernel
theorem dX6_limit_0 : decode cX6_limit 0 = .ok (.iload_n 1, 1) := by decide +kernel
theorem dX6_limit_1 : decode cX6_limit 1 = .ok (.iconst 0, 1) := by decide +kernel
theorem dX6_limit_2 : decode cX6_limit 2 = .ok (.iconst 3, 1) := by decide +kernel
theorem dX6_limit_3 : decode cX6_limit 3 = .ok (.invokestatic 32, 3) := by decide +kernel
theorem dX6_limit_6 : decode cX6_limit 6 = .ok (.ifCond .eq 30, 3) := by decide +kernel
theorem dX6_limit_9 : decode cX6_limit 9 = .ok (.aload_n 0, 1) := by decide +kernel
theorem dX6_limit_10 : decode cX6_limit 10 = .ok (.dup, 1) := by decide +kernel
theorem dX6_limit_11 : decode cX6_limit 11 = .ok (.getfield 36, 3) := by decide +kernel
theorem dX6_limit_14 : decode cX6_limit 14 = .ok (.iload_n 1, 1) := by decide +kernel
theorem dX6_limit_15 : decode cX6_limit 15 = .ok (.invokestatic 39, 3) := by decide +kernel
theorem dX6_limit_18 : decode cX6_limit 18 = .ok (.ior, 1) := by decide +kernel
theorem dX6_limit_19 : decode cX6_limit 19 = .ok (.putfield 36, 3) := by decide +kernel
theorem dX6_limit_22 : decode cX6_limit 22 = .ok (.aload_n 0, 1) := by decide +kernel
theorem dX6_limit_23 : decode cX6_limit 23 = .ok (.getfield 9, 3) := by decide +kernel
theorem dX6_limit_26 : decode cX6_limit 26 = .ok (.iload_n 1, 1) := by decide +kernel
theorem dX6_limit_27 : decode cX6_limit 27 = .ok (.iload_n 2, 1) := by decide +kernel
theorem dX6_limit_28 : decode cX6_limit 28 = .ok (.iastore, 1) := by decide +kernel
theorem dX6_limit_29 : decode cX6_limit 29 = .ok (.aload_n 0, 1) := by decide +kernel
theorem dX6_limit_30 : decode cX6_limit 30 = .ok (.getfield 15, 3) := by decide +kernel
theorem dX6_limit_33 : decode cX6_limit 33 = .ok (.iload_n 1, 1) := by decide +kernel
theorem dX6_limit_34 : decode cX6_limit 34 = .ok (.iload_n 3, 1) := by decide +kernel
theorem dX6_limit_35 : decode cX6_limit 35 = .ok (.iastore, 1) := by decide +kernel
theorem dX6_limit_36 : decode cX6_limit 36 = .ok (.return_, 1) := by decide +kernel
theorem dX6_tests_0 : decode cX6_tests 0 = .ok (.iload_n 1, 1) := by decide +kernel
theorem dX6_tests_1 : decode cX6_tests 1 = .ok (.ifCond .lt 23, 3) := by decide +kernel
theorem dX6_tests_4 : decode cX6_tests 4 = .ok (.iload_n 1, 1) := by decide +kernel
theorem dX6_tests_5 : decode cX6_tests 5 = .ok (.iconst 4, 1) := by decide +kernel
theorem dX6_tests_6 : decode cX6_tests 6 = .ok (.if_icmp .ge 18, 3) := by decide +kernel
theorem dX6_tests_9 : decode cX6_tests 9 = .ok (.aload_n 0, 1) := by decide +kernel
theorem dX6_tests_10 : decode cX6_tests 10 = .ok (.getfield 36, 3) := by decide +kernel
theorem dX6_tests_13 : decode cX6_tests 13 = .ok (.iconst 1, 1) := by decide +kernel
theorem dX6_tests_14 : decode cX6_tests 14 = .ok (.iload_n 1, 1) := by decide +kernel
theorem dX6_tests_15 : decode cX6_tests 15 = .ok (.ishl, 1) := by decide +kernel
theorem dX6_tests_16 : decode cX6_tests 16 = .ok (.iand, 1) := by decide +kernel
theorem dX6_tests_17 : decode cX6_tests 17 = .ok (.ifCond .eq 7, 3) := by decide +kernel
theorem dX6_tests_20 : decode cX6_tests 20 = .ok (.iconst 1, 1) := by decide +kernel
theorem dX6_tests_21 : decode cX6_tests 21 = .ok (.goto 4, 3) := by decide +kernel
theorem dX6_tests_24 : decode cX6_tests 24 = .ok (.iconst 0, 1) := by decide +kernel
theorem dX6_tests_25 : decode cX6_tests 25 = .ok (.ireturn, 1) := by decide +kernel
theorem dX6_testsAlike_0 : decode cX6_testsAlike 0 = .ok (.aload_n 0, 1) := by decide +kernel
theorem dX6_testsAlike_1 : decode cX6_testsAlike 1 = .ok (.iload_n 1, 1) := by decide +kernel
theorem dX6_testsAlike_2 : decode cX6_testsAlike 2 = .ok (.invokevirtual 43, 3) := by decide +kernel
theorem dX6_testsAlike_5 : decode cX6_testsAlike 5 = .ok (.ifCond .eq 22, 3) := by decide +kernel
theorem dX6_testsAlike_8 : decode cX6_testsAlike 8 = .ok (.aload_n 0, 1) := by decide +kernel
theorem dX6_testsAlike_9 : decode cX6_testsAlike 9 = .ok (.getfield 9, 3) := by decide +kernel
theorem dX6_testsAlike_12 : decode cX6_testsAlike 12 = .ok (.iload_n 1, 1) := by decide +kernel
theorem dX6_testsAlike_13 : decode cX6_testsAlike 13 = .ok (.iaload, 1) := by decide +kernel
theorem dX6_testsAlike_14 : decode cX6_testsAlike 14 = .ok (.aload_n 0, 1) := by decide +kernel
theorem dX6_testsAlike_15 : decode cX6_testsAlike 15 = .ok (.getfield 15, 3) := by decide +kernel
theorem dX6_testsAlike_18 : decode cX6_testsAlike 18 = .ok (.iload_n 1, 1) := by decide +kernel
theorem dX6_testsAlike_19 : decode cX6_testsAlike 19 = .ok (.iaload, 1) := by decide +kernel
theorem dX6_testsAlike_20 : decode cX6_testsAlike 20 = .ok (.if_icmp .ne 7, 3) := by decide +kernel
theorem dX6_testsAlike_23 : decode cX6_testsAlike 23 = .ok (.iconst 1, 1) := by decide +kernel
theorem dX6_testsAlike_24 : decode cX6_testsAlike 24 = .ok (.goto 4, 3) := by decide +kernel
theorem dX6_testsAlike_27 : decode cX6_testsAlike 27 = .ok (.iconst 0, 1) := by decide +kernel
theorem dX6_testsAlike_28 : decode cX6_testsAlike 28 = .ok (.ireturn, 1) := by decide +kernel
theorem dX6_testsWithin_0 : decode cX6_testsWithin 0 = .ok (.aload_n 0, 1) := by decide +kernel
theorem dX6_testsWithin_1 : decode cX6_testsWithin 1 = .ok (.iload_n 1, 1) := by decide +kernel
theorem dX6_testsWithin_2 : decode cX6_testsWithin 2 = .ok (.invokevirtual 43, 3) := by decide +kernel
theorem dX6_testsWithin_5 : decode cX6_testsWithin 5 = .ok (.ifCond .eq 27, 3) := by decide +kernel
theorem dX6_testsWithin_8 : decode cX6_testsWithin 8 = .ok (.aload_n 0, 1) := by decide +kernel
theorem dX6_testsWithin_9 : decode cX6_testsWithin 9 = .ok (.getfield 9, 3) := by decide +kernel
theorem dX6_testsWithin_12 : decode cX6_testsWithin 12 = .ok (.iload_n 1, 1) := by decide +kernel
theorem dX6_testsWithin_13 : decode cX6_testsWithin 13 = .ok (.iaload, 1) := by decide +kernel
theorem dX6_testsWithin_14 : decode cX6_testsWithin 14 = .ok (.iload_n 2, 1) := by decide +kernel
theorem dX6_testsWithin_15 : decode cX6_testsWithin 15 = .ok (.if_icmp .lt 17, 3) := by decide +kernel
theorem dX6_testsWithin_18 : decode cX6_testsWithin 18 = .ok (.aload_n 0, 1) := by decide +kernel
theorem dX6_testsWithin_19 : decode cX6_testsWithin 19 = .ok (.getfield 15, 3) := by decide +kernel
theorem dX6_testsWithin_22 : decode cX6_testsWithin 22 = .ok (.iload_n 1, 1) := by decide +kernel
theorem dX6_testsWithin_23 : decode cX6_testsWithin 23 = .ok (.iaload, 1) := by decide +kernel
theorem dX6_testsWithin_24 : decode cX6_testsWithin 24 = .ok (.iload_n 3, 1) := by decide +kernel
theorem dX6_testsWithin_25 : decode cX6_testsWithin 25 = .ok (.if_icmp .gt 7, 3) := by decide +kernel
theorem dX6_testsWithin_28 : decode cX6_testsWithin 28 = .ok (.iconst 1, 1) := by decide +kernel
theorem dX6_testsWithin_29 : decode cX6_testsWithin 29 = .ok (.goto 4, 3) := by decide +kernel
theorem dX6_testsWithin_32 : decode cX6_testsWithin 32 = .ok (.iconst 0, 1) := by decide +kernel
theorem dX6_testsWithin_33 : decode cX6_testsWithin 33 = .ok (.ireturn, 1) := by decide +kernel
theorem dX6_foretoldPassing_0 : decode cX6_foretoldPassing 0 = .ok (.aload_n 0, 1) := by decide +kernel
theorem dX6_foretoldPassing_1 : decode cX6_foretoldPassing 1 = .ok (.iload_n 2, 1) := by decide +kernel
theorem dX6_foretoldPassing_2 : decode cX6_foretoldPassing 2 = .ok (.invokevirtual 43, 3) := by decide +kernel
theorem dX6_foretoldPassing_5 : decode cX6_foretoldPassing 5 = .ok (.ifCond .eq 27, 3) := by decide +kernel
theorem dX6_foretoldPassing_8 : decode cX6_foretoldPassing 8 = .ok (.aload_n 0, 1) := by decide +kernel
theorem dX6_foretoldPassing_9 : decode cX6_foretoldPassing 9 = .ok (.getfield 18, 3) := by decide +kernel
theorem dX6_foretoldPassing_12 : decode cX6_foretoldPassing 12 = .ok (.iload_n 1, 1) := by decide +kernel
theorem dX6_foretoldPassing_13 : decode cX6_foretoldPassing 13 = .ok (.iload_n 2, 1) := by decide +kernel
theorem dX6_foretoldPassing_14 : decode cX6_foretoldPassing 14 = .ok (.aload_n 0, 1) := by decide +kernel
theorem dX6_foretoldPassing_15 : decode cX6_foretoldPassing 15 = .ok (.getfield 9, 3) := by decide +kernel
theorem dX6_foretoldPassing_18 : decode cX6_foretoldPassing 18 = .ok (.iload_n 2, 1) := by decide +kernel
theorem dX6_foretoldPassing_19 : decode cX6_foretoldPassing 19 = .ok (.iaload, 1) := by decide +kernel
theorem dX6_foretoldPassing_20 : decode cX6_foretoldPassing 20 = .ok (.aload_n 0, 1) := by decide +kernel
theorem dX6_foretoldPassing_21 : decode cX6_foretoldPassing 21 = .ok (.getfield 15, 3) := by decide +kernel
theorem dX6_foretoldPassing_24 : decode cX6_foretoldPassing 24 = .ok (.iload_n 2, 1) := by decide +kernel
theorem dX6_foretoldPassing_25 : decode cX6_foretoldPassing 25 = .ok (.iaload, 1) := by decide +kernel
theorem dX6_foretoldPassing_26 : decode cX6_foretoldPassing 26 = .ok (.invokevirtual 47, 3) := by decide +kernel
theorem dX6_foretoldPassing_29 : decode cX6_foretoldPassing 29 = .ok (.goto 4, 3) := by decide +kernel
theorem dX6_foretoldPassing_32 : decode cX6_foretoldPassing 32 = .ok (.iload_n 1, 1) := by decide +kernel
theorem dX6_foretoldPassing_33 : decode cX6_foretoldPassing 33 = .ok (.ireturn, 1) := by decide +kernel
theorem dX6_passesAt_0 : decode cX6_passesAt 0 = .ok (.aload_n 0, 1) := by decide +kernel
theorem dX6_passesAt_1 : decode cX6_passesAt 1 = .ok (.iload_n 2, 1) := by decide +kernel
theorem dX6_passesAt_2 : decode cX6_passesAt 2 = .ok (.invokevirtual 43, 3) := by decide +kernel
theorem dX6_passesAt_5 : decode cX6_passesAt 5 = .ok (.ifCond .eq 30, 3) := by decide +kernel
theorem dX6_passesAt_8 : decode cX6_passesAt 8 = .ok (.aload_n 0, 1) := by decide +kernel
theorem dX6_passesAt_9 : decode cX6_passesAt 9 = .ok (.getfield 18, 3) := by decide +kernel
theorem dX6_passesAt_12 : decode cX6_passesAt 12 = .ok (.iload_n 1, 1) := by decide +kernel
theorem dX6_passesAt_13 : decode cX6_passesAt 13 = .ok (.iload_n 2, 1) := by decide +kernel
theorem dX6_passesAt_14 : decode cX6_passesAt 14 = .ok (.invokevirtual 53, 3) := by decide +kernel
theorem dX6_passesAt_17 : decode cX6_passesAt 17 = .ok (.aload_n 0, 1) := by decide +kernel
theorem dX6_passesAt_18 : decode cX6_passesAt 18 = .ok (.getfield 9, 3) := by decide +kernel
theorem dX6_passesAt_21 : decode cX6_passesAt 21 = .ok (.iload_n 2, 1) := by decide +kernel
theorem dX6_passesAt_22 : decode cX6_passesAt 22 = .ok (.iaload, 1) := by decide +kernel
theorem dX6_passesAt_23 : decode cX6_passesAt 23 = .ok (.aload_n 0, 1) := by decide +kernel
theorem dX6_passesAt_24 : decode cX6_passesAt 24 = .ok (.getfield 15, 3) := by decide +kernel
theorem dX6_passesAt_27 : decode cX6_passesAt 27 = .ok (.iload_n 2, 1) := by decide +kernel
theorem dX6_passesAt_28 : decode cX6_passesAt 28 = .ok (.iaload, 1) := by decide +kernel
theorem dX6_passesAt_29 : decode cX6_passesAt 29 = .ok (.invokestatic 32, 3) := by decide +kernel
theorem dX6_passesAt_32 : decode cX6_passesAt 32 = .ok (.ifCond .eq 7, 3) := by decide +kernel
theorem dX6_passesAt_35 : decode cX6_passesAt 35 = .ok (.iconst 1, 1) := by decide +kernel
theorem dX6_passesAt_36 : decode cX6_passesAt 36 = .ok (.goto 4, 3) := by decide +kernel
theorem dX6_passesAt_39 : decode cX6_passesAt 39 = .ok (.iconst 0, 1) := by decide +kernel
theorem dX6_passesAt_40 : decode cX6_passesAt 40 = .ok (.ireturn, 1) := by decide +kernel
theorem dX6_passes_0 : decode cX6_passes 0 = .ok (.iconst 0, 1) := by decide +kernel
theorem dX6_passes_1 : decode cX6_passes 1 = .ok (.istore_n 2, 1) := by decide +kernel
theorem dX6_passes_2 : decode cX6_passes 2 = .ok (.iload_n 2, 1) := by decide +kernel
theorem dX6_passes_3 : decode cX6_passes 3 = .ok (.iconst 4, 1) := by decide +kernel
theorem dX6_passes_4 : decode cX6_passes 4 = .ok (.if_icmp .ge 20, 3) := by decide +kernel
theorem dX6_passes_7 : decode cX6_passes 7 = .ok (.aload_n 0, 1) := by decide +kernel
theorem dX6_passes_8 : decode cX6_passes 8 = .ok (.iload_n 1, 1) := by decide +kernel
theorem dX6_passes_9 : decode cX6_passes 9 = .ok (.iload_n 2, 1) := by decide +kernel
theorem dX6_passes_10 : decode cX6_passes 10 = .ok (.invokevirtual 57, 3) := by decide +kernel
theorem dX6_passes_13 : decode cX6_passes 13 = .ok (.ifCond .ne 5, 3) := by decide +kernel
theorem dX6_passes_16 : decode cX6_passes 16 = .ok (.iconst 0, 1) := by decide +kernel
theorem dX6_passes_17 : decode cX6_passes 17 = .ok (.ireturn, 1) := by decide +kernel
theorem dX6_passes_18 : decode cX6_passes 18 = .ok (.iinc 2 1, 3) := by decide +kernel
theorem dX6_passes_21 : decode cX6_passes 21 = .ok (.goto (-19), 3) := by decide +kernel
theorem dX6_passes_24 : decode cX6_passes 24 = .ok (.iconst 1, 1) := by decide +kernel
theorem dX6_passes_25 : decode cX6_passes 25 = .ok (.ireturn, 1) := by decide +kernel
theorem dX6_answering_0 : decode cX6_answering 0 = .ok (.iconst 0, 1) := by decide +kernel
theorem dX6_answering_1 : decode cX6_answering 1 = .ok (.istore_n 1, 1) := by decide +kernel
theorem dX6_answering_2 : decode cX6_answering 2 = .ok (.iconst 0, 1) := by decide +kernel
theorem dX6_answering_3 : decode cX6_answering 3 = .ok (.istore_n 2, 1) := by decide +kernel
theorem dX6_answering_4 : decode cX6_answering 4 = .ok (.iload_n 2, 1) := by decide +kernel
theorem dX6_answering_5 : decode cX6_answering 5 = .ok (.aload_n 0, 1) := by decide +kernel
theorem dX6_answering_6 : decode cX6_answering 6 = .ok (.getfield 18, 3) := by decide +kernel
theorem dX6_answering_9 : decode cX6_answering 9 = .ok (.getfield 61, 3) := by decide +kernel
theorem dX6_answering_12 : decode cX6_answering 12 = .ok (.if_icmp .ge 25, 3) := by decide +kernel
theorem dX6_answering_15 : decode cX6_answering 15 = .ok (.iload_n 1, 1) := by decide +kernel
theorem dX6_answering_16 : decode cX6_answering 16 = .ok (.aload_n 0, 1) := by decide +kernel
theorem dX6_answering_17 : decode cX6_answering 17 = .ok (.iload_n 2, 1) := by decide +kernel
theorem dX6_answering_18 : decode cX6_answering 18 = .ok (.invokevirtual 64, 3) := by decide +kernel
theorem dX6_answering_21 : decode cX6_answering 21 = .ok (.ifCond .eq 7, 3) := by decide +kernel
theorem dX6_answering_24 : decode cX6_answering 24 = .ok (.iconst 1, 1) := by decide +kernel
theorem dX6_answering_25 : decode cX6_answering 25 = .ok (.goto 4, 3) := by decide +kernel
theorem dX6_answering_28 : decode cX6_answering 28 = .ok (.iconst 0, 1) := by decide +kernel
theorem dX6_answering_29 : decode cX6_answering 29 = .ok (.iadd, 1) := by decide +kernel
theorem dX6_answering_30 : decode cX6_answering 30 = .ok (.istore_n 1, 1) := by decide +kernel
theorem dX6_answering_31 : decode cX6_answering 31 = .ok (.iinc 2 1, 3) := by decide +kernel
theorem dX6_answering_34 : decode cX6_answering 34 = .ok (.goto (-30), 3) := by decide +kernel
theorem dX6_answering_37 : decode cX6_answering 37 = .ok (.iload_n 1, 1) := by decide +kernel
theorem dX6_answering_38 : decode cX6_answering 38 = .ok (.ireturn, 1) := by decide +kernel
theorem dX6_addedUp_0 : decode cX6_addedUp 0 = .ok (.iconst 0, 1) := by decide +kernel
theorem dX6_addedUp_1 : decode cX6_addedUp 1 = .ok (.istore_n 1, 1) := by decide +kernel
theorem dX6_addedUp_2 : decode cX6_addedUp 2 = .ok (.iconst 0, 1) := by decide +kernel
theorem dX6_addedUp_3 : decode cX6_addedUp 3 = .ok (.istore_n 2, 1) := by decide +kernel
theorem dX6_addedUp_4 : decode cX6_addedUp 4 = .ok (.iload_n 2, 1) := by decide +kernel
theorem dX6_addedUp_5 : decode cX6_addedUp 5 = .ok (.aload_n 0, 1) := by decide +kernel
theorem dX6_addedUp_6 : decode cX6_addedUp 6 = .ok (.getfield 18, 3) := by decide +kernel
theorem dX6_addedUp_9 : decode cX6_addedUp 9 = .ok (.getfield 61, 3) := by decide +kernel
theorem dX6_addedUp_12 : decode cX6_addedUp 12 = .ok (.if_icmp .ge 50, 3) := by decide +kernel
theorem dX6_addedUp_15 : decode cX6_addedUp 15 = .ok (.iload_n 1, 1) := by decide +kernel
theorem dX6_addedUp_16 : decode cX6_addedUp 16 = .ok (.aload_n 0, 1) := by decide +kernel
theorem dX6_addedUp_17 : decode cX6_addedUp 17 = .ok (.getfield 18, 3) := by decide +kernel
theorem dX6_addedUp_20 : decode cX6_addedUp 20 = .ok (.aload_n 0, 1) := by decide +kernel
theorem dX6_addedUp_21 : decode cX6_addedUp 21 = .ok (.getfield 26, 3) := by decide +kernel
theorem dX6_addedUp_24 : decode cX6_addedUp 24 = .ok (.invokevirtual 67, 3) := by decide +kernel
theorem dX6_addedUp_27 : decode cX6_addedUp 27 = .ok (.ifCond .eq 26, 3) := by decide +kernel
theorem dX6_addedUp_30 : decode cX6_addedUp 30 = .ok (.aload_n 0, 1) := by decide +kernel
theorem dX6_addedUp_31 : decode cX6_addedUp 31 = .ok (.iload_n 2, 1) := by decide +kernel
theorem dX6_addedUp_32 : decode cX6_addedUp 32 = .ok (.invokevirtual 64, 3) := by decide +kernel
theorem dX6_addedUp_35 : decode cX6_addedUp 35 = .ok (.ifCond .eq 18, 3) := by decide +kernel
theorem dX6_addedUp_38 : decode cX6_addedUp 38 = .ok (.aload_n 0, 1) := by decide +kernel
theorem dX6_addedUp_39 : decode cX6_addedUp 39 = .ok (.getfield 18, 3) := by decide +kernel
theorem dX6_addedUp_42 : decode cX6_addedUp 42 = .ok (.iload_n 2, 1) := by decide +kernel
theorem dX6_addedUp_43 : decode cX6_addedUp 43 = .ok (.aload_n 0, 1) := by decide +kernel
theorem dX6_addedUp_44 : decode cX6_addedUp 44 = .ok (.getfield 26, 3) := by decide +kernel
theorem dX6_addedUp_47 : decode cX6_addedUp 47 = .ok (.invokevirtual 53, 3) := by decide +kernel
theorem dX6_addedUp_50 : decode cX6_addedUp 50 = .ok (.goto 4, 3) := by decide +kernel
theorem dX6_addedUp_53 : decode cX6_addedUp 53 = .ok (.iconst 0, 1) := by decide +kernel
theorem dX6_addedUp_54 : decode cX6_addedUp 54 = .ok (.iadd, 1) := by decide +kernel
theorem dX6_addedUp_55 : decode cX6_addedUp 55 = .ok (.istore_n 1, 1) := by decide +kernel
theorem dX6_addedUp_56 : decode cX6_addedUp 56 = .ok (.iinc 2 1, 3) := by decide +kernel
theorem dX6_addedUp_59 : decode cX6_addedUp 59 = .ok (.goto (-55), 3) := by decide +kernel
theorem dX6_addedUp_62 : decode cX6_addedUp 62 = .ok (.iload_n 1, 1) := by decide +kernel
theorem dX6_addedUp_63 : decode cX6_addedUp 63 = .ok (.ireturn, 1) := by decide +kernel
theorem dX6_touched_0 : decode cX6_touched 0 = .ok (.aload_n 0, 1) := by decide +kernel
theorem dX6_touched_1 : decode cX6_touched 1 = .ok (.getfield 22, 3) := by decide +kernel
theorem dX6_touched_4 : decode cX6_touched 4 = .ok (.aload_n 0, 1) := by decide +kernel
theorem dX6_touched_5 : decode cX6_touched 5 = .ok (.getfield 36, 3) := by decide +kernel
theorem dX6_touched_8 : decode cX6_touched 8 = .ok (.ior, 1) := by decide +kernel
theorem dX6_touched_9 : decode cX6_touched 9 = .ok (.aload_n 0, 1) := by decide +kernel
theorem dX6_touched_10 : decode cX6_touched 10 = .ok (.getfield 26, 3) := by decide +kernel
theorem dX6_touched_13 : decode cX6_touched 13 = .ok (.invokestatic 39, 3) := by decide +kernel
theorem dX6_touched_16 : decode cX6_touched 16 = .ok (.ior, 1) := by decide +kernel
theorem dX6_touched_17 : decode cX6_touched 17 = .ok (.ireturn, 1) := by decide +kernel
theorem dX7_init_0 : decode cX7_init 0 = .ok (.aload_n 0, 1) := by decide +kernel
theorem dX7_init_1 : decode cX7_init 1 = .ok (.invokespecial 3, 3) := by decide +kernel
theorem dX7_init_4 : decode cX7_init 4 = .ok (.aload_n 0, 1) := by decide +kernel
theorem dX7_init_5 : decode cX7_init 5 = .ok (.bipush 24, 2) := by decide +kernel
theorem dX7_init_7 : decode cX7_init 7 = .ok (.newarray .int, 2) := by decide +kernel
theorem dX7_init_9 : decode cX7_init 9 = .ok (.putfield 9, 3) := by decide +kernel
theorem dX7_init_12 : decode cX7_init 12 = .ok (.aload_n 0, 1) := by decide +kernel
theorem dX7_init_13 : decode cX7_init 13 = .ok (.bipush 12, 2) := by decide +kernel
theorem dX7_init_15 : decode cX7_init 15 = .ok (.bipush 24, 2) := by decide +kernel
theorem dX7_init_17 : decode cX7_init 17 = .ok (.multianewarray 15 2, 4) := by decide +kernel
theorem dX7_init_21 : decode cX7_init 21 = .ok (.putfield 17, 3) := by decide +kernel
theorem dX7_init_24 : decode cX7_init 24 = .ok (.aload_n 0, 1) := by decide +kernel
theorem dX7_init_25 : decode cX7_init 25 = .ok (.bipush 12, 2) := by decide +kernel
theorem dX7_init_27 : decode cX7_init 27 = .ok (.newarray .int, 2) := by decide +kernel
theorem dX7_init_29 : decode cX7_init 29 = .ok (.putfield 20, 3) := by decide +kernel
theorem dX7_init_32 : decode cX7_init 32 = .ok (.aload_n 0, 1) := by decide +kernel
theorem dX7_init_33 : decode cX7_init 33 = .ok (.bipush 12, 2) := by decide +kernel
theorem dX7_init_35 : decode cX7_init 35 = .ok (.newarray .int, 2) := by decide +kernel
theorem dX7_init_37 : decode cX7_init 37 = .ok (.putfield 23, 3) := by decide +kernel
theorem dX7_init_40 : decode cX7_init 40 = .ok (.aload_n 0, 1) := by decide +kernel
theorem dX7_init_41 : decode cX7_init 41 = .ok (.bipush 12, 2) := by decide +kernel
theorem dX7_init_43 : decode cX7_init 43 = .ok (.newarray .int, 2) := by decide +kernel
theorem dX7_init_45 : decode cX7_init 45 = .ok (.putfield 26, 3) := by decide +kernel
theorem dX7_init_48 : decode cX7_init 48 = .ok (.aload_n 0, 1) := by decide +kernel
theorem dX7_init_49 : decode cX7_init 49 = .ok (.bipush 13, 2) := by decide +kernel
theorem dX7_init_51 : decode cX7_init 51 = .ok (.bipush 24, 2) := by decide +kernel
theorem dX7_init_53 : decode cX7_init 53 = .ok (.multianewarray 15 2, 4) := by decide +kernel
theorem dX7_init_57 : decode cX7_init 57 = .ok (.putfield 29, 3) := by decide +kernel
theorem dX7_init_60 : decode cX7_init 60 = .ok (.return_, 1) := by decide +kernel
theorem dX7_load_0 : decode cX7_load 0 = .ok (.aload_n 0, 1) := by decide +kernel
theorem dX7_load_1 : decode cX7_load 1 = .ok (.aload_n 1, 1) := by decide +kernel
theorem dX7_load_2 : decode cX7_load 2 = .ok (.invokevirtual 32, 3) := by decide +kernel
theorem dX7_load_5 : decode cX7_load 5 = .ok (.bipush 24, 2) := by decide +kernel
theorem dX7_load_7 : decode cX7_load 7 = .ok (.invokestatic 38, 3) := by decide +kernel
theorem dX7_load_10 : decode cX7_load 10 = .ok (.putfield 44, 3) := by decide +kernel
theorem dX7_load_13 : decode cX7_load 13 = .ok (.aload_n 0, 1) := by decide +kernel
theorem dX7_load_14 : decode cX7_load 14 = .ok (.aload_n 2, 1) := by decide +kernel
theorem dX7_load_15 : decode cX7_load 15 = .ok (.invokevirtual 32, 3) := by decide +kernel
theorem dX7_load_18 : decode cX7_load 18 = .ok (.bipush 12, 2) := by decide +kernel
theorem dX7_load_20 : decode cX7_load 20 = .ok (.invokestatic 38, 3) := by decide +kernel
theorem dX7_load_23 : decode cX7_load 23 = .ok (.putfield 48, 3) := by decide +kernel
theorem dX7_load_26 : decode cX7_load 26 = .ok (.iconst 0, 1) := by decide +kernel
theorem dX7_load_27 : decode cX7_load 27 = .ok (.istore_n 3, 1) := by decide +kernel
theorem dX7_load_28 : decode cX7_load 28 = .ok (.iload_n 3, 1) := by decide +kernel
theorem dX7_load_29 : decode cX7_load 29 = .ok (.aload_n 0, 1) := by decide +kernel
theorem dX7_load_30 : decode cX7_load 30 = .ok (.getfield 44, 3) := by decide +kernel
theorem dX7_load_33 : decode cX7_load 33 = .ok (.if_icmp .ge 48, 3) := by decide +kernel
theorem dX7_load_36 : decode cX7_load 36 = .ok (.aload_n 0, 1) := by decide +kernel
theorem dX7_load_37 : decode cX7_load 37 = .ok (.getfield 9, 3) := by decide +kernel
theorem dX7_load_40 : decode cX7_load 40 = .ok (.iload_n 3, 1) := by decide +kernel
theorem dX7_load_41 : decode cX7_load 41 = .ok (.aload_n 1, 1) := by decide +kernel
theorem dX7_load_42 : decode cX7_load 42 = .ok (.iload_n 3, 1) := by decide +kernel
theorem dX7_load_43 : decode cX7_load 43 = .ok (.invokevirtual 51, 3) := by decide +kernel
theorem dX7_load_46 : decode cX7_load 46 = .ok (.checkcast 55, 3) := by decide +kernel
theorem dX7_load_49 : decode cX7_load 49 = .ok (.getfield 57, 3) := by decide +kernel
theorem dX7_load_52 : decode cX7_load 52 = .ok (.iastore, 1) := by decide +kernel
theorem dX7_load_53 : decode cX7_load 53 = .ok (.aload_n 0, 1) := by decide +kernel
theorem dX7_load_54 : decode cX7_load 54 = .ok (.getfield 29, 3) := by decide +kernel
theorem dX7_load_57 : decode cX7_load 57 = .ok (.iconst 0, 1) := by decide +kernel
theorem dX7_load_58 : decode cX7_load 58 = .ok (.aaload, 1) := by decide +kernel
theorem dX7_load_59 : decode cX7_load 59 = .ok (.iload_n 3, 1) := by decide +kernel
theorem dX7_load_60 : decode cX7_load 60 = .ok (.aload_n 1, 1) := by decide +kernel
theorem dX7_load_61 : decode cX7_load 61 = .ok (.iload_n 3, 1) := by decide +kernel
theorem dX7_load_62 : decode cX7_load 62 = .ok (.invokevirtual 51, 3) := by decide +kernel
theorem dX7_load_65 : decode cX7_load 65 = .ok (.checkcast 55, 3) := by decide +kernel
theorem dX7_load_68 : decode cX7_load 68 = .ok (.getfield 60, 3) := by decide +kernel
theorem dX7_load_71 : decode cX7_load 71 = .ok (.invokevirtual 64, 3) := by decide +kernel
theorem dX7_load_74 : decode cX7_load 74 = .ok (.iastore, 1) := by decide +kernel
theorem dX7_load_75 : decode cX7_load 75 = .ok (.iinc 3 1, 3) := by decide +kernel
theorem dX7_load_78 : decode cX7_load 78 = .ok (.goto (-50), 3) := by decide +kernel
theorem dX7_load_81 : decode cX7_load 81 = .ok (.iconst 0, 1) := by decide +kernel
theorem dX7_load_82 : decode cX7_load 82 = .ok (.istore_n 3, 1) := by decide +kernel
theorem dX7_load_83 : decode cX7_load 83 = .ok (.iload_n 3, 1) := by decide +kernel
theorem dX7_load_84 : decode cX7_load 84 = .ok (.aload_n 0, 1) := by decide +kernel
theorem dX7_load_85 : decode cX7_load 85 = .ok (.getfield 48, 3) := by decide +kernel
theorem dX7_load_88 : decode cX7_load 88 = .ok (.if_icmp .ge 153, 3) := by decide +kernel
theorem dX7_load_91 : decode cX7_load 91 = .ok (.aload_n 2, 1) := by decide +kernel
theorem dX7_load_92 : decode cX7_load 92 = .ok (.iload_n 3, 1) := by decide +kernel
theorem dX7_load_93 : decode cX7_load 93 = .ok (.invokevirtual 51, 3) := by decide +kernel
theorem dX7_load_96 : decode cX7_load 96 = .ok (.checkcast 69, 3) := by decide +kernel
theorem dX7_load_99 : decode cX7_load 99 = .ok (.astore 4, 2) := by decide +kernel
theorem dX7_load_101 : decode cX7_load 101 = .ok (.aload_n 0, 1) := by decide +kernel
theorem dX7_load_102 : decode cX7_load 102 = .ok (.getfield 20, 3) := by decide +kernel
theorem dX7_load_105 : decode cX7_load 105 = .ok (.iload_n 3, 1) := by decide +kernel
theorem dX7_load_106 : decode cX7_load 106 = .ok (.aload 4, 2) := by decide +kernel
theorem dX7_load_108 : decode cX7_load 108 = .ok (.invokevirtual 71, 3) := by decide +kernel
theorem dX7_load_111 : decode cX7_load 111 = .ok (.iastore, 1) := by decide +kernel
theorem dX7_load_112 : decode cX7_load 112 = .ok (.aload_n 0, 1) := by decide +kernel
theorem dX7_load_113 : decode cX7_load 113 = .ok (.getfield 23, 3) := by decide +kernel
theorem dX7_load_116 : decode cX7_load 116 = .ok (.iload_n 3, 1) := by decide +kernel
theorem dX7_load_117 : decode cX7_load 117 = .ok (.aload 4, 2) := by decide +kernel
theorem dX7_load_119 : decode cX7_load 119 = .ok (.invokevirtual 74, 3) := by decide +kernel
theorem dX7_load_122 : decode cX7_load 122 = .ok (.aload 4, 2) := by decide +kernel
theorem dX7_load_124 : decode cX7_load 124 = .ok (.getfield 77, 3) := by decide +kernel
theorem dX7_load_127 : decode cX7_load 127 = .ok (.getfield 78, 3) := by decide +kernel
theorem dX7_load_130 : decode cX7_load 130 = .ok (.imul, 1) := by decide +kernel
theorem dX7_load_131 : decode cX7_load 131 = .ok (.iastore, 1) := by decide +kernel
theorem dX7_load_132 : decode cX7_load 132 = .ok (.aload_n 0, 1) := by decide +kernel
theorem dX7_load_133 : decode cX7_load 133 = .ok (.getfield 26, 3) := by decide +kernel
theorem dX7_load_136 : decode cX7_load 136 = .ok (.iload_n 3, 1) := by decide +kernel
theorem dX7_load_137 : decode cX7_load 137 = .ok (.aload_n 2, 1) := by decide +kernel
theorem dX7_load_138 : decode cX7_load 138 = .ok (.iload_n 3, 1) := by decide +kernel
theorem dX7_load_139 : decode cX7_load 139 = .ok (.invokestatic 81, 3) := by decide +kernel
theorem dX7_load_142 : decode cX7_load 142 = .ok (.iastore, 1) := by decide +kernel
theorem dX7_load_143 : decode cX7_load 143 = .ok (.iconst 0, 1) := by decide +kernel
theorem dX7_load_144 : decode cX7_load 144 = .ok (.istore 5, 2) := by decide +kernel
theorem dX7_load_146 : decode cX7_load 146 = .ok (.iload 5, 2) := by decide +kernel
theorem dX7_load_148 : decode cX7_load 148 = .ok (.aload_n 0, 1) := by decide +kernel
theorem dX7_load_149 : decode cX7_load 149 = .ok (.getfield 44, 3) := by decide +kernel
theorem dX7_load_152 : decode cX7_load 152 = .ok (.if_icmp .ge 83, 3) := by decide +kernel
theorem dX7_load_155 : decode cX7_load 155 = .ok (.aload_n 1, 1) := by decide +kernel
theorem dX7_load_156 : decode cX7_load 156 = .ok (.iload 5, 2) := by decide +kernel
theorem dX7_load_158 : decode cX7_load 158 = .ok (.invokevirtual 51, 3) := by decide +kernel
theorem dX7_load_161 : decode cX7_load 161 = .ok (.checkcast 55, 3) := by decide +kernel
theorem dX7_load_164 : decode cX7_load 164 = .ok (.astore 6, 2) := by decide +kernel
theorem dX7_load_166 : decode cX7_load 166 = .ok (.aload 4, 2) := by decide +kernel
theorem dX7_load_168 : decode cX7_load 168 = .ok (.getfield 77, 3) := by decide +kernel
theorem dX7_load_171 : decode cX7_load 171 = .ok (.aload 6, 2) := by decide +kernel
theorem dX7_load_173 : decode cX7_load 173 = .ok (.getfield 60, 3) := by decide +kernel
theorem dX7_load_176 : decode cX7_load 176 = .ok (.if_acmp .ne 17, 3) := by decide +kernel
theorem dX7_load_179 : decode cX7_load 179 = .ok (.aload 4, 2) := by decide +kernel
theorem dX7_load_181 : decode cX7_load 181 = .ok (.aload 6, 2) := by decide +kernel
theorem dX7_load_183 : decode cX7_load 183 = .ok (.invokevirtual 85, 3) := by decide +kernel
theorem dX7_load_186 : decode cX7_load 186 = .ok (.ifCond .eq 7, 3) := by decide +kernel
theorem dX7_load_189 : decode cX7_load 189 = .ok (.iconst 1, 1) := by decide +kernel
theorem dX7_load_190 : decode cX7_load 190 = .ok (.goto 4, 3) := by decide +kernel
theorem dX7_load_193 : decode cX7_load 193 = .ok (.iconst 0, 1) := by decide +kernel
theorem dX7_load_194 : decode cX7_load 194 = .ok (.istore 7, 2) := by decide +kernel
theorem dX7_load_196 : decode cX7_load 196 = .ok (.aload_n 0, 1) := by decide +kernel
theorem dX7_load_197 : decode cX7_load 197 = .ok (.getfield 17, 3) := by decide +kernel
theorem dX7_load_200 : decode cX7_load 200 = .ok (.iload_n 3, 1) := by decide +kernel
theorem dX7_load_201 : decode cX7_load 201 = .ok (.aaload, 1) := by decide +kernel
theorem dX7_load_202 : decode cX7_load 202 = .ok (.iload 5, 2) := by decide +kernel
theorem dX7_load_204 : decode cX7_load 204 = .ok (.iload 7, 2) := by decide +kernel
theorem dX7_load_206 : decode cX7_load 206 = .ok (.ifCond .eq 13, 3) := by decide +kernel
theorem dX7_load_209 : decode cX7_load 209 = .ok (.aload 4, 2) := by decide +kernel
theorem dX7_load_211 : decode cX7_load 211 = .ok (.aload 6, 2) := by decide +kernel
theorem dX7_load_213 : decode cX7_load 213 = .ok (.invokevirtual 89, 3) := by decide +kernel
theorem dX7_load_216 : decode cX7_load 216 = .ok (.goto 12, 3) := by decide +kernel
theorem dX7_load_219 : decode cX7_load 219 = .ok (.aload_n 0, 1) := by decide +kernel
theorem dX7_load_220 : decode cX7_load 220 = .ok (.getfield 29, 3) := by decide +kernel
theorem dX7_load_223 : decode cX7_load 223 = .ok (.iconst 0, 1) := by decide +kernel
theorem dX7_load_224 : decode cX7_load 224 = .ok (.aaload, 1) := by decide +kernel
theorem dX7_load_225 : decode cX7_load 225 = .ok (.iload 5, 2) := by decide +kernel
theorem dX7_load_227 : decode cX7_load 227 = .ok (.iaload, 1) := by decide +kernel
theorem dX7_load_228 : decode cX7_load 228 = .ok (.iastore, 1) := by decide +kernel
theorem dX7_load_229 : decode cX7_load 229 = .ok (.iinc 5 1, 3) := by decide +kernel
theorem dX7_load_232 : decode cX7_load 232 = .ok (.goto (-86), 3) := by decide +kernel
theorem dX7_load_235 : decode cX7_load 235 = .ok (.iinc 3 1, 3) := by decide +kernel
theorem dX7_load_238 : decode cX7_load 238 = .ok (.goto (-155), 3) := by decide +kernel
theorem dX7_load_241 : decode cX7_load 241 = .ok (.return_, 1) := by decide +kernel
theorem dX7_weigh_0 : decode cX7_weigh 0 = .ok (.aload_n 0, 1) := by decide +kernel
theorem dX7_weigh_1 : decode cX7_weigh 1 = .ok (.invokevirtual 93, 3) := by decide +kernel
theorem dX7_weigh_4 : decode cX7_weigh 4 = .ok (.lstore_n 2, 1) := by decide +kernel
theorem dX7_weigh_5 : decode cX7_weigh 5 = .ok (.iconst 0, 1) := by decide +kernel
theorem dX7_weigh_6 : decode cX7_weigh 6 = .ok (.istore 4, 2) := by decide +kernel
theorem dX7_weigh_8 : decode cX7_weigh 8 = .ok (.iload 4, 2) := by decide +kernel
theorem dX7_weigh_10 : decode cX7_weigh 10 = .ok (.aload_n 0, 1) := by decide +kernel
theorem dX7_weigh_11 : decode cX7_weigh 11 = .ok (.getfield 48, 3) := by decide +kernel
theorem dX7_weigh_14 : decode cX7_weigh 14 = .ok (.if_icmp .ge 50, 3) := by decide +kernel
theorem dX7_weigh_17 : decode cX7_weigh 17 = .ok (.lload_n 2, 1) := by decide +kernel
theorem dX7_weigh_18 : decode cX7_weigh 18 = .ok (.iload 4, 2) := by decide +kernel
theorem dX7_weigh_20 : decode cX7_weigh 20 = .ok (.iload_n 1, 1) := by decide +kernel
theorem dX7_weigh_21 : decode cX7_weigh 21 = .ok (.invokestatic 97, 3) := by decide +kernel
theorem dX7_weigh_24 : decode cX7_weigh 24 = .ok (.ifCond .eq 19, 3) := by decide +kernel
theorem dX7_weigh_27 : decode cX7_weigh 27 = .ok (.aload_n 0, 1) := by decide +kernel
theorem dX7_weigh_28 : decode cX7_weigh 28 = .ok (.iload 4, 2) := by decide +kernel
theorem dX7_weigh_30 : decode cX7_weigh 30 = .ok (.aload_n 0, 1) := by decide +kernel
theorem dX7_weigh_31 : decode cX7_weigh 31 = .ok (.getfield 29, 3) := by decide +kernel
theorem dX7_weigh_34 : decode cX7_weigh 34 = .ok (.iload 4, 2) := by decide +kernel
theorem dX7_weigh_36 : decode cX7_weigh 36 = .ok (.aaload, 1) := by decide +kernel
theorem dX7_weigh_37 : decode cX7_weigh 37 = .ok (.invokevirtual 101, 3) := by decide +kernel
theorem dX7_weigh_40 : decode cX7_weigh 40 = .ok (.goto 4, 3) := by decide +kernel
theorem dX7_weigh_43 : decode cX7_weigh 43 = .ok (.lconst 0, 1) := by decide +kernel
theorem dX7_weigh_44 : decode cX7_weigh 44 = .ok (.lsub, 1) := by decide +kernel
theorem dX7_weigh_45 : decode cX7_weigh 45 = .ok (.lstore_n 2, 1) := by decide +kernel
theorem dX7_weigh_46 : decode cX7_weigh 46 = .ok (.aload_n 0, 1) := by decide +kernel
theorem dX7_weigh_47 : decode cX7_weigh 47 = .ok (.iload 4, 2) := by decide +kernel
theorem dX7_weigh_49 : decode cX7_weigh 49 = .ok (.iload 4, 2) := by decide +kernel
theorem dX7_weigh_51 : decode cX7_weigh 51 = .ok (.iload_n 1, 1) := by decide +kernel
theorem dX7_weigh_52 : decode cX7_weigh 52 = .ok (.invokestatic 97, 3) := by decide +kernel
theorem dX7_weigh_55 : decode cX7_weigh 55 = .ok (.invokevirtual 105, 3) := by decide +kernel
theorem dX7_weigh_58 : decode cX7_weigh 58 = .ok (.iinc 4 1, 3) := by decide +kernel
theorem dX7_weigh_61 : decode cX7_weigh 61 = .ok (.goto (-53), 3) := by decide +kernel
theorem dX7_weigh_64 : decode cX7_weigh 64 = .ok (.lload_n 2, 1) := by decide +kernel
theorem dX7_weigh_65 : decode cX7_weigh 65 = .ok (.lreturn, 1) := by decide +kernel
theorem dX7_weighNothing_0 : decode cX7_weighNothing 0 = .ok (.lconst 0, 1) := by decide +kernel
theorem dX7_weighNothing_1 : decode cX7_weighNothing 1 = .ok (.lstore_n 1, 1) := by decide +kernel
theorem dX7_weighNothing_2 : decode cX7_weighNothing 2 = .ok (.iconst 0, 1) := by decide +kernel
theorem dX7_weighNothing_3 : decode cX7_weighNothing 3 = .ok (.istore_n 3, 1) := by decide +kernel
theorem dX7_weighNothing_4 : decode cX7_weighNothing 4 = .ok (.iload_n 3, 1) := by decide +kernel
theorem dX7_weighNothing_5 : decode cX7_weighNothing 5 = .ok (.aload_n 0, 1) := by decide +kernel
theorem dX7_weighNothing_6 : decode cX7_weighNothing 6 = .ok (.getfield 44, 3) := by decide +kernel
theorem dX7_weighNothing_9 : decode cX7_weighNothing 9 = .ok (.if_icmp .ge 29, 3) := by decide +kernel
theorem dX7_weighNothing_12 : decode cX7_weighNothing 12 = .ok (.lload_n 1, 1) := by decide +kernel
theorem dX7_weighNothing_13 : decode cX7_weighNothing 13 = .ok (.aload_n 0, 1) := by decide +kernel
theorem dX7_weighNothing_14 : decode cX7_weighNothing 14 = .ok (.getfield 9, 3) := by decide +kernel
theorem dX7_weighNothing_17 : decode cX7_weighNothing 17 = .ok (.iload_n 3, 1) := by decide +kernel
theorem dX7_weighNothing_18 : decode cX7_weighNothing 18 = .ok (.iaload, 1) := by decide +kernel
theorem dX7_weighNothing_19 : decode cX7_weighNothing 19 = .ok (.i2l, 1) := by decide +kernel
theorem dX7_weighNothing_20 : decode cX7_weighNothing 20 = .ok (.aload_n 0, 1) := by decide +kernel
theorem dX7_weighNothing_21 : decode cX7_weighNothing 21 = .ok (.getfield 29, 3) := by decide +kernel
theorem dX7_weighNothing_24 : decode cX7_weighNothing 24 = .ok (.iconst 0, 1) := by decide +kernel
theorem dX7_weighNothing_25 : decode cX7_weighNothing 25 = .ok (.aaload, 1) := by decide +kernel
theorem dX7_weighNothing_26 : decode cX7_weighNothing 26 = .ok (.iload_n 3, 1) := by decide +kernel
theorem dX7_weighNothing_27 : decode cX7_weighNothing 27 = .ok (.iaload, 1) := by decide +kernel
theorem dX7_weighNothing_28 : decode cX7_weighNothing 28 = .ok (.i2l, 1) := by decide +kernel
theorem dX7_weighNothing_29 : decode cX7_weighNothing 29 = .ok (.lmul, 1) := by decide +kernel
theorem dX7_weighNothing_30 : decode cX7_weighNothing 30 = .ok (.ladd, 1) := by decide +kernel
theorem dX7_weighNothing_31 : decode cX7_weighNothing 31 = .ok (.lstore_n 1, 1) := by decide +kernel
theorem dX7_weighNothing_32 : decode cX7_weighNothing 32 = .ok (.iinc 3 1, 3) := by decide +kernel
theorem dX7_weighNothing_35 : decode cX7_weighNothing 35 = .ok (.goto (-31), 3) := by decide +kernel
theorem dX7_weighNothing_38 : decode cX7_weighNothing 38 = .ok (.lload_n 1, 1) := by decide +kernel
theorem dX7_weighNothing_39 : decode cX7_weighNothing 39 = .ok (.lreturn, 1) := by decide +kernel
theorem dX7_savedBy_0 : decode cX7_savedBy 0 = .ok (.aload_n 0, 1) := by decide +kernel
theorem dX7_savedBy_1 : decode cX7_savedBy 1 = .ok (.getfield 23, 3) := by decide +kernel
theorem dX7_savedBy_4 : decode cX7_savedBy 4 = .ok (.iload_n 1, 1) := by decide +kernel
theorem dX7_savedBy_5 : decode cX7_savedBy 5 = .ok (.iaload, 1) := by decide +kernel
theorem dX7_savedBy_6 : decode cX7_savedBy 6 = .ok (.ineg, 1) := by decide +kernel
theorem dX7_savedBy_7 : decode cX7_savedBy 7 = .ok (.i2l, 1) := by decide +kernel
theorem dX7_savedBy_8 : decode cX7_savedBy 8 = .ok (.lstore_n 3, 1) := by decide +kernel
theorem dX7_savedBy_9 : decode cX7_savedBy 9 = .ok (.iconst 0, 1) := by decide +kernel
theorem dX7_savedBy_10 : decode cX7_savedBy 10 = .ok (.istore 5, 2) := by decide +kernel
theorem dX7_savedBy_12 : decode cX7_savedBy 12 = .ok (.iload 5, 2) := by decide +kernel
theorem dX7_savedBy_14 : decode cX7_savedBy 14 = .ok (.aload_n 0, 1) := by decide +kernel
theorem dX7_savedBy_15 : decode cX7_savedBy 15 = .ok (.getfield 44, 3) := by decide +kernel
theorem dX7_savedBy_18 : decode cX7_savedBy 18 = .ok (.if_icmp .ge 40, 3) := by decide +kernel
theorem dX7_savedBy_21 : decode cX7_savedBy 21 = .ok (.lload_n 3, 1) := by decide +kernel
theorem dX7_savedBy_22 : decode cX7_savedBy 22 = .ok (.aload_n 0, 1) := by decide +kernel
theorem dX7_savedBy_23 : decode cX7_savedBy 23 = .ok (.getfield 9, 3) := by decide +kernel
theorem dX7_savedBy_26 : decode cX7_savedBy 26 = .ok (.iload 5, 2) := by decide +kernel
theorem dX7_savedBy_28 : decode cX7_savedBy 28 = .ok (.iaload, 1) := by decide +kernel
theorem dX7_savedBy_29 : decode cX7_savedBy 29 = .ok (.i2l, 1) := by decide +kernel
theorem dX7_savedBy_30 : decode cX7_savedBy 30 = .ok (.iconst 0, 1) := by decide +kernel
theorem dX7_savedBy_31 : decode cX7_savedBy 31 = .ok (.aload_n 2, 1) := by decide +kernel
theorem dX7_savedBy_32 : decode cX7_savedBy 32 = .ok (.iload 5, 2) := by decide +kernel
theorem dX7_savedBy_34 : decode cX7_savedBy 34 = .ok (.iaload, 1) := by decide +kernel
theorem dX7_savedBy_35 : decode cX7_savedBy 35 = .ok (.aload_n 0, 1) := by decide +kernel
theorem dX7_savedBy_36 : decode cX7_savedBy 36 = .ok (.getfield 17, 3) := by decide +kernel
theorem dX7_savedBy_39 : decode cX7_savedBy 39 = .ok (.iload_n 1, 1) := by decide +kernel
theorem dX7_savedBy_40 : decode cX7_savedBy 40 = .ok (.aaload, 1) := by decide +kernel
theorem dX7_savedBy_41 : decode cX7_savedBy 41 = .ok (.iload 5, 2) := by decide +kernel
theorem dX7_savedBy_43 : decode cX7_savedBy 43 = .ok (.iaload, 1) := by decide +kernel
theorem dX7_savedBy_44 : decode cX7_savedBy 44 = .ok (.isub, 1) := by decide +kernel
theorem dX7_savedBy_45 : decode cX7_savedBy 45 = .ok (.invokestatic 109, 3) := by decide +kernel
theorem dX7_savedBy_48 : decode cX7_savedBy 48 = .ok (.i2l, 1) := by decide +kernel
theorem dX7_savedBy_49 : decode cX7_savedBy 49 = .ok (.lmul, 1) := by decide +kernel
theorem dX7_savedBy_50 : decode cX7_savedBy 50 = .ok (.ladd, 1) := by decide +kernel
theorem dX7_savedBy_51 : decode cX7_savedBy 51 = .ok (.lstore_n 3, 1) := by decide +kernel
theorem dX7_savedBy_52 : decode cX7_savedBy 52 = .ok (.iinc 5 1, 3) := by decide +kernel
theorem dX7_savedBy_55 : decode cX7_savedBy 55 = .ok (.goto (-43), 3) := by decide +kernel
theorem dX7_savedBy_58 : decode cX7_savedBy 58 = .ok (.lload_n 3, 1) := by decide +kernel
theorem dX7_savedBy_59 : decode cX7_savedBy 59 = .ok (.lreturn, 1) := by decide +kernel
theorem dX7_settle_0 : decode cX7_settle 0 = .ok (.iconst 0, 1) := by decide +kernel
theorem dX7_settle_1 : decode cX7_settle 1 = .ok (.istore_n 3, 1) := by decide +kernel
theorem dX7_settle_2 : decode cX7_settle 2 = .ok (.iload_n 3, 1) := by decide +kernel
theorem dX7_settle_3 : decode cX7_settle 3 = .ok (.aload_n 0, 1) := by decide +kernel
theorem dX7_settle_4 : decode cX7_settle 4 = .ok (.getfield 44, 3) := by decide +kernel
theorem dX7_settle_7 : decode cX7_settle 7 = .ok (.if_icmp .ge 53, 3) := by decide +kernel
theorem dX7_settle_10 : decode cX7_settle 10 = .ok (.aload_n 0, 1) := by decide +kernel
theorem dX7_settle_11 : decode cX7_settle 11 = .ok (.getfield 29, 3) := by decide +kernel
theorem dX7_settle_14 : decode cX7_settle 14 = .ok (.iload_n 1, 1) := by decide +kernel
theorem dX7_settle_15 : decode cX7_settle 15 = .ok (.iconst 1, 1) := by decide +kernel
theorem dX7_settle_16 : decode cX7_settle 16 = .ok (.iadd, 1) := by decide +kernel
theorem dX7_settle_17 : decode cX7_settle 17 = .ok (.aaload, 1) := by decide +kernel
theorem dX7_settle_18 : decode cX7_settle 18 = .ok (.iload_n 3, 1) := by decide +kernel
theorem dX7_settle_19 : decode cX7_settle 19 = .ok (.iload_n 2, 1) := by decide +kernel
theorem dX7_settle_20 : decode cX7_settle 20 = .ok (.ifCond .eq 25, 3) := by decide +kernel
theorem dX7_settle_23 : decode cX7_settle 23 = .ok (.aload_n 0, 1) := by decide +kernel
theorem dX7_settle_24 : decode cX7_settle 24 = .ok (.getfield 29, 3) := by decide +kernel
theorem dX7_settle_27 : decode cX7_settle 27 = .ok (.iload_n 1, 1) := by decide +kernel
theorem dX7_settle_28 : decode cX7_settle 28 = .ok (.aaload, 1) := by decide +kernel
theorem dX7_settle_29 : decode cX7_settle 29 = .ok (.iload_n 3, 1) := by decide +kernel
theorem dX7_settle_30 : decode cX7_settle 30 = .ok (.iaload, 1) := by decide +kernel
theorem dX7_settle_31 : decode cX7_settle 31 = .ok (.aload_n 0, 1) := by decide +kernel
theorem dX7_settle_32 : decode cX7_settle 32 = .ok (.getfield 17, 3) := by decide +kernel
theorem dX7_settle_35 : decode cX7_settle 35 = .ok (.iload_n 1, 1) := by decide +kernel
theorem dX7_settle_36 : decode cX7_settle 36 = .ok (.aaload, 1) := by decide +kernel
theorem dX7_settle_37 : decode cX7_settle 37 = .ok (.iload_n 3, 1) := by decide +kernel
theorem dX7_settle_38 : decode cX7_settle 38 = .ok (.iaload, 1) := by decide +kernel
theorem dX7_settle_39 : decode cX7_settle 39 = .ok (.invokestatic 38, 3) := by decide +kernel
theorem dX7_settle_42 : decode cX7_settle 42 = .ok (.goto 11, 3) := by decide +kernel
theorem dX7_settle_45 : decode cX7_settle 45 = .ok (.aload_n 0, 1) := by decide +kernel
theorem dX7_settle_46 : decode cX7_settle 46 = .ok (.getfield 29, 3) := by decide +kernel
theorem dX7_settle_49 : decode cX7_settle 49 = .ok (.iload_n 1, 1) := by decide +kernel
theorem dX7_settle_50 : decode cX7_settle 50 = .ok (.aaload, 1) := by decide +kernel
theorem dX7_settle_51 : decode cX7_settle 51 = .ok (.iload_n 3, 1) := by decide +kernel
theorem dX7_settle_52 : decode cX7_settle 52 = .ok (.iaload, 1) := by decide +kernel
theorem dX7_settle_53 : decode cX7_settle 53 = .ok (.iastore, 1) := by decide +kernel
theorem dX7_settle_54 : decode cX7_settle 54 = .ok (.iinc 3 1, 3) := by decide +kernel
theorem dX7_settle_57 : decode cX7_settle 57 = .ok (.goto (-55), 3) := by decide +kernel
theorem dX7_settle_60 : decode cX7_settle 60 = .ok (.return_, 1) := by decide +kernel
theorem dX7_fits_0 : decode cX7_fits 0 = .ok (.iload_n 1, 1) := by decide +kernel
theorem dX7_fits_1 : decode cX7_fits 1 = .ok (.iload_n 2, 1) := by decide +kernel
theorem dX7_fits_2 : decode cX7_fits 2 = .ok (.invokestatic 97, 3) := by decide +kernel
theorem dX7_fits_5 : decode cX7_fits 5 = .ok (.ifCond .ne 28, 3) := by decide +kernel
theorem dX7_fits_8 : decode cX7_fits 8 = .ok (.aload_n 0, 1) := by decide +kernel
theorem dX7_fits_9 : decode cX7_fits 9 = .ok (.getfield 20, 3) := by decide +kernel
theorem dX7_fits_12 : decode cX7_fits 12 = .ok (.iload_n 1, 1) := by decide +kernel
theorem dX7_fits_13 : decode cX7_fits 13 = .ok (.iaload, 1) := by decide +kernel
theorem dX7_fits_14 : decode cX7_fits 14 = .ok (.iload_n 3, 1) := by decide +kernel
theorem dX7_fits_15 : decode cX7_fits 15 = .ok (.if_icmp .gt 18, 3) := by decide +kernel
theorem dX7_fits_18 : decode cX7_fits 18 = .ok (.aload_n 0, 1) := by decide +kernel
theorem dX7_fits_19 : decode cX7_fits 19 = .ok (.getfield 26, 3) := by decide +kernel
theorem dX7_fits_22 : decode cX7_fits 22 = .ok (.iload_n 1, 1) := by decide +kernel
theorem dX7_fits_23 : decode cX7_fits 23 = .ok (.iaload, 1) := by decide +kernel
theorem dX7_fits_24 : decode cX7_fits 24 = .ok (.iload_n 2, 1) := by decide +kernel
theorem dX7_fits_25 : decode cX7_fits 25 = .ok (.iand, 1) := by decide +kernel
theorem dX7_fits_26 : decode cX7_fits 26 = .ok (.ifCond .ne 7, 3) := by decide +kernel
theorem dX7_fits_29 : decode cX7_fits 29 = .ok (.iconst 1, 1) := by decide +kernel
theorem dX7_fits_30 : decode cX7_fits 30 = .ok (.goto 4, 3) := by decide +kernel
theorem dX7_fits_33 : decode cX7_fits 33 = .ok (.iconst 0, 1) := by decide +kernel
theorem dX7_fits_34 : decode cX7_fits 34 = .ok (.ireturn, 1) := by decide +kernel
theorem dX7_cheapest_0 : decode cX7_cheapest 0 = .ok (.aload_n 0, 1) := by decide +kernel
theorem dX7_cheapest_1 : decode cX7_cheapest 1 = .ok (.iconst 0, 1) := by decide +kernel
theorem dX7_cheapest_2 : decode cX7_cheapest 2 = .ok (.putfield 112, 3) := by decide +kernel
theorem dX7_cheapest_5 : decode cX7_cheapest 5 = .ok (.aload_n 0, 1) := by decide +kernel
theorem dX7_cheapest_6 : decode cX7_cheapest 6 = .ok (.aload_n 0, 1) := by decide +kernel
theorem dX7_cheapest_7 : decode cX7_cheapest 7 = .ok (.invokevirtual 93, 3) := by decide +kernel
theorem dX7_cheapest_10 : decode cX7_cheapest 10 = .ok (.putfield 115, 3) := by decide +kernel
theorem dX7_cheapest_13 : decode cX7_cheapest 13 = .ok (.aload_n 0, 1) := by decide +kernel
theorem dX7_cheapest_14 : decode cX7_cheapest 14 = .ok (.iconst 0, 1) := by decide +kernel
theorem dX7_cheapest_15 : decode cX7_cheapest 15 = .ok (.iconst 0, 1) := by decide +kernel
theorem dX7_cheapest_16 : decode cX7_cheapest 16 = .ok (.aload_n 0, 1) := by decide +kernel
theorem dX7_cheapest_17 : decode cX7_cheapest 17 = .ok (.getfield 115, 3) := by decide +kernel
theorem dX7_cheapest_20 : decode cX7_cheapest 20 = .ok (.iload_n 1, 1) := by decide +kernel
theorem dX7_cheapest_21 : decode cX7_cheapest 21 = .ok (.invokevirtual 119, 3) := by decide +kernel
theorem dX7_cheapest_24 : decode cX7_cheapest 24 = .ok (.aload_n 0, 1) := by decide +kernel
theorem dX7_cheapest_25 : decode cX7_cheapest 25 = .ok (.getfield 112, 3) := by decide +kernel
theorem dX7_cheapest_28 : decode cX7_cheapest 28 = .ok (.ireturn, 1) := by decide +kernel
theorem dX7_explore_0 : decode cX7_explore 0 = .ok (.iload_n 1, 1) := by decide +kernel
theorem dX7_explore_1 : decode cX7_explore 1 = .ok (.aload_n 0, 1) := by decide +kernel
theorem dX7_explore_2 : decode cX7_explore 2 = .ok (.getfield 48, 3) := by decide +kernel
theorem dX7_explore_5 : decode cX7_explore 5 = .ok (.if_icmp .lt 10, 3) := by decide +kernel
theorem dX7_explore_8 : decode cX7_explore 8 = .ok (.aload_n 0, 1) := by decide +kernel
theorem dX7_explore_9 : decode cX7_explore 9 = .ok (.iload_n 2, 1) := by decide +kernel
theorem dX7_explore_10 : decode cX7_explore 10 = .ok (.lload_n 3, 1) := by decide +kernel
theorem dX7_explore_11 : decode cX7_explore 11 = .ok (.invokevirtual 123, 3) := by decide +kernel
theorem dX7_explore_14 : decode cX7_explore 14 = .ok (.return_, 1) := by decide +kernel
theorem dX7_explore_15 : decode cX7_explore 15 = .ok (.aload_n 0, 1) := by decide +kernel
theorem dX7_explore_16 : decode cX7_explore 16 = .ok (.iload_n 1, 1) := by decide +kernel
theorem dX7_explore_17 : decode cX7_explore 17 = .ok (.iload_n 2, 1) := by decide +kernel
theorem dX7_explore_18 : decode cX7_explore 18 = .ok (.iload 5, 2) := by decide +kernel
theorem dX7_explore_20 : decode cX7_explore 20 = .ok (.invokevirtual 127, 3) := by decide +kernel
theorem dX7_explore_23 : decode cX7_explore 23 = .ok (.ifCond .eq 17, 3) := by decide +kernel
theorem dX7_explore_26 : decode cX7_explore 26 = .ok (.aload_n 0, 1) := by decide +kernel
theorem dX7_explore_27 : decode cX7_explore 27 = .ok (.iload_n 1, 1) := by decide +kernel
theorem dX7_explore_28 : decode cX7_explore 28 = .ok (.aload_n 0, 1) := by decide +kernel
theorem dX7_explore_29 : decode cX7_explore 29 = .ok (.getfield 29, 3) := by decide +kernel
theorem dX7_explore_32 : decode cX7_explore 32 = .ok (.iload_n 1, 1) := by decide +kernel
theorem dX7_explore_33 : decode cX7_explore 33 = .ok (.aaload, 1) := by decide +kernel
theorem dX7_explore_34 : decode cX7_explore 34 = .ok (.invokevirtual 101, 3) := by decide +kernel
theorem dX7_explore_37 : decode cX7_explore 37 = .ok (.goto 4, 3) := by decide +kernel
theorem dX7_explore_40 : decode cX7_explore 40 = .ok (.lconst 0, 1) := by decide +kernel
theorem dX7_explore_41 : decode cX7_explore 41 = .ok (.lstore 6, 2) := by decide +kernel
theorem dX7_explore_43 : decode cX7_explore 43 = .ok (.lload 6, 2) := by decide +kernel
theorem dX7_explore_45 : decode cX7_explore 45 = .ok (.lconst 0, 1) := by decide +kernel
theorem dX7_explore_46 : decode cX7_explore 46 = .ok (.lcmp, 1) := by decide +kernel
theorem dX7_explore_47 : decode cX7_explore 47 = .ok (.ifCond .le 35, 3) := by decide +kernel
theorem dX7_explore_50 : decode cX7_explore 50 = .ok (.aload_n 0, 1) := by decide +kernel
theorem dX7_explore_51 : decode cX7_explore 51 = .ok (.iload_n 1, 1) := by decide +kernel
theorem dX7_explore_52 : decode cX7_explore 52 = .ok (.iconst 1, 1) := by decide +kernel
theorem dX7_explore_53 : decode cX7_explore 53 = .ok (.invokevirtual 105, 3) := by decide +kernel
theorem dX7_explore_56 : decode cX7_explore 56 = .ok (.aload_n 0, 1) := by decide +kernel
theorem dX7_explore_57 : decode cX7_explore 57 = .ok (.iload_n 1, 1) := by decide +kernel
theorem dX7_explore_58 : decode cX7_explore 58 = .ok (.iconst 1, 1) := by decide +kernel
theorem dX7_explore_59 : decode cX7_explore 59 = .ok (.iadd, 1) := by decide +kernel
theorem dX7_explore_60 : decode cX7_explore 60 = .ok (.iload_n 2, 1) := by decide +kernel
theorem dX7_explore_61 : decode cX7_explore 61 = .ok (.iload_n 1, 1) := by decide +kernel
theorem dX7_explore_62 : decode cX7_explore 62 = .ok (.invokestatic 131, 3) := by decide +kernel
theorem dX7_explore_65 : decode cX7_explore 65 = .ok (.ior, 1) := by decide +kernel
theorem dX7_explore_66 : decode cX7_explore 66 = .ok (.lload_n 3, 1) := by decide +kernel
theorem dX7_explore_67 : decode cX7_explore 67 = .ok (.lload 6, 2) := by decide +kernel
theorem dX7_explore_69 : decode cX7_explore 69 = .ok (.lsub, 1) := by decide +kernel
theorem dX7_explore_70 : decode cX7_explore 70 = .ok (.iload 5, 2) := by decide +kernel
theorem dX7_explore_72 : decode cX7_explore 72 = .ok (.aload_n 0, 1) := by decide +kernel
theorem dX7_explore_73 : decode cX7_explore 73 = .ok (.getfield 20, 3) := by decide +kernel
theorem dX7_explore_76 : decode cX7_explore 76 = .ok (.iload_n 1, 1) := by decide +kernel
theorem dX7_explore_77 : decode cX7_explore 77 = .ok (.iaload, 1) := by decide +kernel
theorem dX7_explore_78 : decode cX7_explore 78 = .ok (.isub, 1) := by decide +kernel
theorem dX7_explore_79 : decode cX7_explore 79 = .ok (.invokevirtual 119, 3) := by decide +kernel
theorem dX7_explore_82 : decode cX7_explore 82 = .ok (.aload_n 0, 1) := by decide +kernel
theorem dX7_explore_83 : decode cX7_explore 83 = .ok (.iload_n 1, 1) := by decide +kernel
theorem dX7_explore_84 : decode cX7_explore 84 = .ok (.iconst 0, 1) := by decide +kernel
theorem dX7_explore_85 : decode cX7_explore 85 = .ok (.invokevirtual 105, 3) := by decide +kernel
theorem dX7_explore_88 : decode cX7_explore 88 = .ok (.aload_n 0, 1) := by decide +kernel
theorem dX7_explore_89 : decode cX7_explore 89 = .ok (.iload_n 1, 1) := by decide +kernel
theorem dX7_explore_90 : decode cX7_explore 90 = .ok (.iconst 1, 1) := by decide +kernel
theorem dX7_explore_91 : decode cX7_explore 91 = .ok (.iadd, 1) := by decide +kernel
theorem dX7_explore_92 : decode cX7_explore 92 = .ok (.iload_n 2, 1) := by decide +kernel
theorem dX7_explore_93 : decode cX7_explore 93 = .ok (.lload_n 3, 1) := by decide +kernel
theorem dX7_explore_94 : decode cX7_explore 94 = .ok (.iload 5, 2) := by decide +kernel
theorem dX7_explore_96 : decode cX7_explore 96 = .ok (.invokevirtual 119, 3) := by decide +kernel
theorem dX7_explore_99 : decode cX7_explore 99 = .ok (.return_, 1) := by decide +kernel
theorem dX7_keepIfBetter_0 : decode cX7_keepIfBetter 0 = .ok (.iload_n 1, 1) := by decide +kernel
theorem dX7_keepIfBetter_1 : decode cX7_keepIfBetter 1 = .ok (.invokestatic 135, 3) := by decide +kernel
theorem dX7_keepIfBetter_4 : decode cX7_keepIfBetter 4 = .ok (.aload_n 0, 1) := by decide +kernel
theorem dX7_keepIfBetter_5 : decode cX7_keepIfBetter 5 = .ok (.getfield 112, 3) := by decide +kernel
theorem dX7_keepIfBetter_8 : decode cX7_keepIfBetter 8 = .ok (.invokestatic 135, 3) := by decide +kernel
theorem dX7_keepIfBetter_11 : decode cX7_keepIfBetter 11 = .ok (.if_icmp .ge 7, 3) := by decide +kernel
theorem dX7_keepIfBetter_14 : decode cX7_keepIfBetter 14 = .ok (.iconst 1, 1) := by decide +kernel
theorem dX7_keepIfBetter_15 : decode cX7_keepIfBetter 15 = .ok (.goto 4, 3) := by decide +kernel
theorem dX7_keepIfBetter_18 : decode cX7_keepIfBetter 18 = .ok (.iconst 0, 1) := by decide +kernel
theorem dX7_keepIfBetter_19 : decode cX7_keepIfBetter 19 = .ok (.istore 4, 2) := by decide +kernel
theorem dX7_keepIfBetter_21 : decode cX7_keepIfBetter 21 = .ok (.lload_n 2, 1) := by decide +kernel
theorem dX7_keepIfBetter_22 : decode cX7_keepIfBetter 22 = .ok (.aload_n 0, 1) := by decide +kernel
theorem dX7_keepIfBetter_23 : decode cX7_keepIfBetter 23 = .ok (.getfield 115, 3) := by decide +kernel
theorem dX7_keepIfBetter_26 : decode cX7_keepIfBetter 26 = .ok (.lcmp, 1) := by decide +kernel
theorem dX7_keepIfBetter_27 : decode cX7_keepIfBetter 27 = .ok (.ifCond .lt 17, 3) := by decide +kernel
theorem dX7_keepIfBetter_30 : decode cX7_keepIfBetter 30 = .ok (.lload_n 2, 1) := by decide +kernel
theorem dX7_keepIfBetter_31 : decode cX7_keepIfBetter 31 = .ok (.aload_n 0, 1) := by decide +kernel
theorem dX7_keepIfBetter_32 : decode cX7_keepIfBetter 32 = .ok (.getfield 115, 3) := by decide +kernel
theorem dX7_keepIfBetter_35 : decode cX7_keepIfBetter 35 = .ok (.lcmp, 1) := by decide +kernel
theorem dX7_keepIfBetter_36 : decode cX7_keepIfBetter 36 = .ok (.ifCond .ne 18, 3) := by decide +kernel
theorem dX7_keepIfBetter_39 : decode cX7_keepIfBetter 39 = .ok (.iload 4, 2) := by decide +kernel
theorem dX7_keepIfBetter_41 : decode cX7_keepIfBetter 41 = .ok (.ifCond .eq 13, 3) := by decide +kernel
theorem dX7_keepIfBetter_44 : decode cX7_keepIfBetter 44 = .ok (.aload_n 0, 1) := by decide +kernel
theorem dX7_keepIfBetter_45 : decode cX7_keepIfBetter 45 = .ok (.iload_n 1, 1) := by decide +kernel
theorem dX7_keepIfBetter_46 : decode cX7_keepIfBetter 46 = .ok (.putfield 112, 3) := by decide +kernel
theorem dX7_keepIfBetter_49 : decode cX7_keepIfBetter 49 = .ok (.aload_n 0, 1) := by decide +kernel
theorem dX7_keepIfBetter_50 : decode cX7_keepIfBetter 50 = .ok (.lload_n 2, 1) := by decide +kernel
theorem dX7_keepIfBetter_51 : decode cX7_keepIfBetter 51 = .ok (.putfield 115, 3) := by decide +kernel
theorem dX7_keepIfBetter_54 : decode cX7_keepIfBetter 54 = .ok (.return_, 1) := by decide +kernel
theorem dX7_gathered_0 : decode cX7_gathered 0 = .ok (.iconst 0, 1) := by decide +kernel
theorem dX7_gathered_1 : decode cX7_gathered 1 = .ok (.istore_n 2, 1) := by decide +kernel
theorem dX7_gathered_2 : decode cX7_gathered 2 = .ok (.iload_n 1, 1) := by decide +kernel
theorem dX7_gathered_3 : decode cX7_gathered 3 = .ok (.istore_n 3, 1) := by decide +kernel
theorem dX7_gathered_4 : decode cX7_gathered 4 = .ok (.iconst 0, 1) := by decide +kernel
theorem dX7_gathered_5 : decode cX7_gathered 5 = .ok (.istore 4, 2) := by decide +kernel
theorem dX7_gathered_7 : decode cX7_gathered 7 = .ok (.iload 4, 2) := by decide +kernel
theorem dX7_gathered_9 : decode cX7_gathered 9 = .ok (.aload_n 0, 1) := by decide +kernel
theorem dX7_gathered_10 : decode cX7_gathered 10 = .ok (.getfield 48, 3) := by decide +kernel
theorem dX7_gathered_13 : decode cX7_gathered 13 = .ok (.if_icmp .ge 50, 3) := by decide +kernel
theorem dX7_gathered_16 : decode cX7_gathered 16 = .ok (.aload_n 0, 1) := by decide +kernel
theorem dX7_gathered_17 : decode cX7_gathered 17 = .ok (.iload_n 2, 1) := by decide +kernel
theorem dX7_gathered_18 : decode cX7_gathered 18 = .ok (.iload_n 3, 1) := by decide +kernel
theorem dX7_gathered_19 : decode cX7_gathered 19 = .ok (.invokevirtual 140, 3) := by decide +kernel
theorem dX7_gathered_22 : decode cX7_gathered 22 = .ok (.istore 5, 2) := by decide +kernel
theorem dX7_gathered_24 : decode cX7_gathered 24 = .ok (.iload 5, 2) := by decide +kernel
theorem dX7_gathered_26 : decode cX7_gathered 26 = .ok (.iconst (-1), 1) := by decide +kernel
theorem dX7_gathered_27 : decode cX7_gathered 27 = .ok (.if_icmp .ne 6, 3) := by decide +kernel
theorem dX7_gathered_30 : decode cX7_gathered 30 = .ok (.goto 33, 3) := by decide +kernel
theorem dX7_gathered_33 : decode cX7_gathered 33 = .ok (.iload_n 2, 1) := by decide +kernel
theorem dX7_gathered_34 : decode cX7_gathered 34 = .ok (.iload 5, 2) := by decide +kernel
theorem dX7_gathered_36 : decode cX7_gathered 36 = .ok (.invokestatic 131, 3) := by decide +kernel
theorem dX7_gathered_39 : decode cX7_gathered 39 = .ok (.ior, 1) := by decide +kernel
theorem dX7_gathered_40 : decode cX7_gathered 40 = .ok (.istore_n 2, 1) := by decide +kernel
theorem dX7_gathered_41 : decode cX7_gathered 41 = .ok (.iload_n 3, 1) := by decide +kernel
theorem dX7_gathered_42 : decode cX7_gathered 42 = .ok (.aload_n 0, 1) := by decide +kernel
theorem dX7_gathered_43 : decode cX7_gathered 43 = .ok (.getfield 20, 3) := by decide +kernel
theorem dX7_gathered_46 : decode cX7_gathered 46 = .ok (.iload 5, 2) := by decide +kernel
theorem dX7_gathered_48 : decode cX7_gathered 48 = .ok (.iaload, 1) := by decide +kernel
theorem dX7_gathered_49 : decode cX7_gathered 49 = .ok (.isub, 1) := by decide +kernel
theorem dX7_gathered_50 : decode cX7_gathered 50 = .ok (.istore_n 3, 1) := by decide +kernel
theorem dX7_gathered_51 : decode cX7_gathered 51 = .ok (.aload_n 0, 1) := by decide +kernel
theorem dX7_gathered_52 : decode cX7_gathered 52 = .ok (.iload 5, 2) := by decide +kernel
theorem dX7_gathered_54 : decode cX7_gathered 54 = .ok (.invokevirtual 143, 3) := by decide +kernel
theorem dX7_gathered_57 : decode cX7_gathered 57 = .ok (.iinc 4 1, 3) := by decide +kernel
theorem dX7_gathered_60 : decode cX7_gathered 60 = .ok (.goto (-53), 3) := by decide +kernel
theorem dX7_gathered_63 : decode cX7_gathered 63 = .ok (.iload_n 2, 1) := by decide +kernel
theorem dX7_gathered_64 : decode cX7_gathered 64 = .ok (.ireturn, 1) := by decide +kernel
theorem dX7_mostSaving_0 : decode cX7_mostSaving 0 = .ok (.iconst (-1), 1) := by decide +kernel
theorem dX7_mostSaving_1 : decode cX7_mostSaving 1 = .ok (.istore_n 3, 1) := by decide +kernel
theorem dX7_mostSaving_2 : decode cX7_mostSaving 2 = .ok (.lconst 0, 1) := by decide +kernel
theorem dX7_mostSaving_3 : decode cX7_mostSaving 3 = .ok (.lstore 4, 2) := by decide +kernel
theorem dX7_mostSaving_5 : decode cX7_mostSaving 5 = .ok (.iconst 0, 1) := by decide +kernel
theorem dX7_mostSaving_6 : decode cX7_mostSaving 6 = .ok (.istore 6, 2) := by decide +kernel
theorem dX7_mostSaving_8 : decode cX7_mostSaving 8 = .ok (.iload 6, 2) := by decide +kernel
theorem dX7_mostSaving_10 : decode cX7_mostSaving 10 = .ok (.aload_n 0, 1) := by decide +kernel
theorem dX7_mostSaving_11 : decode cX7_mostSaving 11 = .ok (.getfield 48, 3) := by decide +kernel
theorem dX7_mostSaving_14 : decode cX7_mostSaving 14 = .ok (.if_icmp .ge 94, 3) := by decide +kernel
theorem dX7_mostSaving_17 : decode cX7_mostSaving 17 = .ok (.aload_n 0, 1) := by decide +kernel
theorem dX7_mostSaving_18 : decode cX7_mostSaving 18 = .ok (.iload 6, 2) := by decide +kernel
theorem dX7_mostSaving_20 : decode cX7_mostSaving 20 = .ok (.iload_n 1, 1) := by decide +kernel
theorem dX7_mostSaving_21 : decode cX7_mostSaving 21 = .ok (.iload_n 2, 1) := by decide +kernel
theorem dX7_mostSaving_22 : decode cX7_mostSaving 22 = .ok (.invokevirtual 127, 3) := by decide +kernel
theorem dX7_mostSaving_25 : decode cX7_mostSaving 25 = .ok (.ifCond .eq 18, 3) := by decide +kernel
theorem dX7_mostSaving_28 : decode cX7_mostSaving 28 = .ok (.aload_n 0, 1) := by decide +kernel
theorem dX7_mostSaving_29 : decode cX7_mostSaving 29 = .ok (.iload 6, 2) := by decide +kernel
theorem dX7_mostSaving_31 : decode cX7_mostSaving 31 = .ok (.aload_n 0, 1) := by decide +kernel
theorem dX7_mostSaving_32 : decode cX7_mostSaving 32 = .ok (.getfield 29, 3) := by decide +kernel
theorem dX7_mostSaving_35 : decode cX7_mostSaving 35 = .ok (.iconst 0, 1) := by decide +kernel
theorem dX7_mostSaving_36 : decode cX7_mostSaving 36 = .ok (.aaload, 1) := by decide +kernel
theorem dX7_mostSaving_37 : decode cX7_mostSaving 37 = .ok (.invokevirtual 101, 3) := by decide +kernel
theorem dX7_mostSaving_40 : decode cX7_mostSaving 40 = .ok (.goto 4, 3) := by decide +kernel
theorem dX7_mostSaving_43 : decode cX7_mostSaving 43 = .ok (.lconst 0, 1) := by decide +kernel
theorem dX7_mostSaving_44 : decode cX7_mostSaving 44 = .ok (.lstore 7, 2) := by decide +kernel
theorem dX7_mostSaving_46 : decode cX7_mostSaving 46 = .ok (.iload_n 3, 1) := by decide +kernel
theorem dX7_mostSaving_47 : decode cX7_mostSaving 47 = .ok (.iconst (-1), 1) := by decide +kernel
theorem dX7_mostSaving_48 : decode cX7_mostSaving 48 = .ok (.if_icmp .eq 31, 3) := by decide +kernel
theorem dX7_mostSaving_51 : decode cX7_mostSaving 51 = .ok (.lload 7, 2) := by decide +kernel
theorem dX7_mostSaving_53 : decode cX7_mostSaving 53 = .ok (.lload 4, 2) := by decide +kernel
theorem dX7_mostSaving_55 : decode cX7_mostSaving 55 = .ok (.lcmp, 1) := by decide +kernel
theorem dX7_mostSaving_56 : decode cX7_mostSaving 56 = .ok (.ifCond .ne 23, 3) := by decide +kernel
theorem dX7_mostSaving_59 : decode cX7_mostSaving 59 = .ok (.aload_n 0, 1) := by decide +kernel
theorem dX7_mostSaving_60 : decode cX7_mostSaving 60 = .ok (.getfield 20, 3) := by decide +kernel
theorem dX7_mostSaving_63 : decode cX7_mostSaving 63 = .ok (.iload 6, 2) := by decide +kernel
theorem dX7_mostSaving_65 : decode cX7_mostSaving 65 = .ok (.iaload, 1) := by decide +kernel
theorem dX7_mostSaving_66 : decode cX7_mostSaving 66 = .ok (.aload_n 0, 1) := by decide +kernel
theorem dX7_mostSaving_67 : decode cX7_mostSaving 67 = .ok (.getfield 20, 3) := by decide +kernel
theorem dX7_mostSaving_70 : decode cX7_mostSaving 70 = .ok (.iload_n 3, 1) := by decide +kernel
theorem dX7_mostSaving_71 : decode cX7_mostSaving 71 = .ok (.iaload, 1) := by decide +kernel
theorem dX7_mostSaving_72 : decode cX7_mostSaving 72 = .ok (.if_icmp .ge 7, 3) := by decide +kernel
theorem dX7_mostSaving_75 : decode cX7_mostSaving 75 = .ok (.iconst 1, 1) := by decide +kernel
theorem dX7_mostSaving_76 : decode cX7_mostSaving 76 = .ok (.goto 4, 3) := by decide +kernel
theorem dX7_mostSaving_79 : decode cX7_mostSaving 79 = .ok (.iconst 0, 1) := by decide +kernel
theorem dX7_mostSaving_80 : decode cX7_mostSaving 80 = .ok (.istore 9, 2) := by decide +kernel
theorem dX7_mostSaving_82 : decode cX7_mostSaving 82 = .ok (.lload 7, 2) := by decide +kernel
theorem dX7_mostSaving_84 : decode cX7_mostSaving 84 = .ok (.lload 4, 2) := by decide +kernel
theorem dX7_mostSaving_86 : decode cX7_mostSaving 86 = .ok (.lcmp, 1) := by decide +kernel
theorem dX7_mostSaving_87 : decode cX7_mostSaving 87 = .ok (.ifCond .gt 8, 3) := by decide +kernel
theorem dX7_mostSaving_90 : decode cX7_mostSaving 90 = .ok (.iload 9, 2) := by decide +kernel
theorem dX7_mostSaving_92 : decode cX7_mostSaving 92 = .ok (.ifCond .eq 10, 3) := by decide +kernel
theorem dX7_mostSaving_95 : decode cX7_mostSaving 95 = .ok (.iload 6, 2) := by decide +kernel
theorem dX7_mostSaving_97 : decode cX7_mostSaving 97 = .ok (.istore_n 3, 1) := by decide +kernel
theorem dX7_mostSaving_98 : decode cX7_mostSaving 98 = .ok (.lload 7, 2) := by decide +kernel
theorem dX7_mostSaving_100 : decode cX7_mostSaving 100 = .ok (.lstore 4, 2) := by decide +kernel
theorem dX7_mostSaving_102 : decode cX7_mostSaving 102 = .ok (.iinc 6 1, 3) := by decide +kernel
theorem dX7_mostSaving_105 : decode cX7_mostSaving 105 = .ok (.goto (-97), 3) := by decide +kernel
theorem dX7_mostSaving_108 : decode cX7_mostSaving 108 = .ok (.iload_n 3, 1) := by decide +kernel
theorem dX7_mostSaving_109 : decode cX7_mostSaving 109 = .ok (.ireturn, 1) := by decide +kernel
theorem dX7_lower_0 : decode cX7_lower 0 = .ok (.iconst 0, 1) := by decide +kernel
theorem dX7_lower_1 : decode cX7_lower 1 = .ok (.istore_n 2, 1) := by decide +kernel
theorem dX7_lower_2 : decode cX7_lower 2 = .ok (.iload_n 2, 1) := by decide +kernel
theorem dX7_lower_3 : decode cX7_lower 3 = .ok (.aload_n 0, 1) := by decide +kernel
theorem dX7_lower_4 : decode cX7_lower 4 = .ok (.getfield 44, 3) := by decide +kernel
theorem dX7_lower_7 : decode cX7_lower 7 = .ok (.if_icmp .ge 36, 3) := by decide +kernel
theorem dX7_lower_10 : decode cX7_lower 10 = .ok (.aload_n 0, 1) := by decide +kernel
theorem dX7_lower_11 : decode cX7_lower 11 = .ok (.getfield 29, 3) := by decide +kernel
theorem dX7_lower_14 : decode cX7_lower 14 = .ok (.iconst 0, 1) := by decide +kernel
theorem dX7_lower_15 : decode cX7_lower 15 = .ok (.aaload, 1) := by decide +kernel
theorem dX7_lower_16 : decode cX7_lower 16 = .ok (.iload_n 2, 1) := by decide +kernel
theorem dX7_lower_17 : decode cX7_lower 17 = .ok (.aload_n 0, 1) := by decide +kernel
theorem dX7_lower_18 : decode cX7_lower 18 = .ok (.getfield 29, 3) := by decide +kernel
theorem dX7_lower_21 : decode cX7_lower 21 = .ok (.iconst 0, 1) := by decide +kernel
theorem dX7_lower_22 : decode cX7_lower 22 = .ok (.aaload, 1) := by decide +kernel
theorem dX7_lower_23 : decode cX7_lower 23 = .ok (.iload_n 2, 1) := by decide +kernel
theorem dX7_lower_24 : decode cX7_lower 24 = .ok (.iaload, 1) := by decide +kernel
theorem dX7_lower_25 : decode cX7_lower 25 = .ok (.aload_n 0, 1) := by decide +kernel
theorem dX7_lower_26 : decode cX7_lower 26 = .ok (.getfield 17, 3) := by decide +kernel
theorem dX7_lower_29 : decode cX7_lower 29 = .ok (.iload_n 1, 1) := by decide +kernel
theorem dX7_lower_30 : decode cX7_lower 30 = .ok (.aaload, 1) := by decide +kernel
theorem dX7_lower_31 : decode cX7_lower 31 = .ok (.iload_n 2, 1) := by decide +kernel
theorem dX7_lower_32 : decode cX7_lower 32 = .ok (.iaload, 1) := by decide +kernel
theorem dX7_lower_33 : decode cX7_lower 33 = .ok (.invokestatic 38, 3) := by decide +kernel
theorem dX7_lower_36 : decode cX7_lower 36 = .ok (.iastore, 1) := by decide +kernel
theorem dX7_lower_37 : decode cX7_lower 37 = .ok (.iinc 2 1, 3) := by decide +kernel
theorem dX7_lower_40 : decode cX7_lower 40 = .ok (.goto (-38), 3) := by decide +kernel
theorem dX7_lower_43 : decode cX7_lower 43 = .ok (.return_, 1) := by decide +kernel
theorem dX8_init_0 : decode cX8_init 0 = .ok (.aload_n 0, 1) := by decide +kernel
theorem dX8_init_1 : decode cX8_init 1 = .ok (.iconst 3, 1) := by decide +kernel
theorem dX8_init_2 : decode cX8_init 2 = .ok (.aload_n 1, 1) := by decide +kernel
theorem dX8_init_3 : decode cX8_init 3 = .ok (.invokespecial 3, 3) := by decide +kernel
theorem dX8_init_6 : decode cX8_init 6 = .ok (.aload_n 0, 1) := by decide +kernel
theorem dX8_init_7 : decode cX8_init 7 = .ok (.iload_n 2, 1) := by decide +kernel
theorem dX8_init_8 : decode cX8_init 8 = .ok (.putfield 9, 3) := by decide +kernel
theorem dX8_init_11 : decode cX8_init 11 = .ok (.aload_n 0, 1) := by decide +kernel
theorem dX8_init_12 : decode cX8_init 12 = .ok (.iload_n 3, 1) := by decide +kernel
theorem dX8_init_13 : decode cX8_init 13 = .ok (.putfield 15, 3) := by decide +kernel
theorem dX8_init_16 : decode cX8_init 16 = .ok (.return_, 1) := by decide +kernel
theorem dX8_helps_0 : decode cX8_helps 0 = .ok (.aload_n 1, 1) := by decide +kernel
theorem dX8_helps_1 : decode cX8_helps 1 = .ok (.getfield 18, 3) := by decide +kernel
theorem dX8_helps_4 : decode cX8_helps 4 = .ok (.ifCond .ne 32, 3) := by decide +kernel
theorem dX8_helps_7 : decode cX8_helps 7 = .ok (.aload_n 1, 1) := by decide +kernel
theorem dX8_helps_8 : decode cX8_helps 8 = .ok (.getfield 23, 3) := by decide +kernel
theorem dX8_helps_11 : decode cX8_helps 11 = .ok (.aload_n 0, 1) := by decide +kernel
theorem dX8_helps_12 : decode cX8_helps 12 = .ok (.getfield 15, 3) := by decide +kernel
theorem dX8_helps_15 : decode cX8_helps 15 = .ok (.if_icmp .ne 21, 3) := by decide +kernel
theorem dX8_helps_18 : decode cX8_helps 18 = .ok (.aload_n 1, 1) := by decide +kernel
theorem dX8_helps_19 : decode cX8_helps 19 = .ok (.getfield 26, 3) := by decide +kernel
theorem dX8_helps_22 : decode cX8_helps 22 = .ok (.aload_n 0, 1) := by decide +kernel
theorem dX8_helps_23 : decode cX8_helps 23 = .ok (.getfield 9, 3) := by decide +kernel
theorem dX8_helps_26 : decode cX8_helps 26 = .ok (.iconst (-1), 1) := by decide +kernel
theorem dX8_helps_27 : decode cX8_helps 27 = .ok (.ixor, 1) := by decide +kernel
theorem dX8_helps_28 : decode cX8_helps 28 = .ok (.iand, 1) := by decide +kernel
theorem dX8_helps_29 : decode cX8_helps 29 = .ok (.ifCond .ne 7, 3) := by decide +kernel
theorem dX8_helps_32 : decode cX8_helps 32 = .ok (.iconst 1, 1) := by decide +kernel
theorem dX8_helps_33 : decode cX8_helps 33 = .ok (.goto 4, 3) := by decide +kernel
theorem dX8_helps_36 : decode cX8_helps 36 = .ok (.iconst 0, 1) := by decide +kernel
theorem dX8_helps_37 : decode cX8_helps 37 = .ok (.ireturn, 1) := by decide +kernel
theorem dX8_foretold_0 : decode cX8_foretold 0 = .ok (.iconst 1, 1) := by decide +kernel
theorem dX8_foretold_1 : decode cX8_foretold 1 = .ok (.aload_n 0, 1) := by decide +kernel
theorem dX8_foretold_2 : decode cX8_foretold 2 = .ok (.invokevirtual 29, 3) := by decide +kernel
theorem dX8_foretold_5 : decode cX8_foretold 5 = .ok (.iadd, 1) := by decide +kernel
theorem dX8_foretold_6 : decode cX8_foretold 6 = .ok (.ireturn, 1) := by decide +kernel
theorem dX8_fetched_0 : decode cX8_fetched 0 = .ok (.iconst 1, 1) := by decide +kernel
theorem dX8_fetched_1 : decode cX8_fetched 1 = .ok (.aload_n 0, 1) := by decide +kernel
theorem dX8_fetched_2 : decode cX8_fetched 2 = .ok (.getfield 33, 3) := by decide +kernel
theorem dX8_fetched_5 : decode cX8_fetched 5 = .ok (.aload_n 0, 1) := by decide +kernel
theorem dX8_fetched_6 : decode cX8_fetched 6 = .ok (.getfield 9, 3) := by decide +kernel
theorem dX8_fetched_9 : decode cX8_fetched 9 = .ok (.invokevirtual 37, 3) := by decide +kernel
theorem dX8_fetched_12 : decode cX8_fetched 12 = .ok (.iconst 2, 1) := by decide +kernel
theorem dX8_fetched_13 : decode cX8_fetched 13 = .ok (.aload_n 0, 1) := by decide +kernel
theorem dX8_fetched_14 : decode cX8_fetched 14 = .ok (.getfield 33, 3) := by decide +kernel
theorem dX8_fetched_17 : decode cX8_fetched 17 = .ok (.getfield 43, 3) := by decide +kernel
theorem dX8_fetched_20 : decode cX8_fetched 20 = .ok (.imul, 1) := by decide +kernel
theorem dX8_fetched_21 : decode cX8_fetched 21 = .ok (.invokestatic 46, 3) := by decide +kernel
theorem dX8_fetched_24 : decode cX8_fetched 24 = .ok (.iadd, 1) := by decide +kernel
theorem dX8_fetched_25 : decode cX8_fetched 25 = .ok (.ireturn, 1) := by decide +kernel
theorem dX8_space_0 : decode cX8_space 0 = .ok (.aload_n 0, 1) := by decide +kernel
theorem dX8_space_1 : decode cX8_space 1 = .ok (.getfield 33, 3) := by decide +kernel
theorem dX8_space_4 : decode cX8_space 4 = .ok (.aload_n 0, 1) := by decide +kernel
theorem dX8_space_5 : decode cX8_space 5 = .ok (.getfield 9, 3) := by decide +kernel
theorem dX8_space_8 : decode cX8_space 8 = .ok (.invokevirtual 50, 3) := by decide +kernel
theorem dX8_space_11 : decode cX8_space 11 = .ok (.iconst 2, 1) := by decide +kernel
theorem dX8_space_12 : decode cX8_space 12 = .ok (.aload_n 0, 1) := by decide +kernel
theorem dX8_space_13 : decode cX8_space 13 = .ok (.getfield 33, 3) := by decide +kernel
theorem dX8_space_16 : decode cX8_space 16 = .ok (.getfield 43, 3) := by decide +kernel
theorem dX8_space_19 : decode cX8_space 19 = .ok (.imul, 1) := by decide +kernel
theorem dX8_space_20 : decode cX8_space 20 = .ok (.invokestatic 46, 3) := by decide +kernel
theorem dX8_space_23 : decode cX8_space 23 = .ok (.ireturn, 1) := by decide +kernel
theorem dX8_keeping_0 : decode cX8_keeping 0 = .ok (.iconst 2, 1) := by decide +kernel
theorem dX8_keeping_1 : decode cX8_keeping 1 = .ok (.ireturn, 1) := by decide +kernel
theorem dX9_init_0 : decode cX9_init 0 = .ok (.aload_n 0, 1) := by decide +kernel
theorem dX9_init_1 : decode cX9_init 1 = .ok (.invokespecial 3, 3) := by decide +kernel
theorem dX9_init_4 : decode cX9_init 4 = .ok (.aload_n 0, 1) := by decide +kernel
theorem dX9_init_5 : decode cX9_init 5 = .ok (.sipush 240, 3) := by decide +kernel
theorem dX9_init_8 : decode cX9_init 8 = .ok (.newarray .int, 2) := by decide +kernel
theorem dX9_init_10 : decode cX9_init 10 = .ok (.putfield 9, 3) := by decide +kernel
theorem dX9_init_13 : decode cX9_init 13 = .ok (.aload_n 0, 1) := by decide +kernel
theorem dX9_init_14 : decode cX9_init 14 = .ok (.iconst 4, 1) := by decide +kernel
theorem dX9_init_15 : decode cX9_init 15 = .ok (.newarray .int, 2) := by decide +kernel
theorem dX9_init_17 : decode cX9_init 17 = .ok (.putfield 15, 3) := by decide +kernel
theorem dX9_init_20 : decode cX9_init 20 = .ok (.aload_n 0, 1) := by decide +kernel
theorem dX9_init_21 : decode cX9_init 21 = .ok (.iconst 4, 1) := by decide +kernel
theorem dX9_init_22 : decode cX9_init 22 = .ok (.newarray .int, 2) := by decide +kernel
theorem dX9_init_24 : decode cX9_init 24 = .ok (.putfield 18, 3) := by decide +kernel
theorem dX9_init_27 : decode cX9_init 27 = .ok (.aload_n 0, 1) := by decide +kernel
theorem dX9_init_28 : decode cX9_init 28 = .ok (.iconst 4, 1) := by decide +kernel
theorem dX9_init_29 : decode cX9_init 29 = .ok (.newarray .int, 2) := by decide +kernel
theorem dX9_init_31 : decode cX9_init 31 = .ok (.putfield 21, 3) := by decide +kernel
theorem dX9_init_34 : decode cX9_init 34 = .ok (.aload_n 0, 1) := by decide +kernel
theorem dX9_init_35 : decode cX9_init 35 = .ok (.iload_n 1, 1) := by decide +kernel
theorem dX9_init_36 : decode cX9_init 36 = .ok (.putfield 24, 3) := by decide +kernel
theorem dX9_init_39 : decode cX9_init 39 = .ok (.aload_n 0, 1) := by decide +kernel
theorem dX9_init_40 : decode cX9_init 40 = .ok (.iload_n 2, 1) := by decide +kernel
theorem dX9_init_41 : decode cX9_init 41 = .ok (.putfield 28, 3) := by decide +kernel
theorem dX9_init_44 : decode cX9_init 44 = .ok (.aload_n 0, 1) := by decide +kernel
theorem dX9_init_45 : decode cX9_init 45 = .ok (.iload_n 3, 1) := by decide +kernel
theorem dX9_init_46 : decode cX9_init 46 = .ok (.putfield 31, 3) := by decide +kernel
theorem dX9_init_49 : decode cX9_init 49 = .ok (.return_, 1) := by decide +kernel
theorem dX9_has_0 : decode cX9_has 0 = .ok (.iload_n 1, 1) := by decide +kernel
theorem dX9_has_1 : decode cX9_has 1 = .ok (.ifCond .lt 15, 3) := by decide +kernel
theorem dX9_has_4 : decode cX9_has 4 = .ok (.iload_n 1, 1) := by decide +kernel
theorem dX9_has_5 : decode cX9_has 5 = .ok (.aload_n 0, 1) := by decide +kernel
theorem dX9_has_6 : decode cX9_has 6 = .ok (.getfield 28, 3) := by decide +kernel
theorem dX9_has_9 : decode cX9_has 9 = .ok (.if_icmp .ge 7, 3) := by decide +kernel
theorem dX9_has_12 : decode cX9_has 12 = .ok (.iconst 1, 1) := by decide +kernel
theorem dX9_has_13 : decode cX9_has 13 = .ok (.goto 4, 3) := by decide +kernel
theorem dX9_has_16 : decode cX9_has 16 = .ok (.iconst 0, 1) := by decide +kernel
theorem dX9_has_17 : decode cX9_has 17 = .ok (.ireturn, 1) := by decide +kernel
theorem dX9_hasOrNone_0 : decode cX9_hasOrNone 0 = .ok (.iload_n 1, 1) := by decide +kernel
theorem dX9_hasOrNone_1 : decode cX9_hasOrNone 1 = .ok (.iconst (-1), 1) := by decide +kernel
theorem dX9_hasOrNone_2 : decode cX9_hasOrNone 2 = .ok (.if_icmp .eq 11, 3) := by decide +kernel
theorem dX9_hasOrNone_5 : decode cX9_hasOrNone 5 = .ok (.aload_n 0, 1) := by decide +kernel
theorem dX9_hasOrNone_6 : decode cX9_hasOrNone 6 = .ok (.iload_n 1, 1) := by decide +kernel
theorem dX9_hasOrNone_7 : decode cX9_hasOrNone 7 = .ok (.invokevirtual 34, 3) := by decide +kernel
theorem dX9_hasOrNone_10 : decode cX9_hasOrNone 10 = .ok (.ifCond .eq 7, 3) := by decide +kernel
theorem dX9_hasOrNone_13 : decode cX9_hasOrNone 13 = .ok (.iconst 1, 1) := by decide +kernel
theorem dX9_hasOrNone_14 : decode cX9_hasOrNone 14 = .ok (.goto 4, 3) := by decide +kernel
theorem dX9_hasOrNone_17 : decode cX9_hasOrNone 17 = .ok (.iconst 0, 1) := by decide +kernel
theorem dX9_hasOrNone_18 : decode cX9_hasOrNone 18 = .ok (.ireturn, 1) := by decide +kernel
theorem dX9_hasAll_0 : decode cX9_hasAll 0 = .ok (.iload_n 1, 1) := by decide +kernel
theorem dX9_hasAll_1 : decode cX9_hasAll 1 = .ok (.aload_n 0, 1) := by decide +kernel
theorem dX9_hasAll_2 : decode cX9_hasAll 2 = .ok (.getfield 28, 3) := by decide +kernel
theorem dX9_hasAll_5 : decode cX9_hasAll 5 = .ok (.iushr, 1) := by decide +kernel
theorem dX9_hasAll_6 : decode cX9_hasAll 6 = .ok (.ifCond .ne 7, 3) := by decide +kernel
theorem dX9_hasAll_9 : decode cX9_hasAll 9 = .ok (.iconst 1, 1) := by decide +kernel
theorem dX9_hasAll_10 : decode cX9_hasAll 10 = .ok (.goto 4, 3) := by decide +kernel
theorem dX9_hasAll_13 : decode cX9_hasAll 13 = .ok (.iconst 0, 1) := by decide +kernel
theorem dX9_hasAll_14 : decode cX9_hasAll 14 = .ok (.ireturn, 1) := by decide +kernel
theorem dX9_allows_0 : decode cX9_allows 0 = .ok (.aload_n 0, 1) := by decide +kernel
theorem dX9_allows_1 : decode cX9_allows 1 = .ok (.iconst 0, 1) := by decide +kernel
theorem dX9_allows_2 : decode cX9_allows 2 = .ok (.iload_n 1, 1) := by decide +kernel
theorem dX9_allows_3 : decode cX9_allows 3 = .ok (.invokevirtual 38, 3) := by decide +kernel
theorem dX9_allows_6 : decode cX9_allows 6 = .ok (.ifCond .eq 35, 3) := by decide +kernel
theorem dX9_allows_9 : decode cX9_allows 9 = .ok (.aload_n 0, 1) := by decide +kernel
theorem dX9_allows_10 : decode cX9_allows 10 = .ok (.iconst 1, 1) := by decide +kernel
theorem dX9_allows_11 : decode cX9_allows 11 = .ok (.iload_n 2, 1) := by decide +kernel
theorem dX9_allows_12 : decode cX9_allows 12 = .ok (.invokevirtual 38, 3) := by decide +kernel
theorem dX9_allows_15 : decode cX9_allows 15 = .ok (.ifCond .eq 26, 3) := by decide +kernel
theorem dX9_allows_18 : decode cX9_allows 18 = .ok (.aload_n 0, 1) := by decide +kernel
theorem dX9_allows_19 : decode cX9_allows 19 = .ok (.iconst 2, 1) := by decide +kernel
theorem dX9_allows_20 : decode cX9_allows 20 = .ok (.iload_n 3, 1) := by decide +kernel
theorem dX9_allows_21 : decode cX9_allows 21 = .ok (.invokevirtual 38, 3) := by decide +kernel
theorem dX9_allows_24 : decode cX9_allows 24 = .ok (.ifCond .eq 17, 3) := by decide +kernel
theorem dX9_allows_27 : decode cX9_allows 27 = .ok (.aload_n 0, 1) := by decide +kernel
theorem dX9_allows_28 : decode cX9_allows 28 = .ok (.iconst 3, 1) := by decide +kernel
theorem dX9_allows_29 : decode cX9_allows 29 = .ok (.iload 4, 2) := by decide +kernel
theorem dX9_allows_31 : decode cX9_allows 31 = .ok (.invokevirtual 38, 3) := by decide +kernel
theorem dX9_allows_34 : decode cX9_allows 34 = .ok (.ifCond .eq 7, 3) := by decide +kernel
theorem dX9_allows_37 : decode cX9_allows 37 = .ok (.iconst 1, 1) := by decide +kernel
theorem dX9_allows_38 : decode cX9_allows 38 = .ok (.goto 4, 3) := by decide +kernel
theorem dX9_allows_41 : decode cX9_allows 41 = .ok (.iconst 0, 1) := by decide +kernel
theorem dX9_allows_42 : decode cX9_allows 42 = .ok (.ireturn, 1) := by decide +kernel
theorem dX9_allowsAt_0 : decode cX9_allowsAt 0 = .ok (.aload_n 0, 1) := by decide +kernel
theorem dX9_allowsAt_1 : decode cX9_allowsAt 1 = .ok (.iload_n 1, 1) := by decide +kernel
theorem dX9_allowsAt_2 : decode cX9_allowsAt 2 = .ok (.invokevirtual 34, 3) := by decide +kernel
theorem dX9_allowsAt_5 : decode cX9_allowsAt 5 = .ok (.ifCond .eq 14, 3) := by decide +kernel
theorem dX9_allowsAt_8 : decode cX9_allowsAt 8 = .ok (.iload_n 2, 1) := by decide +kernel
theorem dX9_allowsAt_9 : decode cX9_allowsAt 9 = .ok (.iconst 0, 1) := by decide +kernel
theorem dX9_allowsAt_10 : decode cX9_allowsAt 10 = .ok (.sipush 999, 3) := by decide +kernel
theorem dX9_allowsAt_13 : decode cX9_allowsAt 13 = .ok (.invokestatic 42, 3) := by decide +kernel
theorem dX9_allowsAt_16 : decode cX9_allowsAt 16 = .ok (.ifCond .eq 7, 3) := by decide +kernel
theorem dX9_allowsAt_19 : decode cX9_allowsAt 19 = .ok (.iconst 1, 1) := by decide +kernel
theorem dX9_allowsAt_20 : decode cX9_allowsAt 20 = .ok (.goto 4, 3) := by decide +kernel
theorem dX9_allowsAt_23 : decode cX9_allowsAt 23 = .ok (.iconst 0, 1) := by decide +kernel
theorem dX9_allowsAt_24 : decode cX9_allowsAt 24 = .ok (.ireturn, 1) := by decide +kernel
theorem dX9_append_0 : decode cX9_append 0 = .ok (.aload_n 0, 1) := by decide +kernel
theorem dX9_append_1 : decode cX9_append 1 = .ok (.getfield 46, 3) := by decide +kernel
theorem dX9_append_4 : decode cX9_append 4 = .ok (.istore 5, 2) := by decide +kernel
theorem dX9_append_6 : decode cX9_append 6 = .ok (.aload_n 0, 1) := by decide +kernel
theorem dX9_append_7 : decode cX9_append 7 = .ok (.dup, 1) := by decide +kernel
theorem dX9_append_8 : decode cX9_append 8 = .ok (.getfield 46, 3) := by decide +kernel
theorem dX9_append_11 : decode cX9_append 11 = .ok (.iconst 1, 1) := by decide +kernel
theorem dX9_append_12 : decode cX9_append 12 = .ok (.iadd, 1) := by decide +kernel
theorem dX9_append_13 : decode cX9_append 13 = .ok (.putfield 46, 3) := by decide +kernel
theorem dX9_append_16 : decode cX9_append 16 = .ok (.aload_n 0, 1) := by decide +kernel
theorem dX9_append_17 : decode cX9_append 17 = .ok (.iload 5, 2) := by decide +kernel
theorem dX9_append_19 : decode cX9_append 19 = .ok (.iconst 0, 1) := by decide +kernel
theorem dX9_append_20 : decode cX9_append 20 = .ok (.iload_n 1, 1) := by decide +kernel
theorem dX9_append_21 : decode cX9_append 21 = .ok (.invokevirtual 49, 3) := by decide +kernel
theorem dX9_append_24 : decode cX9_append 24 = .ok (.aload_n 0, 1) := by decide +kernel
theorem dX9_append_25 : decode cX9_append 25 = .ok (.iload 5, 2) := by decide +kernel
theorem dX9_append_27 : decode cX9_append 27 = .ok (.iconst 1, 1) := by decide +kernel
theorem dX9_append_28 : decode cX9_append 28 = .ok (.iload_n 2, 1) := by decide +kernel
theorem dX9_append_29 : decode cX9_append 29 = .ok (.invokevirtual 49, 3) := by decide +kernel
theorem dX9_append_32 : decode cX9_append 32 = .ok (.aload_n 0, 1) := by decide +kernel
theorem dX9_append_33 : decode cX9_append 33 = .ok (.iload 5, 2) := by decide +kernel
theorem dX9_append_35 : decode cX9_append 35 = .ok (.iconst 2, 1) := by decide +kernel
theorem dX9_append_36 : decode cX9_append 36 = .ok (.iload_n 3, 1) := by decide +kernel
theorem dX9_append_37 : decode cX9_append 37 = .ok (.invokevirtual 49, 3) := by decide +kernel
theorem dX9_append_40 : decode cX9_append 40 = .ok (.aload_n 0, 1) := by decide +kernel
theorem dX9_append_41 : decode cX9_append 41 = .ok (.iload 5, 2) := by decide +kernel
theorem dX9_append_43 : decode cX9_append 43 = .ok (.iconst 3, 1) := by decide +kernel
theorem dX9_append_44 : decode cX9_append 44 = .ok (.iload 4, 2) := by decide +kernel
theorem dX9_append_46 : decode cX9_append 46 = .ok (.invokevirtual 49, 3) := by decide +kernel
theorem dX9_append_49 : decode cX9_append 49 = .ok (.iload 5, 2) := by decide +kernel
theorem dX9_append_51 : decode cX9_append 51 = .ok (.ireturn, 1) := by decide +kernel
theorem dX9_write_0 : decode cX9_write 0 = .ok (.aload_n 0, 1) := by decide +kernel
theorem dX9_write_1 : decode cX9_write 1 = .ok (.iload_n 1, 1) := by decide +kernel
theorem dX9_write_2 : decode cX9_write 2 = .ok (.iload_n 2, 1) := by decide +kernel
theorem dX9_write_3 : decode cX9_write 3 = .ok (.invokevirtual 53, 3) := by decide +kernel
theorem dX9_write_6 : decode cX9_write 6 = .ok (.ifCond .eq 14, 3) := by decide +kernel
theorem dX9_write_9 : decode cX9_write 9 = .ok (.aload_n 0, 1) := by decide +kernel
theorem dX9_write_10 : decode cX9_write 10 = .ok (.getfield 9, 3) := by decide +kernel
theorem dX9_write_13 : decode cX9_write 13 = .ok (.iload_n 1, 1) := by decide +kernel
theorem dX9_write_14 : decode cX9_write 14 = .ok (.iconst 4, 1) := by decide +kernel
theorem dX9_write_15 : decode cX9_write 15 = .ok (.imul, 1) := by decide +kernel
theorem dX9_write_16 : decode cX9_write 16 = .ok (.iload_n 2, 1) := by decide +kernel
theorem dX9_write_17 : decode cX9_write 17 = .ok (.iadd, 1) := by decide +kernel
theorem dX9_write_18 : decode cX9_write 18 = .ok (.iload_n 3, 1) := by decide +kernel
theorem dX9_write_19 : decode cX9_write 19 = .ok (.iastore, 1) := by decide +kernel
theorem dX9_write_20 : decode cX9_write 20 = .ok (.return_, 1) := by decide +kernel
theorem dX9_isCell_0 : decode cX9_isCell 0 = .ok (.iload_n 1, 1) := by decide +kernel
theorem dX9_isCell_1 : decode cX9_isCell 1 = .ok (.ifCond .lt 27, 3) := by decide +kernel
theorem dX9_isCell_4 : decode cX9_isCell 4 = .ok (.iload_n 1, 1) := by decide +kernel
theorem dX9_isCell_5 : decode cX9_isCell 5 = .ok (.aload_n 0, 1) := by decide +kernel
theorem dX9_isCell_6 : decode cX9_isCell 6 = .ok (.getfield 46, 3) := by decide +kernel
theorem dX9_isCell_9 : decode cX9_isCell 9 = .ok (.if_icmp .ge 19, 3) := by decide +kernel
theorem dX9_isCell_12 : decode cX9_isCell 12 = .ok (.iload_n 2, 1) := by decide +kernel
theorem dX9_isCell_13 : decode cX9_isCell 13 = .ok (.ifCond .lt 15, 3) := by decide +kernel
theorem dX9_isCell_16 : decode cX9_isCell 16 = .ok (.iload_n 2, 1) := by decide +kernel
theorem dX9_isCell_17 : decode cX9_isCell 17 = .ok (.aload_n 0, 1) := by decide +kernel
theorem dX9_isCell_18 : decode cX9_isCell 18 = .ok (.getfield 28, 3) := by decide +kernel
theorem dX9_isCell_21 : decode cX9_isCell 21 = .ok (.if_icmp .ge 7, 3) := by decide +kernel
theorem dX9_isCell_24 : decode cX9_isCell 24 = .ok (.iconst 1, 1) := by decide +kernel
theorem dX9_isCell_25 : decode cX9_isCell 25 = .ok (.goto 4, 3) := by decide +kernel
theorem dX9_isCell_28 : decode cX9_isCell 28 = .ok (.iconst 0, 1) := by decide +kernel
theorem dX9_isCell_29 : decode cX9_isCell 29 = .ok (.ireturn, 1) := by decide +kernel
theorem dX9_value_0 : decode cX9_value 0 = .ok (.aload_n 0, 1) := by decide +kernel
theorem dX9_value_1 : decode cX9_value 1 = .ok (.iload_n 1, 1) := by decide +kernel
theorem dX9_value_2 : decode cX9_value 2 = .ok (.iload_n 2, 1) := by decide +kernel
theorem dX9_value_3 : decode cX9_value 3 = .ok (.invokevirtual 53, 3) := by decide +kernel
theorem dX9_value_6 : decode cX9_value 6 = .ok (.ifCond .eq 16, 3) := by decide +kernel
theorem dX9_value_9 : decode cX9_value 9 = .ok (.aload_n 0, 1) := by decide +kernel
theorem dX9_value_10 : decode cX9_value 10 = .ok (.getfield 9, 3) := by decide +kernel
theorem dX9_value_13 : decode cX9_value 13 = .ok (.iload_n 1, 1) := by decide +kernel
theorem dX9_value_14 : decode cX9_value 14 = .ok (.iconst 4, 1) := by decide +kernel
theorem dX9_value_15 : decode cX9_value 15 = .ok (.imul, 1) := by decide +kernel
theorem dX9_value_16 : decode cX9_value 16 = .ok (.iload_n 2, 1) := by decide +kernel
theorem dX9_value_17 : decode cX9_value 17 = .ok (.iadd, 1) := by decide +kernel
theorem dX9_value_18 : decode cX9_value 18 = .ok (.iaload, 1) := by decide +kernel
theorem dX9_value_19 : decode cX9_value 19 = .ok (.goto 4, 3) := by decide +kernel
theorem dX9_value_22 : decode cX9_value 22 = .ok (.iconst 0, 1) := by decide +kernel
theorem dX9_value_23 : decode cX9_value 23 = .ok (.ireturn, 1) := by decide +kernel
theorem dX9_remove_0 : decode cX9_remove 0 = .ok (.iload_n 1, 1) := by decide +kernel
theorem dX9_remove_1 : decode cX9_remove 1 = .ok (.iconst 1, 1) := by decide +kernel
theorem dX9_remove_2 : decode cX9_remove 2 = .ok (.iadd, 1) := by decide +kernel
theorem dX9_remove_3 : decode cX9_remove 3 = .ok (.istore_n 2, 1) := by decide +kernel
theorem dX9_remove_4 : decode cX9_remove 4 = .ok (.iload_n 2, 1) := by decide +kernel
theorem dX9_remove_5 : decode cX9_remove 5 = .ok (.aload_n 0, 1) := by decide +kernel
theorem dX9_remove_6 : decode cX9_remove 6 = .ok (.getfield 46, 3) := by decide +kernel
theorem dX9_remove_9 : decode cX9_remove 9 = .ok (.if_icmp .ge 39, 3) := by decide +kernel
theorem dX9_remove_12 : decode cX9_remove 12 = .ok (.iconst 0, 1) := by decide +kernel
theorem dX9_remove_13 : decode cX9_remove 13 = .ok (.istore_n 3, 1) := by decide +kernel
theorem dX9_remove_14 : decode cX9_remove 14 = .ok (.iload_n 3, 1) := by decide +kernel
theorem dX9_remove_15 : decode cX9_remove 15 = .ok (.aload_n 0, 1) := by decide +kernel
theorem dX9_remove_16 : decode cX9_remove 16 = .ok (.getfield 28, 3) := by decide +kernel
theorem dX9_remove_19 : decode cX9_remove 19 = .ok (.if_icmp .ge 23, 3) := by decide +kernel
theorem dX9_remove_22 : decode cX9_remove 22 = .ok (.aload_n 0, 1) := by decide +kernel
theorem dX9_remove_23 : decode cX9_remove 23 = .ok (.iload_n 2, 1) := by decide +kernel
theorem dX9_remove_24 : decode cX9_remove 24 = .ok (.iconst 1, 1) := by decide +kernel
theorem dX9_remove_25 : decode cX9_remove 25 = .ok (.isub, 1) := by decide +kernel
theorem dX9_remove_26 : decode cX9_remove 26 = .ok (.iload_n 3, 1) := by decide +kernel
theorem dX9_remove_27 : decode cX9_remove 27 = .ok (.aload_n 0, 1) := by decide +kernel
theorem dX9_remove_28 : decode cX9_remove 28 = .ok (.iload_n 2, 1) := by decide +kernel
theorem dX9_remove_29 : decode cX9_remove 29 = .ok (.iload_n 3, 1) := by decide +kernel
theorem dX9_remove_30 : decode cX9_remove 30 = .ok (.invokevirtual 56, 3) := by decide +kernel
theorem dX9_remove_33 : decode cX9_remove 33 = .ok (.invokevirtual 49, 3) := by decide +kernel
theorem dX9_remove_36 : decode cX9_remove 36 = .ok (.iinc 3 1, 3) := by decide +kernel
theorem dX9_remove_39 : decode cX9_remove 39 = .ok (.goto (-25), 3) := by decide +kernel
theorem dX9_remove_42 : decode cX9_remove 42 = .ok (.iinc 2 1, 3) := by decide +kernel
theorem dX9_remove_45 : decode cX9_remove 45 = .ok (.goto (-41), 3) := by decide +kernel
theorem dX9_remove_48 : decode cX9_remove 48 = .ok (.aload_n 0, 1) := by decide +kernel
theorem dX9_remove_49 : decode cX9_remove 49 = .ok (.dup, 1) := by decide +kernel
theorem dX9_remove_50 : decode cX9_remove 50 = .ok (.getfield 46, 3) := by decide +kernel
theorem dX9_remove_53 : decode cX9_remove 53 = .ok (.iconst 1, 1) := by decide +kernel
theorem dX9_remove_54 : decode cX9_remove 54 = .ok (.isub, 1) := by decide +kernel
theorem dX9_remove_55 : decode cX9_remove 55 = .ok (.putfield 46, 3) := by decide +kernel
theorem dX9_remove_58 : decode cX9_remove 58 = .ok (.return_, 1) := by decide +kernel
theorem dX9_pages_0 : decode cX9_pages 0 = .ok (.aload_n 0, 1) := by decide +kernel
theorem dX9_pages_1 : decode cX9_pages 1 = .ok (.getfield 46, 3) := by decide +kernel
theorem dX9_pages_4 : decode cX9_pages 4 = .ok (.aload_n 0, 1) := by decide +kernel
theorem dX9_pages_5 : decode cX9_pages 5 = .ok (.getfield 31, 3) := by decide +kernel
theorem dX9_pages_8 : decode cX9_pages 8 = .ok (.invokestatic 60, 3) := by decide +kernel
theorem dX9_pages_11 : decode cX9_pages 11 = .ok (.ireturn, 1) := by decide +kernel
theorem dX9_countedPages_0 : decode cX9_countedPages 0 = .ok (.aload_n 0, 1) := by decide +kernel
theorem dX9_countedPages_1 : decode cX9_countedPages 1 = .ok (.getfield 63, 3) := by decide +kernel
theorem dX9_countedPages_4 : decode cX9_countedPages 4 = .ok (.aload_n 0, 1) := by decide +kernel
theorem dX9_countedPages_5 : decode cX9_countedPages 5 = .ok (.getfield 31, 3) := by decide +kernel
theorem dX9_countedPages_8 : decode cX9_countedPages 8 = .ok (.invokestatic 60, 3) := by decide +kernel
theorem dX9_countedPages_11 : decode cX9_countedPages 11 = .ok (.ireturn, 1) := by decide +kernel
theorem dX9_pageOf_0 : decode cX9_pageOf 0 = .ok (.aload_n 0, 1) := by decide +kernel
theorem dX9_pageOf_1 : decode cX9_pageOf 1 = .ok (.getfield 31, 3) := by decide +kernel
theorem dX9_pageOf_4 : decode cX9_pageOf 4 = .ok (.ifCond .gt 7, 3) := by decide +kernel
theorem dX9_pageOf_7 : decode cX9_pageOf 7 = .ok (.iconst 0, 1) := by decide +kernel
theorem dX9_pageOf_8 : decode cX9_pageOf 8 = .ok (.goto 9, 3) := by decide +kernel
theorem dX9_pageOf_11 : decode cX9_pageOf 11 = .ok (.iload_n 1, 1) := by decide +kernel
theorem dX9_pageOf_12 : decode cX9_pageOf 12 = .ok (.aload_n 0, 1) := by decide +kernel
theorem dX9_pageOf_13 : decode cX9_pageOf 13 = .ok (.getfield 31, 3) := by decide +kernel
theorem dX9_pageOf_16 : decode cX9_pageOf 16 = .ok (.idiv, 1) := by decide +kernel
theorem dX9_pageOf_17 : decode cX9_pageOf 17 = .ok (.ireturn, 1) := by decide +kernel
theorem dX9_takeCounts_0 : decode cX9_takeCounts 0 = .ok (.aload_n 0, 1) := by decide +kernel
theorem dX9_takeCounts_1 : decode cX9_takeCounts 1 = .ok (.aload_n 0, 1) := by decide +kernel
theorem dX9_takeCounts_2 : decode cX9_takeCounts 2 = .ok (.getfield 46, 3) := by decide +kernel
theorem dX9_takeCounts_5 : decode cX9_takeCounts 5 = .ok (.putfield 63, 3) := by decide +kernel
theorem dX9_takeCounts_8 : decode cX9_takeCounts 8 = .ok (.iconst 0, 1) := by decide +kernel
theorem dX9_takeCounts_9 : decode cX9_takeCounts 9 = .ok (.istore_n 1, 1) := by decide +kernel
theorem dX9_takeCounts_10 : decode cX9_takeCounts 10 = .ok (.iload_n 1, 1) := by decide +kernel
theorem dX9_takeCounts_11 : decode cX9_takeCounts 11 = .ok (.aload_n 0, 1) := by decide +kernel
theorem dX9_takeCounts_12 : decode cX9_takeCounts 12 = .ok (.getfield 28, 3) := by decide +kernel
theorem dX9_takeCounts_15 : decode cX9_takeCounts 15 = .ok (.if_icmp .ge 28, 3) := by decide +kernel
theorem dX9_takeCounts_18 : decode cX9_takeCounts 18 = .ok (.aload_n 0, 1) := by decide +kernel
theorem dX9_takeCounts_19 : decode cX9_takeCounts 19 = .ok (.getfield 15, 3) := by decide +kernel
theorem dX9_takeCounts_22 : decode cX9_takeCounts 22 = .ok (.iload_n 1, 1) := by decide +kernel
theorem dX9_takeCounts_23 : decode cX9_takeCounts 23 = .ok (.aload_n 0, 1) := by decide +kernel
theorem dX9_takeCounts_24 : decode cX9_takeCounts 24 = .ok (.iload_n 1, 1) := by decide +kernel
theorem dX9_takeCounts_25 : decode cX9_takeCounts 25 = .ok (.invokestatic 66, 3) := by decide +kernel
theorem dX9_takeCounts_28 : decode cX9_takeCounts 28 = .ok (.invokevirtual 70, 3) := by decide +kernel
theorem dX9_takeCounts_31 : decode cX9_takeCounts 31 = .ok (.iastore, 1) := by decide +kernel
theorem dX9_takeCounts_32 : decode cX9_takeCounts 32 = .ok (.aload_n 0, 1) := by decide +kernel
theorem dX9_takeCounts_33 : decode cX9_takeCounts 33 = .ok (.iload_n 1, 1) := by decide +kernel
theorem dX9_takeCounts_34 : decode cX9_takeCounts 34 = .ok (.invokevirtual 73, 3) := by decide +kernel
theorem dX9_takeCounts_37 : decode cX9_takeCounts 37 = .ok (.iinc 1 1, 3) := by decide +kernel
theorem dX9_takeCounts_40 : decode cX9_takeCounts 40 = .ok (.goto (-30), 3) := by decide +kernel
theorem dX9_takeCounts_43 : decode cX9_takeCounts 43 = .ok (.return_, 1) := by decide +kernel
theorem dX9_takeEnds_0 : decode cX9_takeEnds 0 = .ok (.aload_n 0, 1) := by decide +kernel
theorem dX9_takeEnds_1 : decode cX9_takeEnds 1 = .ok (.iconst 0, 1) := by decide +kernel
theorem dX9_takeEnds_2 : decode cX9_takeEnds 2 = .ok (.iload_n 1, 1) := by decide +kernel
theorem dX9_takeEnds_3 : decode cX9_takeEnds 3 = .ok (.invokevirtual 56, 3) := by decide +kernel
theorem dX9_takeEnds_6 : decode cX9_takeEnds 6 = .ok (.istore_n 2, 1) := by decide +kernel
theorem dX9_takeEnds_7 : decode cX9_takeEnds 7 = .ok (.iload_n 2, 1) := by decide +kernel
theorem dX9_takeEnds_8 : decode cX9_takeEnds 8 = .ok (.istore_n 3, 1) := by decide +kernel
theorem dX9_takeEnds_9 : decode cX9_takeEnds 9 = .ok (.iconst 1, 1) := by decide +kernel
theorem dX9_takeEnds_10 : decode cX9_takeEnds 10 = .ok (.istore 4, 2) := by decide +kernel
theorem dX9_takeEnds_12 : decode cX9_takeEnds 12 = .ok (.iload 4, 2) := by decide +kernel
theorem dX9_takeEnds_14 : decode cX9_takeEnds 14 = .ok (.aload_n 0, 1) := by decide +kernel
theorem dX9_takeEnds_15 : decode cX9_takeEnds 15 = .ok (.getfield 46, 3) := by decide +kernel
theorem dX9_takeEnds_18 : decode cX9_takeEnds 18 = .ok (.if_icmp .ge 33, 3) := by decide +kernel
theorem dX9_takeEnds_21 : decode cX9_takeEnds 21 = .ok (.iload_n 2, 1) := by decide +kernel
theorem dX9_takeEnds_22 : decode cX9_takeEnds 22 = .ok (.aload_n 0, 1) := by decide +kernel
theorem dX9_takeEnds_23 : decode cX9_takeEnds 23 = .ok (.iload 4, 2) := by decide +kernel
theorem dX9_takeEnds_25 : decode cX9_takeEnds 25 = .ok (.iload_n 1, 1) := by decide +kernel
theorem dX9_takeEnds_26 : decode cX9_takeEnds 26 = .ok (.invokevirtual 56, 3) := by decide +kernel
theorem dX9_takeEnds_29 : decode cX9_takeEnds 29 = .ok (.invokestatic 77, 3) := by decide +kernel
theorem dX9_takeEnds_32 : decode cX9_takeEnds 32 = .ok (.istore_n 2, 1) := by decide +kernel
theorem dX9_takeEnds_33 : decode cX9_takeEnds 33 = .ok (.iload_n 3, 1) := by decide +kernel
theorem dX9_takeEnds_34 : decode cX9_takeEnds 34 = .ok (.aload_n 0, 1) := by decide +kernel
theorem dX9_takeEnds_35 : decode cX9_takeEnds 35 = .ok (.iload 4, 2) := by decide +kernel
theorem dX9_takeEnds_37 : decode cX9_takeEnds 37 = .ok (.iload_n 1, 1) := by decide +kernel
theorem dX9_takeEnds_38 : decode cX9_takeEnds 38 = .ok (.invokevirtual 56, 3) := by decide +kernel
theorem dX9_takeEnds_41 : decode cX9_takeEnds 41 = .ok (.invokestatic 82, 3) := by decide +kernel
theorem dX9_takeEnds_44 : decode cX9_takeEnds 44 = .ok (.istore_n 3, 1) := by decide +kernel
theorem dX9_takeEnds_45 : decode cX9_takeEnds 45 = .ok (.iinc 4 1, 3) := by decide +kernel
theorem dX9_takeEnds_48 : decode cX9_takeEnds 48 = .ok (.goto (-36), 3) := by decide +kernel
theorem dX9_takeEnds_51 : decode cX9_takeEnds 51 = .ok (.aload_n 0, 1) := by decide +kernel
theorem dX9_takeEnds_52 : decode cX9_takeEnds 52 = .ok (.getfield 18, 3) := by decide +kernel
theorem dX9_takeEnds_55 : decode cX9_takeEnds 55 = .ok (.iload_n 1, 1) := by decide +kernel
theorem dX9_takeEnds_56 : decode cX9_takeEnds 56 = .ok (.iload_n 2, 1) := by decide +kernel
theorem dX9_takeEnds_57 : decode cX9_takeEnds 57 = .ok (.iastore, 1) := by decide +kernel
theorem dX9_takeEnds_58 : decode cX9_takeEnds 58 = .ok (.aload_n 0, 1) := by decide +kernel
theorem dX9_takeEnds_59 : decode cX9_takeEnds 59 = .ok (.getfield 21, 3) := by decide +kernel
theorem dX9_takeEnds_62 : decode cX9_takeEnds 62 = .ok (.iload_n 1, 1) := by decide +kernel
theorem dX9_takeEnds_63 : decode cX9_takeEnds 63 = .ok (.iload_n 3, 1) := by decide +kernel
theorem dX9_takeEnds_64 : decode cX9_takeEnds 64 = .ok (.iastore, 1) := by decide +kernel
theorem dX9_takeEnds_65 : decode cX9_takeEnds 65 = .ok (.return_, 1) := by decide +kernel
theorem dX9_countOfColumn_0 : decode cX9_countOfColumn 0 = .ok (.aload_n 0, 1) := by decide +kernel
theorem dX9_countOfColumn_1 : decode cX9_countOfColumn 1 = .ok (.iload_n 1, 1) := by decide +kernel
theorem dX9_countOfColumn_2 : decode cX9_countOfColumn 2 = .ok (.invokevirtual 34, 3) := by decide +kernel
theorem dX9_countOfColumn_5 : decode cX9_countOfColumn 5 = .ok (.ifCond .ne 5, 3) := by decide +kernel
theorem dX9_countOfColumn_8 : decode cX9_countOfColumn 8 = .ok (.iconst (-1), 1) := by decide +kernel
theorem dX9_countOfColumn_9 : decode cX9_countOfColumn 9 = .ok (.ireturn, 1) := by decide +kernel
theorem dX9_countOfColumn_10 : decode cX9_countOfColumn 10 = .ok (.iload_n 2, 1) := by decide +kernel
theorem dX9_countOfColumn_11 : decode cX9_countOfColumn 11 = .ok (.tableswitch 46 2 4 #[25, 32, 39], 25) := by decide +kernel
theorem dX9_countOfColumn_36 : decode cX9_countOfColumn 36 = .ok (.aload_n 0, 1) := by decide +kernel
theorem dX9_countOfColumn_37 : decode cX9_countOfColumn 37 = .ok (.getfield 15, 3) := by decide +kernel
theorem dX9_countOfColumn_40 : decode cX9_countOfColumn 40 = .ok (.iload_n 1, 1) := by decide +kernel
theorem dX9_countOfColumn_41 : decode cX9_countOfColumn 41 = .ok (.iaload, 1) := by decide +kernel
theorem dX9_countOfColumn_42 : decode cX9_countOfColumn 42 = .ok (.ireturn, 1) := by decide +kernel
theorem dX9_countOfColumn_43 : decode cX9_countOfColumn 43 = .ok (.aload_n 0, 1) := by decide +kernel
theorem dX9_countOfColumn_44 : decode cX9_countOfColumn 44 = .ok (.getfield 18, 3) := by decide +kernel
theorem dX9_countOfColumn_47 : decode cX9_countOfColumn 47 = .ok (.iload_n 1, 1) := by decide +kernel
theorem dX9_countOfColumn_48 : decode cX9_countOfColumn 48 = .ok (.iaload, 1) := by decide +kernel
theorem dX9_countOfColumn_49 : decode cX9_countOfColumn 49 = .ok (.ireturn, 1) := by decide +kernel
theorem dX9_countOfColumn_50 : decode cX9_countOfColumn 50 = .ok (.aload_n 0, 1) := by decide +kernel
theorem dX9_countOfColumn_51 : decode cX9_countOfColumn 51 = .ok (.getfield 21, 3) := by decide +kernel
theorem dX9_countOfColumn_54 : decode cX9_countOfColumn 54 = .ok (.iload_n 1, 1) := by decide +kernel
theorem dX9_countOfColumn_55 : decode cX9_countOfColumn 55 = .ok (.iaload, 1) := by decide +kernel
theorem dX9_countOfColumn_56 : decode cX9_countOfColumn 56 = .ok (.ireturn, 1) := by decide +kernel
theorem dX9_countOfColumn_57 : decode cX9_countOfColumn 57 = .ok (.iconst (-1), 1) := by decide +kernel
theorem dX9_countOfColumn_58 : decode cX9_countOfColumn 58 = .ok (.ireturn, 1) := by decide +kernel
theorem dX9_unlikeRows_0 : decode cX9_unlikeRows 0 = .ok (.iconst 0, 1) := by decide +kernel
theorem dX9_unlikeRows_1 : decode cX9_unlikeRows 1 = .ok (.istore_n 2, 1) := by decide +kernel
theorem dX9_unlikeRows_2 : decode cX9_unlikeRows 2 = .ok (.iconst 0, 1) := by decide +kernel
theorem dX9_unlikeRows_3 : decode cX9_unlikeRows 3 = .ok (.istore_n 3, 1) := by decide +kernel
theorem dX9_unlikeRows_4 : decode cX9_unlikeRows 4 = .ok (.iload_n 3, 1) := by decide +kernel
theorem dX9_unlikeRows_5 : decode cX9_unlikeRows 5 = .ok (.aload_n 0, 1) := by decide +kernel
theorem dX9_unlikeRows_6 : decode cX9_unlikeRows 6 = .ok (.getfield 46, 3) := by decide +kernel
theorem dX9_unlikeRows_9 : decode cX9_unlikeRows 9 = .ok (.if_icmp .ge 26, 3) := by decide +kernel
theorem dX9_unlikeRows_12 : decode cX9_unlikeRows 12 = .ok (.iload_n 2, 1) := by decide +kernel
theorem dX9_unlikeRows_13 : decode cX9_unlikeRows 13 = .ok (.aload_n 0, 1) := by decide +kernel
theorem dX9_unlikeRows_14 : decode cX9_unlikeRows 14 = .ok (.iload_n 3, 1) := by decide +kernel
theorem dX9_unlikeRows_15 : decode cX9_unlikeRows 15 = .ok (.iload_n 1, 1) := by decide +kernel
theorem dX9_unlikeRows_16 : decode cX9_unlikeRows 16 = .ok (.invokevirtual 85, 3) := by decide +kernel
theorem dX9_unlikeRows_19 : decode cX9_unlikeRows 19 = .ok (.ifCond .eq 7, 3) := by decide +kernel
theorem dX9_unlikeRows_22 : decode cX9_unlikeRows 22 = .ok (.iconst 1, 1) := by decide +kernel
theorem dX9_unlikeRows_23 : decode cX9_unlikeRows 23 = .ok (.goto 4, 3) := by decide +kernel
theorem dX9_unlikeRows_26 : decode cX9_unlikeRows 26 = .ok (.iconst 0, 1) := by decide +kernel
theorem dX9_unlikeRows_27 : decode cX9_unlikeRows 27 = .ok (.iadd, 1) := by decide +kernel
theorem dX9_unlikeRows_28 : decode cX9_unlikeRows 28 = .ok (.istore_n 2, 1) := by decide +kernel
theorem dX9_unlikeRows_29 : decode cX9_unlikeRows 29 = .ok (.iinc 3 1, 3) := by decide +kernel
theorem dX9_unlikeRows_32 : decode cX9_unlikeRows 32 = .ok (.goto (-28), 3) := by decide +kernel
theorem dX9_unlikeRows_35 : decode cX9_unlikeRows 35 = .ok (.iload_n 2, 1) := by decide +kernel
theorem dX9_unlikeRows_36 : decode cX9_unlikeRows 36 = .ok (.ireturn, 1) := by decide +kernel
theorem dX9_isFirstOfItsLike_0 : decode cX9_isFirstOfItsLike 0 = .ok (.iconst 0, 1) := by decide +kernel
theorem dX9_isFirstOfItsLike_1 : decode cX9_isFirstOfItsLike 1 = .ok (.istore_n 3, 1) := by decide +kernel
theorem dX9_isFirstOfItsLike_2 : decode cX9_isFirstOfItsLike 2 = .ok (.iload_n 3, 1) := by decide +kernel
theorem dX9_isFirstOfItsLike_3 : decode cX9_isFirstOfItsLike 3 = .ok (.iload_n 1, 1) := by decide +kernel
theorem dX9_isFirstOfItsLike_4 : decode cX9_isFirstOfItsLike 4 = .ok (.if_icmp .ge 21, 3) := by decide +kernel
theorem dX9_isFirstOfItsLike_7 : decode cX9_isFirstOfItsLike 7 = .ok (.aload_n 0, 1) := by decide +kernel
theorem dX9_isFirstOfItsLike_8 : decode cX9_isFirstOfItsLike 8 = .ok (.iload_n 3, 1) := by decide +kernel
theorem dX9_isFirstOfItsLike_9 : decode cX9_isFirstOfItsLike 9 = .ok (.iload_n 1, 1) := by decide +kernel
theorem dX9_isFirstOfItsLike_10 : decode cX9_isFirstOfItsLike 10 = .ok (.iload_n 2, 1) := by decide +kernel
theorem dX9_isFirstOfItsLike_11 : decode cX9_isFirstOfItsLike 11 = .ok (.invokevirtual 88, 3) := by decide +kernel
theorem dX9_isFirstOfItsLike_14 : decode cX9_isFirstOfItsLike 14 = .ok (.ifCond .eq 5, 3) := by decide +kernel
theorem dX9_isFirstOfItsLike_17 : decode cX9_isFirstOfItsLike 17 = .ok (.iconst 0, 1) := by decide +kernel
theorem dX9_isFirstOfItsLike_18 : decode cX9_isFirstOfItsLike 18 = .ok (.ireturn, 1) := by decide +kernel
theorem dX9_isFirstOfItsLike_19 : decode cX9_isFirstOfItsLike 19 = .ok (.iinc 3 1, 3) := by decide +kernel
theorem dX9_isFirstOfItsLike_22 : decode cX9_isFirstOfItsLike 22 = .ok (.goto (-20), 3) := by decide +kernel
theorem dX9_isFirstOfItsLike_25 : decode cX9_isFirstOfItsLike 25 = .ok (.iconst 1, 1) := by decide +kernel
theorem dX9_isFirstOfItsLike_26 : decode cX9_isFirstOfItsLike 26 = .ok (.ireturn, 1) := by decide +kernel
theorem dX9_areAlike_0 : decode cX9_areAlike 0 = .ok (.iconst 0, 1) := by decide +kernel
theorem dX9_areAlike_1 : decode cX9_areAlike 1 = .ok (.istore 4, 2) := by decide +kernel
theorem dX9_areAlike_3 : decode cX9_areAlike 3 = .ok (.iload 4, 2) := by decide +kernel
theorem dX9_areAlike_5 : decode cX9_areAlike 5 = .ok (.aload_n 0, 1) := by decide +kernel
theorem dX9_areAlike_6 : decode cX9_areAlike 6 = .ok (.getfield 28, 3) := by decide +kernel
theorem dX9_areAlike_9 : decode cX9_areAlike 9 = .ok (.if_icmp .ge 37, 3) := by decide +kernel
theorem dX9_areAlike_12 : decode cX9_areAlike 12 = .ok (.iload 4, 2) := by decide +kernel
theorem dX9_areAlike_14 : decode cX9_areAlike 14 = .ok (.iload_n 3, 1) := by decide +kernel
theorem dX9_areAlike_15 : decode cX9_areAlike 15 = .ok (.invokestatic 91, 3) := by decide +kernel
theorem dX9_areAlike_18 : decode cX9_areAlike 18 = .ok (.ifCond .eq 22, 3) := by decide +kernel
theorem dX9_areAlike_21 : decode cX9_areAlike 21 = .ok (.aload_n 0, 1) := by decide +kernel
theorem dX9_areAlike_22 : decode cX9_areAlike 22 = .ok (.iload_n 1, 1) := by decide +kernel
theorem dX9_areAlike_23 : decode cX9_areAlike 23 = .ok (.iload 4, 2) := by decide +kernel
theorem dX9_areAlike_25 : decode cX9_areAlike 25 = .ok (.invokevirtual 56, 3) := by decide +kernel
theorem dX9_areAlike_28 : decode cX9_areAlike 28 = .ok (.aload_n 0, 1) := by decide +kernel
theorem dX9_areAlike_29 : decode cX9_areAlike 29 = .ok (.iload_n 2, 1) := by decide +kernel
theorem dX9_areAlike_30 : decode cX9_areAlike 30 = .ok (.iload 4, 2) := by decide +kernel
theorem dX9_areAlike_32 : decode cX9_areAlike 32 = .ok (.invokevirtual 56, 3) := by decide +kernel
theorem dX9_areAlike_35 : decode cX9_areAlike 35 = .ok (.if_icmp .eq 5, 3) := by decide +kernel
theorem dX9_areAlike_38 : decode cX9_areAlike 38 = .ok (.iconst 0, 1) := by decide +kernel
theorem dX9_areAlike_39 : decode cX9_areAlike 39 = .ok (.ireturn, 1) := by decide +kernel
theorem dX9_areAlike_40 : decode cX9_areAlike 40 = .ok (.iinc 4 1, 3) := by decide +kernel
theorem dX9_areAlike_43 : decode cX9_areAlike 43 = .ok (.goto (-40), 3) := by decide +kernel
theorem dX9_areAlike_46 : decode cX9_areAlike 46 = .ok (.iconst 1, 1) := by decide +kernel
theorem dX9_areAlike_47 : decode cX9_areAlike 47 = .ok (.ireturn, 1) := by decide +kernel
theorem dX9_foretoldGroups_0 : decode cX9_foretoldGroups 0 = .ok (.iconst 1, 1) := by decide +kernel
theorem dX9_foretoldGroups_1 : decode cX9_foretoldGroups 1 = .ok (.istore_n 2, 1) := by decide +kernel
theorem dX9_foretoldGroups_2 : decode cX9_foretoldGroups 2 = .ok (.iconst 0, 1) := by decide +kernel
theorem dX9_foretoldGroups_3 : decode cX9_foretoldGroups 3 = .ok (.istore_n 3, 1) := by decide +kernel
theorem dX9_foretoldGroups_4 : decode cX9_foretoldGroups 4 = .ok (.iload_n 3, 1) := by decide +kernel
theorem dX9_foretoldGroups_5 : decode cX9_foretoldGroups 5 = .ok (.aload_n 0, 1) := by decide +kernel
theorem dX9_foretoldGroups_6 : decode cX9_foretoldGroups 6 = .ok (.getfield 28, 3) := by decide +kernel
theorem dX9_foretoldGroups_9 : decode cX9_foretoldGroups 9 = .ok (.if_icmp .ge 30, 3) := by decide +kernel
theorem dX9_foretoldGroups_12 : decode cX9_foretoldGroups 12 = .ok (.iload_n 2, 1) := by decide +kernel
theorem dX9_foretoldGroups_13 : decode cX9_foretoldGroups 13 = .ok (.iload_n 3, 1) := by decide +kernel
theorem dX9_foretoldGroups_14 : decode cX9_foretoldGroups 14 = .ok (.iload_n 1, 1) := by decide +kernel
theorem dX9_foretoldGroups_15 : decode cX9_foretoldGroups 15 = .ok (.invokestatic 91, 3) := by decide +kernel
theorem dX9_foretoldGroups_18 : decode cX9_foretoldGroups 18 = .ok (.ifCond .eq 12, 3) := by decide +kernel
theorem dX9_foretoldGroups_21 : decode cX9_foretoldGroups 21 = .ok (.aload_n 0, 1) := by decide +kernel
theorem dX9_foretoldGroups_22 : decode cX9_foretoldGroups 22 = .ok (.getfield 15, 3) := by decide +kernel
theorem dX9_foretoldGroups_25 : decode cX9_foretoldGroups 25 = .ok (.iload_n 3, 1) := by decide +kernel
theorem dX9_foretoldGroups_26 : decode cX9_foretoldGroups 26 = .ok (.iaload, 1) := by decide +kernel
theorem dX9_foretoldGroups_27 : decode cX9_foretoldGroups 27 = .ok (.goto 4, 3) := by decide +kernel
theorem dX9_foretoldGroups_30 : decode cX9_foretoldGroups 30 = .ok (.iconst 1, 1) := by decide +kernel
theorem dX9_foretoldGroups_31 : decode cX9_foretoldGroups 31 = .ok (.imul, 1) := by decide +kernel
theorem dX9_foretoldGroups_32 : decode cX9_foretoldGroups 32 = .ok (.istore_n 2, 1) := by decide +kernel
theorem dX9_foretoldGroups_33 : decode cX9_foretoldGroups 33 = .ok (.iinc 3 1, 3) := by decide +kernel
theorem dX9_foretoldGroups_36 : decode cX9_foretoldGroups 36 = .ok (.goto (-32), 3) := by decide +kernel
theorem dX9_foretoldGroups_39 : decode cX9_foretoldGroups 39 = .ok (.iload_n 2, 1) := by decide +kernel
theorem dX9_foretoldGroups_40 : decode cX9_foretoldGroups 40 = .ok (.aload_n 0, 1) := by decide +kernel
theorem dX9_foretoldGroups_41 : decode cX9_foretoldGroups 41 = .ok (.getfield 63, 3) := by decide +kernel
theorem dX9_foretoldGroups_44 : decode cX9_foretoldGroups 44 = .ok (.invokestatic 77, 3) := by decide +kernel
theorem dX9_foretoldGroups_47 : decode cX9_foretoldGroups 47 = .ok (.ireturn, 1) := by decide +kernel
theorem dX9_foretoldPassing_0 : decode cX9_foretoldPassing 0 = .ok (.aload_n 0, 1) := by decide +kernel
theorem dX9_foretoldPassing_1 : decode cX9_foretoldPassing 1 = .ok (.iload_n 2, 1) := by decide +kernel
theorem dX9_foretoldPassing_2 : decode cX9_foretoldPassing 2 = .ok (.invokevirtual 34, 3) := by decide +kernel
theorem dX9_foretoldPassing_5 : decode cX9_foretoldPassing 5 = .ok (.ifCond .ne 5, 3) := by decide +kernel
theorem dX9_foretoldPassing_8 : decode cX9_foretoldPassing 8 = .ok (.iconst 0, 1) := by decide +kernel
