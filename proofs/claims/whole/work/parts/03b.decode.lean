theorem dX9_foretoldPassing_9 : decode cX9_foretoldPassing 9 = .ok (.ireturn, 1) := by decide +kernel
theorem dX9_foretoldPassing_10 : decode cX9_foretoldPassing 10 = .ok (.iload 4, 2) := by decide +kernel
theorem dX9_foretoldPassing_12 : decode cX9_foretoldPassing 12 = .ok (.aload_n 0, 1) := by decide +kernel
theorem dX9_foretoldPassing_13 : decode cX9_foretoldPassing 13 = .ok (.getfield 21, 3) := by decide +kernel
theorem dX9_foretoldPassing_16 : decode cX9_foretoldPassing 16 = .ok (.iload_n 2, 1) := by decide +kernel
theorem dX9_foretoldPassing_17 : decode cX9_foretoldPassing 17 = .ok (.iaload, 1) := by decide +kernel
theorem dX9_foretoldPassing_18 : decode cX9_foretoldPassing 18 = .ok (.invokestatic 77, 3) := by decide +kernel
theorem dX9_foretoldPassing_21 : decode cX9_foretoldPassing 21 = .ok (.iload_n 3, 1) := by decide +kernel
theorem dX9_foretoldPassing_22 : decode cX9_foretoldPassing 22 = .ok (.aload_n 0, 1) := by decide +kernel
theorem dX9_foretoldPassing_23 : decode cX9_foretoldPassing 23 = .ok (.getfield 18, 3) := by decide +kernel
theorem dX9_foretoldPassing_26 : decode cX9_foretoldPassing 26 = .ok (.iload_n 2, 1) := by decide +kernel
theorem dX9_foretoldPassing_27 : decode cX9_foretoldPassing 27 = .ok (.iaload, 1) := by decide +kernel
theorem dX9_foretoldPassing_28 : decode cX9_foretoldPassing 28 = .ok (.invokestatic 82, 3) := by decide +kernel
theorem dX9_foretoldPassing_31 : decode cX9_foretoldPassing 31 = .ok (.isub, 1) := by decide +kernel
theorem dX9_foretoldPassing_32 : decode cX9_foretoldPassing 32 = .ok (.iconst 1, 1) := by decide +kernel
theorem dX9_foretoldPassing_33 : decode cX9_foretoldPassing 33 = .ok (.iadd, 1) := by decide +kernel
theorem dX9_foretoldPassing_34 : decode cX9_foretoldPassing 34 = .ok (.istore 5, 2) := by decide +kernel
theorem dX9_foretoldPassing_36 : decode cX9_foretoldPassing 36 = .ok (.iload_n 1, 1) := by decide +kernel
theorem dX9_foretoldPassing_37 : decode cX9_foretoldPassing 37 = .ok (.ifCond .le 8, 3) := by decide +kernel
theorem dX9_foretoldPassing_40 : decode cX9_foretoldPassing 40 = .ok (.iload 5, 2) := by decide +kernel
theorem dX9_foretoldPassing_42 : decode cX9_foretoldPassing 42 = .ok (.ifCond .gt 5, 3) := by decide +kernel
theorem dX9_foretoldPassing_45 : decode cX9_foretoldPassing 45 = .ok (.iconst 0, 1) := by decide +kernel
theorem dX9_foretoldPassing_46 : decode cX9_foretoldPassing 46 = .ok (.ireturn, 1) := by decide +kernel
theorem dX9_foretoldPassing_47 : decode cX9_foretoldPassing 47 = .ok (.iload_n 3, 1) := by decide +kernel
theorem dX9_foretoldPassing_48 : decode cX9_foretoldPassing 48 = .ok (.iload 4, 2) := by decide +kernel
theorem dX9_foretoldPassing_50 : decode cX9_foretoldPassing 50 = .ok (.if_icmp .ne 14, 3) := by decide +kernel
theorem dX9_foretoldPassing_53 : decode cX9_foretoldPassing 53 = .ok (.iload_n 1, 1) := by decide +kernel
theorem dX9_foretoldPassing_54 : decode cX9_foretoldPassing 54 = .ok (.aload_n 0, 1) := by decide +kernel
theorem dX9_foretoldPassing_55 : decode cX9_foretoldPassing 55 = .ok (.getfield 15, 3) := by decide +kernel
theorem dX9_foretoldPassing_58 : decode cX9_foretoldPassing 58 = .ok (.iload_n 2, 1) := by decide +kernel
theorem dX9_foretoldPassing_59 : decode cX9_foretoldPassing 59 = .ok (.iaload, 1) := by decide +kernel
theorem dX9_foretoldPassing_60 : decode cX9_foretoldPassing 60 = .ok (.invokestatic 60, 3) := by decide +kernel
theorem dX9_foretoldPassing_63 : decode cX9_foretoldPassing 63 = .ok (.ireturn, 1) := by decide +kernel
theorem dX9_foretoldPassing_64 : decode cX9_foretoldPassing 64 = .ok (.iload_n 1, 1) := by decide +kernel
theorem dX9_foretoldPassing_65 : decode cX9_foretoldPassing 65 = .ok (.iload 5, 2) := by decide +kernel
theorem dX9_foretoldPassing_67 : decode cX9_foretoldPassing 67 = .ok (.imul, 1) := by decide +kernel
theorem dX9_foretoldPassing_68 : decode cX9_foretoldPassing 68 = .ok (.aload_n 0, 1) := by decide +kernel
theorem dX9_foretoldPassing_69 : decode cX9_foretoldPassing 69 = .ok (.getfield 21, 3) := by decide +kernel
theorem dX9_foretoldPassing_72 : decode cX9_foretoldPassing 72 = .ok (.iload_n 2, 1) := by decide +kernel
theorem dX9_foretoldPassing_73 : decode cX9_foretoldPassing 73 = .ok (.iaload, 1) := by decide +kernel
theorem dX9_foretoldPassing_74 : decode cX9_foretoldPassing 74 = .ok (.aload_n 0, 1) := by decide +kernel
theorem dX9_foretoldPassing_75 : decode cX9_foretoldPassing 75 = .ok (.getfield 18, 3) := by decide +kernel
theorem dX9_foretoldPassing_78 : decode cX9_foretoldPassing 78 = .ok (.iload_n 2, 1) := by decide +kernel
theorem dX9_foretoldPassing_79 : decode cX9_foretoldPassing 79 = .ok (.iaload, 1) := by decide +kernel
theorem dX9_foretoldPassing_80 : decode cX9_foretoldPassing 80 = .ok (.isub, 1) := by decide +kernel
theorem dX9_foretoldPassing_81 : decode cX9_foretoldPassing 81 = .ok (.iconst 1, 1) := by decide +kernel
theorem dX9_foretoldPassing_82 : decode cX9_foretoldPassing 82 = .ok (.iadd, 1) := by decide +kernel
theorem dX9_foretoldPassing_83 : decode cX9_foretoldPassing 83 = .ok (.invokestatic 60, 3) := by decide +kernel
theorem dX9_foretoldPassing_86 : decode cX9_foretoldPassing 86 = .ok (.ireturn, 1) := by decide +kernel
theorem dX10_init_0 : decode cX10_init 0 = .ok (.aload_n 0, 1) := by decide +kernel
theorem dX10_init_1 : decode cX10_init 1 = .ok (.invokespecial 1, 3) := by decide +kernel
theorem dX10_init_4 : decode cX10_init 4 = .ok (.aload_n 0, 1) := by decide +kernel
theorem dX10_init_5 : decode cX10_init 5 = .ok (.iconst 4, 1) := by decide +kernel
theorem dX10_init_6 : decode cX10_init 6 = .ok (.anewarray 9, 3) := by decide +kernel
theorem dX10_init_9 : decode cX10_init 9 = .ok (.putfield 11, 3) := by decide +kernel
theorem dX10_init_12 : decode cX10_init 12 = .ok (.aload_n 0, 1) := by decide +kernel
theorem dX10_init_13 : decode cX10_init 13 = .ok (.new 15, 3) := by decide +kernel
theorem dX10_init_16 : decode cX10_init 16 = .ok (.dup, 1) := by decide +kernel
theorem dX10_init_17 : decode cX10_init 17 = .ok (.invokespecial 17, 3) := by decide +kernel
theorem dX10_init_20 : decode cX10_init 20 = .ok (.putfield 18, 3) := by decide +kernel
theorem dX10_init_23 : decode cX10_init 23 = .ok (.aload_n 0, 1) := by decide +kernel
theorem dX10_init_24 : decode cX10_init 24 = .ok (.new 15, 3) := by decide +kernel
theorem dX10_init_27 : decode cX10_init 27 = .ok (.dup, 1) := by decide +kernel
theorem dX10_init_28 : decode cX10_init 28 = .ok (.invokespecial 17, 3) := by decide +kernel
theorem dX10_init_31 : decode cX10_init 31 = .ok (.putfield 22, 3) := by decide +kernel
theorem dX10_init_34 : decode cX10_init 34 = .ok (.aload_n 0, 1) := by decide +kernel
theorem dX10_init_35 : decode cX10_init 35 = .ok (.new 25, 3) := by decide +kernel
theorem dX10_init_38 : decode cX10_init 38 = .ok (.dup, 1) := by decide +kernel
theorem dX10_init_39 : decode cX10_init 39 = .ok (.invokespecial 27, 3) := by decide +kernel
theorem dX10_init_42 : decode cX10_init 42 = .ok (.putfield 28, 3) := by decide +kernel
theorem dX10_init_45 : decode cX10_init 45 = .ok (.return_, 1) := by decide +kernel
theorem dX10_table_0 : decode cX10_table 0 = .ok (.iload_n 1, 1) := by decide +kernel
theorem dX10_table_1 : decode cX10_table 1 = .ok (.iconst 0, 1) := by decide +kernel
theorem dX10_table_2 : decode cX10_table 2 = .ok (.iconst 3, 1) := by decide +kernel
theorem dX10_table_3 : decode cX10_table 3 = .ok (.invokestatic 32, 3) := by decide +kernel
theorem dX10_table_6 : decode cX10_table 6 = .ok (.ifCond .eq 12, 3) := by decide +kernel
theorem dX10_table_9 : decode cX10_table 9 = .ok (.aload_n 0, 1) := by decide +kernel
theorem dX10_table_10 : decode cX10_table 10 = .ok (.getfield 11, 3) := by decide +kernel
theorem dX10_table_13 : decode cX10_table 13 = .ok (.iload_n 1, 1) := by decide +kernel
theorem dX10_table_14 : decode cX10_table 14 = .ok (.aaload, 1) := by decide +kernel
theorem dX10_table_15 : decode cX10_table 15 = .ok (.ifnull 5, 3) := by decide +kernel
theorem dX10_table_18 : decode cX10_table 18 = .ok (.iconst 0, 1) := by decide +kernel
theorem dX10_table_19 : decode cX10_table 19 = .ok (.ireturn, 1) := by decide +kernel
theorem dX10_table_20 : decode cX10_table 20 = .ok (.iload_n 2, 1) := by decide +kernel
theorem dX10_table_21 : decode cX10_table 21 = .ok (.iconst 1, 1) := by decide +kernel
theorem dX10_table_22 : decode cX10_table 22 = .ok (.iconst 4, 1) := by decide +kernel
theorem dX10_table_23 : decode cX10_table 23 = .ok (.invokestatic 32, 3) := by decide +kernel
theorem dX10_table_26 : decode cX10_table 26 = .ok (.ifCond .eq 13, 3) := by decide +kernel
theorem dX10_table_29 : decode cX10_table 29 = .ok (.iload_n 3, 1) := by decide +kernel
theorem dX10_table_30 : decode cX10_table 30 = .ok (.iconst 2, 1) := by decide +kernel
theorem dX10_table_31 : decode cX10_table 31 = .ok (.bipush 8, 2) := by decide +kernel
theorem dX10_table_33 : decode cX10_table 33 = .ok (.invokestatic 32, 3) := by decide +kernel
theorem dX10_table_36 : decode cX10_table 36 = .ok (.ifCond .ne 5, 3) := by decide +kernel
theorem dX10_table_39 : decode cX10_table 39 = .ok (.iconst 0, 1) := by decide +kernel
theorem dX10_table_40 : decode cX10_table 40 = .ok (.ireturn, 1) := by decide +kernel
theorem dX10_table_41 : decode cX10_table 41 = .ok (.aload_n 0, 1) := by decide +kernel
theorem dX10_table_42 : decode cX10_table 42 = .ok (.getfield 11, 3) := by decide +kernel
theorem dX10_table_45 : decode cX10_table 45 = .ok (.iload_n 1, 1) := by decide +kernel
theorem dX10_table_46 : decode cX10_table 46 = .ok (.new 9, 3) := by decide +kernel
theorem dX10_table_49 : decode cX10_table 49 = .ok (.dup, 1) := by decide +kernel
theorem dX10_table_50 : decode cX10_table 50 = .ok (.iload_n 1, 1) := by decide +kernel
theorem dX10_table_51 : decode cX10_table 51 = .ok (.iload_n 2, 1) := by decide +kernel
theorem dX10_table_52 : decode cX10_table 52 = .ok (.iload_n 3, 1) := by decide +kernel
theorem dX10_table_53 : decode cX10_table 53 = .ok (.invokespecial 36, 3) := by decide +kernel
theorem dX10_table_56 : decode cX10_table 56 = .ok (.aastore, 1) := by decide +kernel
theorem dX10_table_57 : decode cX10_table 57 = .ok (.iconst 1, 1) := by decide +kernel
theorem dX10_table_58 : decode cX10_table 58 = .ok (.ireturn, 1) := by decide +kernel
theorem dX10_put_0 : decode cX10_put 0 = .ok (.aload_n 0, 1) := by decide +kernel
theorem dX10_put_1 : decode cX10_put 1 = .ok (.iload_n 1, 1) := by decide +kernel
theorem dX10_put_2 : decode cX10_put 2 = .ok (.invokevirtual 39, 3) := by decide +kernel
theorem dX10_put_5 : decode cX10_put 5 = .ok (.astore 6, 2) := by decide +kernel
theorem dX10_put_7 : decode cX10_put 7 = .ok (.aload 6, 2) := by decide +kernel
theorem dX10_put_9 : decode cX10_put 9 = .ok (.ifnull 27, 3) := by decide +kernel
theorem dX10_put_12 : decode cX10_put 12 = .ok (.aload 6, 2) := by decide +kernel
theorem dX10_put_14 : decode cX10_put 14 = .ok (.getfield 43, 3) := by decide +kernel
theorem dX10_put_17 : decode cX10_put 17 = .ok (.bipush 60, 2) := by decide +kernel
theorem dX10_put_19 : decode cX10_put 19 = .ok (.if_icmp .ge 17, 3) := by decide +kernel
theorem dX10_put_22 : decode cX10_put 22 = .ok (.aload 6, 2) := by decide +kernel
theorem dX10_put_24 : decode cX10_put 24 = .ok (.iload_n 2, 1) := by decide +kernel
theorem dX10_put_25 : decode cX10_put 25 = .ok (.iload_n 3, 1) := by decide +kernel
theorem dX10_put_26 : decode cX10_put 26 = .ok (.iload 4, 2) := by decide +kernel
theorem dX10_put_28 : decode cX10_put 28 = .ok (.iload 5, 2) := by decide +kernel
theorem dX10_put_30 : decode cX10_put 30 = .ok (.invokevirtual 47, 3) := by decide +kernel
theorem dX10_put_33 : decode cX10_put 33 = .ok (.ifCond .ne 5, 3) := by decide +kernel
theorem dX10_put_36 : decode cX10_put 36 = .ok (.iconst (-1), 1) := by decide +kernel
theorem dX10_put_37 : decode cX10_put 37 = .ok (.ireturn, 1) := by decide +kernel
theorem dX10_put_38 : decode cX10_put 38 = .ok (.aload 6, 2) := by decide +kernel
theorem dX10_put_40 : decode cX10_put 40 = .ok (.iload_n 2, 1) := by decide +kernel
theorem dX10_put_41 : decode cX10_put 41 = .ok (.iload_n 3, 1) := by decide +kernel
theorem dX10_put_42 : decode cX10_put 42 = .ok (.iload 4, 2) := by decide +kernel
theorem dX10_put_44 : decode cX10_put 44 = .ok (.iload 5, 2) := by decide +kernel
theorem dX10_put_46 : decode cX10_put 46 = .ok (.invokevirtual 51, 3) := by decide +kernel
theorem dX10_put_49 : decode cX10_put 49 = .ok (.ireturn, 1) := by decide +kernel
theorem dX10_strike_0 : decode cX10_strike 0 = .ok (.aload_n 0, 1) := by decide +kernel
theorem dX10_strike_1 : decode cX10_strike 1 = .ok (.iload_n 1, 1) := by decide +kernel
theorem dX10_strike_2 : decode cX10_strike 2 = .ok (.invokevirtual 39, 3) := by decide +kernel
theorem dX10_strike_5 : decode cX10_strike 5 = .ok (.astore_n 3, 1) := by decide +kernel
theorem dX10_strike_6 : decode cX10_strike 6 = .ok (.aload_n 3, 1) := by decide +kernel
theorem dX10_strike_7 : decode cX10_strike 7 = .ok (.ifnull 17, 3) := by decide +kernel
theorem dX10_strike_10 : decode cX10_strike 10 = .ok (.iload_n 2, 1) := by decide +kernel
theorem dX10_strike_11 : decode cX10_strike 11 = .ok (.iconst 0, 1) := by decide +kernel
theorem dX10_strike_12 : decode cX10_strike 12 = .ok (.aload_n 3, 1) := by decide +kernel
theorem dX10_strike_13 : decode cX10_strike 13 = .ok (.getfield 43, 3) := by decide +kernel
theorem dX10_strike_16 : decode cX10_strike 16 = .ok (.iconst 1, 1) := by decide +kernel
theorem dX10_strike_17 : decode cX10_strike 17 = .ok (.isub, 1) := by decide +kernel
theorem dX10_strike_18 : decode cX10_strike 18 = .ok (.invokestatic 32, 3) := by decide +kernel
theorem dX10_strike_21 : decode cX10_strike 21 = .ok (.ifCond .ne 5, 3) := by decide +kernel
theorem dX10_strike_24 : decode cX10_strike 24 = .ok (.iconst 0, 1) := by decide +kernel
theorem dX10_strike_25 : decode cX10_strike 25 = .ok (.ireturn, 1) := by decide +kernel
theorem dX10_strike_26 : decode cX10_strike 26 = .ok (.aload_n 3, 1) := by decide +kernel
theorem dX10_strike_27 : decode cX10_strike 27 = .ok (.iload_n 2, 1) := by decide +kernel
theorem dX10_strike_28 : decode cX10_strike 28 = .ok (.invokevirtual 55, 3) := by decide +kernel
theorem dX10_strike_31 : decode cX10_strike 31 = .ok (.iconst 1, 1) := by decide +kernel
theorem dX10_strike_32 : decode cX10_strike 32 = .ok (.ireturn, 1) := by decide +kernel
theorem dX10_recount_0 : decode cX10_recount 0 = .ok (.aload_n 0, 1) := by decide +kernel
theorem dX10_recount_1 : decode cX10_recount 1 = .ok (.iload_n 1, 1) := by decide +kernel
theorem dX10_recount_2 : decode cX10_recount 2 = .ok (.invokevirtual 39, 3) := by decide +kernel
theorem dX10_recount_5 : decode cX10_recount 5 = .ok (.astore_n 2, 1) := by decide +kernel
theorem dX10_recount_6 : decode cX10_recount 6 = .ok (.aload_n 2, 1) := by decide +kernel
theorem dX10_recount_7 : decode cX10_recount 7 = .ok (.ifnonnull 5, 3) := by decide +kernel
theorem dX10_recount_10 : decode cX10_recount 10 = .ok (.iconst (-1), 1) := by decide +kernel
theorem dX10_recount_11 : decode cX10_recount 11 = .ok (.ireturn, 1) := by decide +kernel
theorem dX10_recount_12 : decode cX10_recount 12 = .ok (.aload_n 2, 1) := by decide +kernel
theorem dX10_recount_13 : decode cX10_recount 13 = .ok (.invokevirtual 59, 3) := by decide +kernel
theorem dX10_recount_16 : decode cX10_recount 16 = .ok (.aload_n 2, 1) := by decide +kernel
theorem dX10_recount_17 : decode cX10_recount 17 = .ok (.getfield 62, 3) := by decide +kernel
theorem dX10_recount_20 : decode cX10_recount 20 = .ok (.ireturn, 1) := by decide +kernel
theorem dX10_counts_0 : decode cX10_counts 0 = .ok (.aload_n 0, 1) := by decide +kernel
theorem dX10_counts_1 : decode cX10_counts 1 = .ok (.iload_n 1, 1) := by decide +kernel
theorem dX10_counts_2 : decode cX10_counts 2 = .ok (.invokevirtual 39, 3) := by decide +kernel
theorem dX10_counts_5 : decode cX10_counts 5 = .ok (.astore 4, 2) := by decide +kernel
theorem dX10_counts_7 : decode cX10_counts 7 = .ok (.aload 4, 2) := by decide +kernel
theorem dX10_counts_9 : decode cX10_counts 9 = .ok (.ifnonnull 5, 3) := by decide +kernel
theorem dX10_counts_12 : decode cX10_counts 12 = .ok (.iconst (-1), 1) := by decide +kernel
theorem dX10_counts_13 : decode cX10_counts 13 = .ok (.ireturn, 1) := by decide +kernel
theorem dX10_counts_14 : decode cX10_counts 14 = .ok (.iload_n 3, 1) := by decide +kernel
theorem dX10_counts_15 : decode cX10_counts 15 = .ok (.lookupswitch 51 #[(0, 33), (1, 39), (5, 45)], 33) := by decide +kernel
theorem dX10_counts_48 : decode cX10_counts 48 = .ok (.aload 4, 2) := by decide +kernel
theorem dX10_counts_50 : decode cX10_counts 50 = .ok (.getfield 62, 3) := by decide +kernel
theorem dX10_counts_53 : decode cX10_counts 53 = .ok (.ireturn, 1) := by decide +kernel
theorem dX10_counts_54 : decode cX10_counts 54 = .ok (.aload 4, 2) := by decide +kernel
theorem dX10_counts_56 : decode cX10_counts 56 = .ok (.invokevirtual 65, 3) := by decide +kernel
theorem dX10_counts_59 : decode cX10_counts 59 = .ok (.ireturn, 1) := by decide +kernel
theorem dX10_counts_60 : decode cX10_counts 60 = .ok (.aload 4, 2) := by decide +kernel
theorem dX10_counts_62 : decode cX10_counts 62 = .ok (.getfield 43, 3) := by decide +kernel
theorem dX10_counts_65 : decode cX10_counts 65 = .ok (.ireturn, 1) := by decide +kernel
theorem dX10_counts_66 : decode cX10_counts 66 = .ok (.aload 4, 2) := by decide +kernel
theorem dX10_counts_68 : decode cX10_counts 68 = .ok (.iload_n 2, 1) := by decide +kernel
theorem dX10_counts_69 : decode cX10_counts 69 = .ok (.iload_n 3, 1) := by decide +kernel
theorem dX10_counts_70 : decode cX10_counts 70 = .ok (.invokevirtual 69, 3) := by decide +kernel
theorem dX10_counts_73 : decode cX10_counts 73 = .ok (.ireturn, 1) := by decide +kernel
theorem dX10_changes_0 : decode cX10_changes 0 = .ok (.aload_n 0, 1) := by decide +kernel
theorem dX10_changes_1 : decode cX10_changes 1 = .ok (.iload_n 1, 1) := by decide +kernel
theorem dX10_changes_2 : decode cX10_changes 2 = .ok (.invokevirtual 39, 3) := by decide +kernel
theorem dX10_changes_5 : decode cX10_changes 5 = .ok (.astore_n 3, 1) := by decide +kernel
theorem dX10_changes_6 : decode cX10_changes 6 = .ok (.aload_n 3, 1) := by decide +kernel
theorem dX10_changes_7 : decode cX10_changes 7 = .ok (.ifnull 14, 3) := by decide +kernel
theorem dX10_changes_10 : decode cX10_changes 10 = .ok (.iload_n 2, 1) := by decide +kernel
theorem dX10_changes_11 : decode cX10_changes 11 = .ok (.iconst 0, 1) := by decide +kernel
theorem dX10_changes_12 : decode cX10_changes 12 = .ok (.sipush 1000, 3) := by decide +kernel
theorem dX10_changes_15 : decode cX10_changes 15 = .ok (.invokestatic 32, 3) := by decide +kernel
theorem dX10_changes_18 : decode cX10_changes 18 = .ok (.ifCond .ne 5, 3) := by decide +kernel
theorem dX10_changes_21 : decode cX10_changes 21 = .ok (.iconst 0, 1) := by decide +kernel
theorem dX10_changes_22 : decode cX10_changes 22 = .ok (.ireturn, 1) := by decide +kernel
theorem dX10_changes_23 : decode cX10_changes 23 = .ok (.aload_n 3, 1) := by decide +kernel
theorem dX10_changes_24 : decode cX10_changes 24 = .ok (.iload_n 2, 1) := by decide +kernel
theorem dX10_changes_25 : decode cX10_changes 25 = .ok (.putfield 73, 3) := by decide +kernel
theorem dX10_changes_28 : decode cX10_changes 28 = .ok (.iconst 1, 1) := by decide +kernel
theorem dX10_changes_29 : decode cX10_changes 29 = .ok (.ireturn, 1) := by decide +kernel
theorem dX10_question_0 : decode cX10_question 0 = .ok (.aload_n 0, 1) := by decide +kernel
theorem dX10_question_1 : decode cX10_question 1 = .ok (.iload_n 1, 1) := by decide +kernel
theorem dX10_question_2 : decode cX10_question 2 = .ok (.invokevirtual 39, 3) := by decide +kernel
theorem dX10_question_5 : decode cX10_question 5 = .ok (.astore 5, 2) := by decide +kernel
theorem dX10_question_7 : decode cX10_question 7 = .ok (.aload 5, 2) := by decide +kernel
theorem dX10_question_9 : decode cX10_question 9 = .ok (.ifnull 15, 3) := by decide +kernel
theorem dX10_question_12 : decode cX10_question 12 = .ok (.aload_n 0, 1) := by decide +kernel
theorem dX10_question_13 : decode cX10_question 13 = .ok (.getfield 18, 3) := by decide +kernel
theorem dX10_question_16 : decode cX10_question 16 = .ok (.invokevirtual 76, 3) := by decide +kernel
theorem dX10_question_19 : decode cX10_question 19 = .ok (.bipush 24, 2) := by decide +kernel
theorem dX10_question_21 : decode cX10_question 21 = .ok (.if_icmp .lt 5, 3) := by decide +kernel
theorem dX10_question_24 : decode cX10_question 24 = .ok (.iconst (-1), 1) := by decide +kernel
theorem dX10_question_25 : decode cX10_question 25 = .ok (.ireturn, 1) := by decide +kernel
theorem dX10_question_26 : decode cX10_question 26 = .ok (.aload 5, 2) := by decide +kernel
theorem dX10_question_28 : decode cX10_question 28 = .ok (.iload_n 2, 1) := by decide +kernel
theorem dX10_question_29 : decode cX10_question 29 = .ok (.invokevirtual 79, 3) := by decide +kernel
theorem dX10_question_32 : decode cX10_question 32 = .ok (.ifCond .eq 23, 3) := by decide +kernel
theorem dX10_question_35 : decode cX10_question 35 = .ok (.aload 5, 2) := by decide +kernel
theorem dX10_question_37 : decode cX10_question 37 = .ok (.iload_n 3, 1) := by decide +kernel
theorem dX10_question_38 : decode cX10_question 38 = .ok (.invokevirtual 83, 3) := by decide +kernel
theorem dX10_question_41 : decode cX10_question 41 = .ok (.ifCond .eq 14, 3) := by decide +kernel
theorem dX10_question_44 : decode cX10_question 44 = .ok (.iload 4, 2) := by decide +kernel
theorem dX10_question_46 : decode cX10_question 46 = .ok (.iconst 1, 1) := by decide +kernel
theorem dX10_question_47 : decode cX10_question 47 = .ok (.bipush 100, 2) := by decide +kernel
theorem dX10_question_49 : decode cX10_question 49 = .ok (.invokestatic 32, 3) := by decide +kernel
theorem dX10_question_52 : decode cX10_question 52 = .ok (.ifCond .ne 5, 3) := by decide +kernel
theorem dX10_question_55 : decode cX10_question 55 = .ok (.iconst (-1), 1) := by decide +kernel
theorem dX10_question_56 : decode cX10_question 56 = .ok (.ireturn, 1) := by decide +kernel
theorem dX10_question_57 : decode cX10_question 57 = .ok (.aload_n 0, 1) := by decide +kernel
theorem dX10_question_58 : decode cX10_question 58 = .ok (.getfield 18, 3) := by decide +kernel
theorem dX10_question_61 : decode cX10_question 61 = .ok (.new 86, 3) := by decide +kernel
theorem dX10_question_64 : decode cX10_question 64 = .ok (.dup, 1) := by decide +kernel
theorem dX10_question_65 : decode cX10_question 65 = .ok (.aload 5, 2) := by decide +kernel
theorem dX10_question_67 : decode cX10_question 67 = .ok (.iload_n 2, 1) := by decide +kernel
theorem dX10_question_68 : decode cX10_question 68 = .ok (.iload_n 3, 1) := by decide +kernel
theorem dX10_question_69 : decode cX10_question 69 = .ok (.iload 4, 2) := by decide +kernel
theorem dX10_question_71 : decode cX10_question 71 = .ok (.invokespecial 88, 3) := by decide +kernel
theorem dX10_question_74 : decode cX10_question 74 = .ok (.invokevirtual 91, 3) := by decide +kernel
theorem dX10_question_77 : decode cX10_question 77 = .ok (.pop, 1) := by decide +kernel
theorem dX10_question_78 : decode cX10_question 78 = .ok (.aload_n 0, 1) := by decide +kernel
theorem dX10_question_79 : decode cX10_question 79 = .ok (.getfield 18, 3) := by decide +kernel
theorem dX10_question_82 : decode cX10_question 82 = .ok (.invokevirtual 76, 3) := by decide +kernel
theorem dX10_question_85 : decode cX10_question 85 = .ok (.iconst 1, 1) := by decide +kernel
theorem dX10_question_86 : decode cX10_question 86 = .ok (.isub, 1) := by decide +kernel
theorem dX10_question_87 : decode cX10_question 87 = .ok (.ireturn, 1) := by decide +kernel
theorem dX10_test_0 : decode cX10_test 0 = .ok (.aload_n 0, 1) := by decide +kernel
theorem dX10_test_1 : decode cX10_test 1 = .ok (.iload_n 1, 1) := by decide +kernel
theorem dX10_test_2 : decode cX10_test 2 = .ok (.invokevirtual 95, 3) := by decide +kernel
theorem dX10_test_5 : decode cX10_test 5 = .ok (.astore 5, 2) := by decide +kernel
theorem dX10_test_7 : decode cX10_test 7 = .ok (.aload 5, 2) := by decide +kernel
theorem dX10_test_9 : decode cX10_test 9 = .ok (.ifnull 24, 3) := by decide +kernel
theorem dX10_test_12 : decode cX10_test 12 = .ok (.aload 5, 2) := by decide +kernel
theorem dX10_test_14 : decode cX10_test 14 = .ok (.getfield 99, 3) := by decide +kernel
theorem dX10_test_17 : decode cX10_test 17 = .ok (.iload_n 2, 1) := by decide +kernel
theorem dX10_test_18 : decode cX10_test 18 = .ok (.invokevirtual 103, 3) := by decide +kernel
theorem dX10_test_21 : decode cX10_test 21 = .ok (.ifCond .eq 12, 3) := by decide +kernel
theorem dX10_test_24 : decode cX10_test 24 = .ok (.iload_n 3, 1) := by decide +kernel
theorem dX10_test_25 : decode cX10_test 25 = .ok (.iload 4, 2) := by decide +kernel
theorem dX10_test_27 : decode cX10_test 27 = .ok (.invokestatic 106, 3) := by decide +kernel
theorem dX10_test_30 : decode cX10_test 30 = .ok (.ifCond .ne 5, 3) := by decide +kernel
theorem dX10_test_33 : decode cX10_test 33 = .ok (.iconst 0, 1) := by decide +kernel
theorem dX10_test_34 : decode cX10_test 34 = .ok (.ireturn, 1) := by decide +kernel
theorem dX10_test_35 : decode cX10_test 35 = .ok (.aload 5, 2) := by decide +kernel
theorem dX10_test_37 : decode cX10_test 37 = .ok (.iload_n 2, 1) := by decide +kernel
theorem dX10_test_38 : decode cX10_test 38 = .ok (.iload_n 3, 1) := by decide +kernel
theorem dX10_test_39 : decode cX10_test 39 = .ok (.iload 4, 2) := by decide +kernel
theorem dX10_test_41 : decode cX10_test 41 = .ok (.invokevirtual 110, 3) := by decide +kernel
theorem dX10_test_44 : decode cX10_test 44 = .ok (.iconst 1, 1) := by decide +kernel
theorem dX10_test_45 : decode cX10_test 45 = .ok (.ireturn, 1) := by decide +kernel
theorem dX10_order_0 : decode cX10_order 0 = .ok (.aload_n 0, 1) := by decide +kernel
theorem dX10_order_1 : decode cX10_order 1 = .ok (.iload_n 1, 1) := by decide +kernel
theorem dX10_order_2 : decode cX10_order 2 = .ok (.invokevirtual 113, 3) := by decide +kernel
theorem dX10_order_5 : decode cX10_order 5 = .ok (.astore 7, 2) := by decide +kernel
theorem dX10_order_7 : decode cX10_order 7 = .ok (.aload 7, 2) := by decide +kernel
theorem dX10_order_9 : decode cX10_order 9 = .ok (.ifnull 16, 3) := by decide +kernel
theorem dX10_order_12 : decode cX10_order 12 = .ok (.aload 7, 2) := by decide +kernel
theorem dX10_order_14 : decode cX10_order 14 = .ok (.iload_n 3, 1) := by decide +kernel
theorem dX10_order_15 : decode cX10_order 15 = .ok (.iload 4, 2) := by decide +kernel
theorem dX10_order_17 : decode cX10_order 17 = .ok (.iload 5, 2) := by decide +kernel
theorem dX10_order_19 : decode cX10_order 19 = .ok (.invokestatic 116, 3) := by decide +kernel
theorem dX10_order_22 : decode cX10_order 22 = .ok (.ifCond .ne 5, 3) := by decide +kernel
theorem dX10_order_25 : decode cX10_order 25 = .ok (.iconst (-1), 1) := by decide +kernel
theorem dX10_order_26 : decode cX10_order 26 = .ok (.ireturn, 1) := by decide +kernel
theorem dX10_order_27 : decode cX10_order 27 = .ok (.iload_n 3, 1) := by decide +kernel
theorem dX10_order_28 : decode cX10_order 28 = .ok (.invokestatic 120, 3) := by decide +kernel
theorem dX10_order_31 : decode cX10_order 31 = .ok (.iload 4, 2) := by decide +kernel
theorem dX10_order_33 : decode cX10_order 33 = .ok (.invokestatic 120, 3) := by decide +kernel
theorem dX10_order_36 : decode cX10_order 36 = .ok (.ior, 1) := by decide +kernel
theorem dX10_order_37 : decode cX10_order 37 = .ok (.iload 5, 2) := by decide +kernel
theorem dX10_order_39 : decode cX10_order 39 = .ok (.invokestatic 120, 3) := by decide +kernel
theorem dX10_order_42 : decode cX10_order 42 = .ok (.ior, 1) := by decide +kernel
theorem dX10_order_43 : decode cX10_order 43 = .ok (.istore 8, 2) := by decide +kernel
theorem dX10_order_45 : decode cX10_order 45 = .ok (.iload_n 2, 1) := by decide +kernel
theorem dX10_order_46 : decode cX10_order 46 = .ok (.ifCond .ne 22, 3) := by decide +kernel
theorem dX10_order_49 : decode cX10_order 49 = .ok (.aload_n 0, 1) := by decide +kernel
theorem dX10_order_50 : decode cX10_order 50 = .ok (.new 124, 3) := by decide +kernel
theorem dX10_order_53 : decode cX10_order 53 = .ok (.dup, 1) := by decide +kernel
theorem dX10_order_54 : decode cX10_order 54 = .ok (.aload 7, 2) := by decide +kernel
theorem dX10_order_56 : decode cX10_order 56 = .ok (.iload_n 3, 1) := by decide +kernel
theorem dX10_order_57 : decode cX10_order 57 = .ok (.iload 4, 2) := by decide +kernel
theorem dX10_order_59 : decode cX10_order 59 = .ok (.iload 5, 2) := by decide +kernel
theorem dX10_order_61 : decode cX10_order 61 = .ok (.invokespecial 126, 3) := by decide +kernel
theorem dX10_order_64 : decode cX10_order 64 = .ok (.invokevirtual 127, 3) := by decide +kernel
theorem dX10_order_67 : decode cX10_order 67 = .ok (.ireturn, 1) := by decide +kernel
theorem dX10_order_68 : decode cX10_order 68 = .ok (.iload_n 2, 1) := by decide +kernel
theorem dX10_order_69 : decode cX10_order 69 = .ok (.iconst 1, 1) := by decide +kernel
theorem dX10_order_70 : decode cX10_order 70 = .ok (.if_icmp .ne 44, 3) := by decide +kernel
theorem dX10_order_73 : decode cX10_order 73 = .ok (.aload 7, 2) := by decide +kernel
theorem dX10_order_75 : decode cX10_order 75 = .ok (.iload 6, 2) := by decide +kernel
theorem dX10_order_77 : decode cX10_order 77 = .ok (.invokevirtual 79, 3) := by decide +kernel
theorem dX10_order_80 : decode cX10_order 80 = .ok (.ifCond .eq 34, 3) := by decide +kernel
theorem dX10_order_83 : decode cX10_order 83 = .ok (.iload 6, 2) := by decide +kernel
theorem dX10_order_85 : decode cX10_order 85 = .ok (.iload 8, 2) := by decide +kernel
theorem dX10_order_87 : decode cX10_order 87 = .ok (.iconst (-1), 1) := by decide +kernel
theorem dX10_order_88 : decode cX10_order 88 = .ok (.ixor, 1) := by decide +kernel
theorem dX10_order_89 : decode cX10_order 89 = .ok (.iand, 1) := by decide +kernel
theorem dX10_order_90 : decode cX10_order 90 = .ok (.ifCond .eq 24, 3) := by decide +kernel
theorem dX10_order_93 : decode cX10_order 93 = .ok (.aload_n 0, 1) := by decide +kernel
theorem dX10_order_94 : decode cX10_order 94 = .ok (.new 131, 3) := by decide +kernel
theorem dX10_order_97 : decode cX10_order 97 = .ok (.dup, 1) := by decide +kernel
theorem dX10_order_98 : decode cX10_order 98 = .ok (.aload 7, 2) := by decide +kernel
theorem dX10_order_100 : decode cX10_order 100 = .ok (.iload_n 3, 1) := by decide +kernel
theorem dX10_order_101 : decode cX10_order 101 = .ok (.iload 4, 2) := by decide +kernel
theorem dX10_order_103 : decode cX10_order 103 = .ok (.iload 5, 2) := by decide +kernel
theorem dX10_order_105 : decode cX10_order 105 = .ok (.iload 6, 2) := by decide +kernel
theorem dX10_order_107 : decode cX10_order 107 = .ok (.invokespecial 133, 3) := by decide +kernel
theorem dX10_order_110 : decode cX10_order 110 = .ok (.invokevirtual 127, 3) := by decide +kernel
theorem dX10_order_113 : decode cX10_order 113 = .ok (.ireturn, 1) := by decide +kernel
theorem dX10_order_114 : decode cX10_order 114 = .ok (.iload_n 2, 1) := by decide +kernel
theorem dX10_order_115 : decode cX10_order 115 = .ok (.iconst 4, 1) := by decide +kernel
theorem dX10_order_116 : decode cX10_order 116 = .ok (.if_icmp .ne 22, 3) := by decide +kernel
theorem dX10_order_119 : decode cX10_order 119 = .ok (.aload_n 0, 1) := by decide +kernel
theorem dX10_order_120 : decode cX10_order 120 = .ok (.new 136, 3) := by decide +kernel
theorem dX10_order_123 : decode cX10_order 123 = .ok (.dup, 1) := by decide +kernel
theorem dX10_order_124 : decode cX10_order 124 = .ok (.aload 7, 2) := by decide +kernel
theorem dX10_order_126 : decode cX10_order 126 = .ok (.iload_n 3, 1) := by decide +kernel
theorem dX10_order_127 : decode cX10_order 127 = .ok (.iload 4, 2) := by decide +kernel
theorem dX10_order_129 : decode cX10_order 129 = .ok (.iload 5, 2) := by decide +kernel
theorem dX10_order_131 : decode cX10_order 131 = .ok (.invokespecial 138, 3) := by decide +kernel
theorem dX10_order_134 : decode cX10_order 134 = .ok (.invokevirtual 127, 3) := by decide +kernel
theorem dX10_order_137 : decode cX10_order 137 = .ok (.ireturn, 1) := by decide +kernel
theorem dX10_order_138 : decode cX10_order 138 = .ok (.iconst (-1), 1) := by decide +kernel
theorem dX10_order_139 : decode cX10_order 139 = .ok (.ireturn, 1) := by decide +kernel
theorem dX10_part_0 : decode cX10_part 0 = .ok (.aload_n 0, 1) := by decide +kernel
theorem dX10_part_1 : decode cX10_part 1 = .ok (.iload_n 1, 1) := by decide +kernel
theorem dX10_part_2 : decode cX10_part 2 = .ok (.invokevirtual 113, 3) := by decide +kernel
theorem dX10_part_5 : decode cX10_part 5 = .ok (.astore 7, 2) := by decide +kernel
theorem dX10_part_7 : decode cX10_part 7 = .ok (.aload 7, 2) := by decide +kernel
theorem dX10_part_9 : decode cX10_part 9 = .ok (.ifnull 14, 3) := by decide +kernel
theorem dX10_part_12 : decode cX10_part 12 = .ok (.aload 7, 2) := by decide +kernel
theorem dX10_part_14 : decode cX10_part 14 = .ok (.iload_n 2, 1) := by decide +kernel
theorem dX10_part_15 : decode cX10_part 15 = .ok (.iload_n 3, 1) := by decide +kernel
theorem dX10_part_16 : decode cX10_part 16 = .ok (.iconst (-1), 1) := by decide +kernel
theorem dX10_part_17 : decode cX10_part 17 = .ok (.invokestatic 116, 3) := by decide +kernel
theorem dX10_part_20 : decode cX10_part 20 = .ok (.ifCond .ne 5, 3) := by decide +kernel
theorem dX10_part_23 : decode cX10_part 23 = .ok (.iconst (-1), 1) := by decide +kernel
theorem dX10_part_24 : decode cX10_part 24 = .ok (.ireturn, 1) := by decide +kernel
theorem dX10_part_25 : decode cX10_part 25 = .ok (.aload 7, 2) := by decide +kernel
theorem dX10_part_27 : decode cX10_part 27 = .ok (.iload 4, 2) := by decide +kernel
theorem dX10_part_29 : decode cX10_part 29 = .ok (.invokevirtual 103, 3) := by decide +kernel
theorem dX10_part_32 : decode cX10_part 32 = .ok (.ifCond .eq 13, 3) := by decide +kernel
theorem dX10_part_35 : decode cX10_part 35 = .ok (.iload 5, 2) := by decide +kernel
theorem dX10_part_37 : decode cX10_part 37 = .ok (.iload 6, 2) := by decide +kernel
theorem dX10_part_39 : decode cX10_part 39 = .ok (.invokestatic 106, 3) := by decide +kernel
theorem dX10_part_42 : decode cX10_part 42 = .ok (.ifCond .ne 5, 3) := by decide +kernel
theorem dX10_part_45 : decode cX10_part 45 = .ok (.iconst (-1), 1) := by decide +kernel
theorem dX10_part_46 : decode cX10_part 46 = .ok (.ireturn, 1) := by decide +kernel
theorem dX10_part_47 : decode cX10_part 47 = .ok (.aload_n 0, 1) := by decide +kernel
theorem dX10_part_48 : decode cX10_part 48 = .ok (.new 139, 3) := by decide +kernel
theorem dX10_part_51 : decode cX10_part 51 = .ok (.dup, 1) := by decide +kernel
theorem dX10_part_52 : decode cX10_part 52 = .ok (.aload 7, 2) := by decide +kernel
theorem dX10_part_54 : decode cX10_part 54 = .ok (.iload_n 2, 1) := by decide +kernel
theorem dX10_part_55 : decode cX10_part 55 = .ok (.iload_n 3, 1) := by decide +kernel
theorem dX10_part_56 : decode cX10_part 56 = .ok (.iload 4, 2) := by decide +kernel
theorem dX10_part_58 : decode cX10_part 58 = .ok (.iload 5, 2) := by decide +kernel
theorem dX10_part_60 : decode cX10_part 60 = .ok (.iload 6, 2) := by decide +kernel
theorem dX10_part_62 : decode cX10_part 62 = .ok (.invokespecial 141, 3) := by decide +kernel
theorem dX10_part_65 : decode cX10_part 65 = .ok (.invokevirtual 127, 3) := by decide +kernel
theorem dX10_part_68 : decode cX10_part 68 = .ok (.ireturn, 1) := by decide +kernel
theorem dX10_sums_0 : decode cX10_sums 0 = .ok (.aload_n 0, 1) := by decide +kernel
theorem dX10_sums_1 : decode cX10_sums 1 = .ok (.iload_n 1, 1) := by decide +kernel
theorem dX10_sums_2 : decode cX10_sums 2 = .ok (.invokevirtual 113, 3) := by decide +kernel
theorem dX10_sums_5 : decode cX10_sums 5 = .ok (.astore 4, 2) := by decide +kernel
theorem dX10_sums_7 : decode cX10_sums 7 = .ok (.aload 4, 2) := by decide +kernel
theorem dX10_sums_9 : decode cX10_sums 9 = .ok (.ifnull 21, 3) := by decide +kernel
theorem dX10_sums_12 : decode cX10_sums 12 = .ok (.aload 4, 2) := by decide +kernel
theorem dX10_sums_14 : decode cX10_sums 14 = .ok (.iload_n 2, 1) := by decide +kernel
theorem dX10_sums_15 : decode cX10_sums 15 = .ok (.invokevirtual 79, 3) := by decide +kernel
theorem dX10_sums_18 : decode cX10_sums 18 = .ok (.ifCond .eq 12, 3) := by decide +kernel
theorem dX10_sums_21 : decode cX10_sums 21 = .ok (.aload 4, 2) := by decide +kernel
theorem dX10_sums_23 : decode cX10_sums 23 = .ok (.iload_n 3, 1) := by decide +kernel
theorem dX10_sums_24 : decode cX10_sums 24 = .ok (.invokevirtual 103, 3) := by decide +kernel
theorem dX10_sums_27 : decode cX10_sums 27 = .ok (.ifCond .ne 5, 3) := by decide +kernel
theorem dX10_sums_30 : decode cX10_sums 30 = .ok (.iconst (-1), 1) := by decide +kernel
theorem dX10_sums_31 : decode cX10_sums 31 = .ok (.ireturn, 1) := by decide +kernel
theorem dX10_sums_32 : decode cX10_sums 32 = .ok (.iload_n 2, 1) := by decide +kernel
theorem dX10_sums_33 : decode cX10_sums 33 = .ok (.invokestatic 144, 3) := by decide +kernel
theorem dX10_sums_36 : decode cX10_sums 36 = .ok (.iconst 1, 1) := by decide +kernel
theorem dX10_sums_37 : decode cX10_sums 37 = .ok (.iconst 2, 1) := by decide +kernel
theorem dX10_sums_38 : decode cX10_sums 38 = .ok (.invokestatic 32, 3) := by decide +kernel
theorem dX10_sums_41 : decode cX10_sums 41 = .ok (.ifCond .eq 21, 3) := by decide +kernel
theorem dX10_sums_44 : decode cX10_sums 44 = .ok (.aload_n 0, 1) := by decide +kernel
theorem dX10_sums_45 : decode cX10_sums 45 = .ok (.new 149, 3) := by decide +kernel
theorem dX10_sums_48 : decode cX10_sums 48 = .ok (.dup, 1) := by decide +kernel
theorem dX10_sums_49 : decode cX10_sums 49 = .ok (.aload 4, 2) := by decide +kernel
theorem dX10_sums_51 : decode cX10_sums 51 = .ok (.iload_n 2, 1) := by decide +kernel
theorem dX10_sums_52 : decode cX10_sums 52 = .ok (.iload_n 3, 1) := by decide +kernel
theorem dX10_sums_53 : decode cX10_sums 53 = .ok (.invokespecial 151, 3) := by decide +kernel
theorem dX10_sums_56 : decode cX10_sums 56 = .ok (.invokevirtual 127, 3) := by decide +kernel
theorem dX10_sums_59 : decode cX10_sums 59 = .ok (.goto 4, 3) := by decide +kernel
theorem dX10_sums_62 : decode cX10_sums 62 = .ok (.iconst (-1), 1) := by decide +kernel
theorem dX10_sums_63 : decode cX10_sums 63 = .ok (.ireturn, 1) := by decide +kernel
theorem dX10_build_0 : decode cX10_build 0 = .ok (.aload_n 0, 1) := by decide +kernel
theorem dX10_build_1 : decode cX10_build 1 = .ok (.iload_n 1, 1) := by decide +kernel
theorem dX10_build_2 : decode cX10_build 2 = .ok (.invokevirtual 154, 3) := by decide +kernel
theorem dX10_build_5 : decode cX10_build 5 = .ok (.astore_n 3, 1) := by decide +kernel
theorem dX10_build_6 : decode cX10_build 6 = .ok (.aload_n 3, 1) := by decide +kernel
theorem dX10_build_7 : decode cX10_build 7 = .ok (.ifnull 11, 3) := by decide +kernel
theorem dX10_build_10 : decode cX10_build 10 = .ok (.aload_n 3, 1) := by decide +kernel
theorem dX10_build_11 : decode cX10_build 11 = .ok (.getfield 158, 3) := by decide +kernel
theorem dX10_build_14 : decode cX10_build 14 = .ok (.iload_n 2, 1) := by decide +kernel
theorem dX10_build_15 : decode cX10_build 15 = .ok (.if_icmp .ne 5, 3) := by decide +kernel
theorem dX10_build_18 : decode cX10_build 18 = .ok (.iconst 0, 1) := by decide +kernel
theorem dX10_build_19 : decode cX10_build 19 = .ok (.ireturn, 1) := by decide +kernel
theorem dX10_build_20 : decode cX10_build 20 = .ok (.iload_n 2, 1) := by decide +kernel
theorem dX10_build_21 : decode cX10_build 21 = .ok (.ifCond .eq 21, 3) := by decide +kernel
theorem dX10_build_24 : decode cX10_build 24 = .ok (.aload_n 0, 1) := by decide +kernel
theorem dX10_build_25 : decode cX10_build 25 = .ok (.getfield 22, 3) := by decide +kernel
theorem dX10_build_28 : decode cX10_build 28 = .ok (.iload_n 1, 1) := by decide +kernel
theorem dX10_build_29 : decode cX10_build 29 = .ok (.invokestatic 164, 3) := by decide +kernel
theorem dX10_build_32 : decode cX10_build 32 = .ok (.aload_n 0, 1) := by decide +kernel
theorem dX10_build_33 : decode cX10_build 33 = .ok (.invokevirtual 168, 3) := by decide +kernel
theorem dX10_build_36 : decode cX10_build 36 = .ok (.iand, 1) := by decide +kernel
theorem dX10_build_37 : decode cX10_build 37 = .ok (.ifCond .eq 5, 3) := by decide +kernel
theorem dX10_build_40 : decode cX10_build 40 = .ok (.iconst 0, 1) := by decide +kernel
theorem dX10_build_41 : decode cX10_build 41 = .ok (.ireturn, 1) := by decide +kernel
theorem dX10_build_42 : decode cX10_build 42 = .ok (.aload_n 3, 1) := by decide +kernel
theorem dX10_build_43 : decode cX10_build 43 = .ok (.iload_n 2, 1) := by decide +kernel
theorem dX10_build_44 : decode cX10_build 44 = .ok (.putfield 158, 3) := by decide +kernel
theorem dX10_build_47 : decode cX10_build 47 = .ok (.iconst 1, 1) := by decide +kernel
theorem dX10_build_48 : decode cX10_build 48 = .ok (.ireturn, 1) := by decide +kernel
theorem dX10_look_0 : decode cX10_look 0 = .ok (.aload_n 0, 1) := by decide +kernel
theorem dX10_look_1 : decode cX10_look 1 = .ok (.iload_n 1, 1) := by decide +kernel
theorem dX10_look_2 : decode cX10_look 2 = .ok (.invokevirtual 154, 3) := by decide +kernel
theorem dX10_look_5 : decode cX10_look 5 = .ok (.astore_n 3, 1) := by decide +kernel
theorem dX10_look_6 : decode cX10_look 6 = .ok (.aload_n 3, 1) := by decide +kernel
theorem dX10_look_7 : decode cX10_look 7 = .ok (.ifnonnull 7, 3) := by decide +kernel
theorem dX10_look_10 : decode cX10_look 10 = .ok (.ldc2_w 171, 3) := by decide +kernel
theorem dX10_look_13 : decode cX10_look 13 = .ok (.lreturn, 1) := by decide +kernel
theorem dX10_look_14 : decode cX10_look 14 = .ok (.iload_n 2, 1) := by decide +kernel
theorem dX10_look_15 : decode cX10_look 15 = .ok (.tableswitch 164 0 5 #[37, 43, 52, 58, 71, 107], 37) := by decide +kernel
theorem dX10_look_52 : decode cX10_look 52 = .ok (.aload_n 3, 1) := by decide +kernel
theorem dX10_look_53 : decode cX10_look 53 = .ok (.getfield 173, 3) := by decide +kernel
theorem dX10_look_56 : decode cX10_look 56 = .ok (.i2l, 1) := by decide +kernel
theorem dX10_look_57 : decode cX10_look 57 = .ok (.lreturn, 1) := by decide +kernel
theorem dX10_look_58 : decode cX10_look 58 = .ok (.aload_n 3, 1) := by decide +kernel
theorem dX10_look_59 : decode cX10_look 59 = .ok (.getfield 176, 3) := by decide +kernel
theorem dX10_look_62 : decode cX10_look 62 = .ok (.getfield 177, 3) := by decide +kernel
theorem dX10_look_65 : decode cX10_look 65 = .ok (.i2l, 1) := by decide +kernel
theorem dX10_look_66 : decode cX10_look 66 = .ok (.lreturn, 1) := by decide +kernel
theorem dX10_look_67 : decode cX10_look 67 = .ok (.aload_n 3, 1) := by decide +kernel
theorem dX10_look_68 : decode cX10_look 68 = .ok (.invokevirtual 180, 3) := by decide +kernel
theorem dX10_look_71 : decode cX10_look 71 = .ok (.i2l, 1) := by decide +kernel
theorem dX10_look_72 : decode cX10_look 72 = .ok (.lreturn, 1) := by decide +kernel
theorem dX10_look_73 : decode cX10_look 73 = .ok (.aload_n 3, 1) := by decide +kernel
theorem dX10_look_74 : decode cX10_look 74 = .ok (.getfield 158, 3) := by decide +kernel
theorem dX10_look_77 : decode cX10_look 77 = .ok (.ifCond .eq 7, 3) := by decide +kernel
theorem dX10_look_80 : decode cX10_look 80 = .ok (.lconst 1, 1) := by decide +kernel
theorem dX10_look_81 : decode cX10_look 81 = .ok (.goto 4, 3) := by decide +kernel
theorem dX10_look_84 : decode cX10_look 84 = .ok (.lconst 0, 1) := by decide +kernel
theorem dX10_look_85 : decode cX10_look 85 = .ok (.lreturn, 1) := by decide +kernel
theorem dX10_look_86 : decode cX10_look 86 = .ok (.aload_n 0, 1) := by decide +kernel
theorem dX10_look_87 : decode cX10_look 87 = .ok (.getfield 28, 3) := by decide +kernel
theorem dX10_look_90 : decode cX10_look 90 = .ok (.aload_n 0, 1) := by decide +kernel
theorem dX10_look_91 : decode cX10_look 91 = .ok (.getfield 18, 3) := by decide +kernel
theorem dX10_look_94 : decode cX10_look 94 = .ok (.aload_n 0, 1) := by decide +kernel
theorem dX10_look_95 : decode cX10_look 95 = .ok (.getfield 22, 3) := by decide +kernel
theorem dX10_look_98 : decode cX10_look 98 = .ok (.invokevirtual 183, 3) := by decide +kernel
theorem dX10_look_101 : decode cX10_look 101 = .ok (.aload_n 0, 1) := by decide +kernel
theorem dX10_look_102 : decode cX10_look 102 = .ok (.getfield 28, 3) := by decide +kernel
theorem dX10_look_105 : decode cX10_look 105 = .ok (.iconst 0, 1) := by decide +kernel
theorem dX10_look_106 : decode cX10_look 106 = .ok (.invokevirtual 187, 3) := by decide +kernel
theorem dX10_look_109 : decode cX10_look 109 = .ok (.aload_n 0, 1) := by decide +kernel
theorem dX10_look_110 : decode cX10_look 110 = .ok (.getfield 28, 3) := by decide +kernel
theorem dX10_look_113 : decode cX10_look 113 = .ok (.iload_n 1, 1) := by decide +kernel
theorem dX10_look_114 : decode cX10_look 114 = .ok (.invokestatic 120, 3) := by decide +kernel
theorem dX10_look_117 : decode cX10_look 117 = .ok (.invokevirtual 187, 3) := by decide +kernel
theorem dX10_look_120 : decode cX10_look 120 = .ok (.lsub, 1) := by decide +kernel
theorem dX10_look_121 : decode cX10_look 121 = .ok (.lreturn, 1) := by decide +kernel
theorem dX10_look_122 : decode cX10_look 122 = .ok (.aload_n 3, 1) := by decide +kernel
theorem dX10_look_123 : decode cX10_look 123 = .ok (.getfield 158, 3) := by decide +kernel
theorem dX10_look_126 : decode cX10_look 126 = .ok (.ifCond .ne 7, 3) := by decide +kernel
theorem dX10_look_129 : decode cX10_look 129 = .ok (.ldc2_w 171, 3) := by decide +kernel
theorem dX10_look_132 : decode cX10_look 132 = .ok (.lreturn, 1) := by decide +kernel
theorem dX10_look_133 : decode cX10_look 133 = .ok (.aload_n 0, 1) := by decide +kernel
theorem dX10_look_134 : decode cX10_look 134 = .ok (.getfield 28, 3) := by decide +kernel
theorem dX10_look_137 : decode cX10_look 137 = .ok (.aload_n 0, 1) := by decide +kernel
theorem dX10_look_138 : decode cX10_look 138 = .ok (.getfield 18, 3) := by decide +kernel
theorem dX10_look_141 : decode cX10_look 141 = .ok (.aload_n 0, 1) := by decide +kernel
theorem dX10_look_142 : decode cX10_look 142 = .ok (.getfield 22, 3) := by decide +kernel
theorem dX10_look_145 : decode cX10_look 145 = .ok (.invokevirtual 183, 3) := by decide +kernel
theorem dX10_look_148 : decode cX10_look 148 = .ok (.aload_n 0, 1) := by decide +kernel
theorem dX10_look_149 : decode cX10_look 149 = .ok (.getfield 28, 3) := by decide +kernel
theorem dX10_look_152 : decode cX10_look 152 = .ok (.aload_n 0, 1) := by decide +kernel
theorem dX10_look_153 : decode cX10_look 153 = .ok (.invokevirtual 168, 3) := by decide +kernel
theorem dX10_look_156 : decode cX10_look 156 = .ok (.iload_n 1, 1) := by decide +kernel
theorem dX10_look_157 : decode cX10_look 157 = .ok (.invokestatic 120, 3) := by decide +kernel
theorem dX10_look_160 : decode cX10_look 160 = .ok (.iconst (-1), 1) := by decide +kernel
theorem dX10_look_161 : decode cX10_look 161 = .ok (.ixor, 1) := by decide +kernel
theorem dX10_look_162 : decode cX10_look 162 = .ok (.iand, 1) := by decide +kernel
theorem dX10_look_163 : decode cX10_look 163 = .ok (.invokevirtual 187, 3) := by decide +kernel
theorem dX10_look_166 : decode cX10_look 166 = .ok (.aload_n 0, 1) := by decide +kernel
theorem dX10_look_167 : decode cX10_look 167 = .ok (.getfield 28, 3) := by decide +kernel
theorem dX10_look_170 : decode cX10_look 170 = .ok (.aload_n 0, 1) := by decide +kernel
theorem dX10_look_171 : decode cX10_look 171 = .ok (.invokevirtual 168, 3) := by decide +kernel
theorem dX10_look_174 : decode cX10_look 174 = .ok (.invokevirtual 187, 3) := by decide +kernel
theorem dX10_look_177 : decode cX10_look 177 = .ok (.lsub, 1) := by decide +kernel
theorem dX10_look_178 : decode cX10_look 178 = .ok (.lreturn, 1) := by decide +kernel
theorem dX10_look_179 : decode cX10_look 179 = .ok (.ldc2_w 171, 3) := by decide +kernel
theorem dX10_look_182 : decode cX10_look 182 = .ok (.lreturn, 1) := by decide +kernel
theorem dX10_cost_0 : decode cX10_cost 0 = .ok (.aload_n 0, 1) := by decide +kernel
theorem dX10_cost_1 : decode cX10_cost 1 = .ok (.iload_n 1, 1) := by decide +kernel
theorem dX10_cost_2 : decode cX10_cost 2 = .ok (.invokevirtual 95, 3) := by decide +kernel
theorem dX10_cost_5 : decode cX10_cost 5 = .ok (.astore_n 3, 1) := by decide +kernel
theorem dX10_cost_6 : decode cX10_cost 6 = .ok (.aload_n 3, 1) := by decide +kernel
theorem dX10_cost_7 : decode cX10_cost 7 = .ok (.ifnonnull 5, 3) := by decide +kernel
theorem dX10_cost_10 : decode cX10_cost 10 = .ok (.iconst (-1), 1) := by decide +kernel
theorem dX10_cost_11 : decode cX10_cost 11 = .ok (.ireturn, 1) := by decide +kernel
theorem dX10_cost_12 : decode cX10_cost 12 = .ok (.iload_n 2, 1) := by decide +kernel
theorem dX10_cost_13 : decode cX10_cost 13 = .ok (.iconst (-1), 1) := by decide +kernel
theorem dX10_cost_14 : decode cX10_cost 14 = .ok (.if_icmp .ne 11, 3) := by decide +kernel
theorem dX10_cost_17 : decode cX10_cost 17 = .ok (.aload_n 3, 1) := by decide +kernel
theorem dX10_cost_18 : decode cX10_cost 18 = .ok (.getfield 99, 3) := by decide +kernel
theorem dX10_cost_21 : decode cX10_cost 21 = .ok (.invokevirtual 65, 3) := by decide +kernel
theorem dX10_cost_24 : decode cX10_cost 24 = .ok (.ireturn, 1) := by decide +kernel
theorem dX10_cost_25 : decode cX10_cost 25 = .ok (.aload_n 0, 1) := by decide +kernel
theorem dX10_cost_26 : decode cX10_cost 26 = .ok (.iload_n 2, 1) := by decide +kernel
theorem dX10_cost_27 : decode cX10_cost 27 = .ok (.invokevirtual 154, 3) := by decide +kernel
theorem dX10_cost_30 : decode cX10_cost 30 = .ok (.astore 4, 2) := by decide +kernel
theorem dX10_cost_32 : decode cX10_cost 32 = .ok (.aload 4, 2) := by decide +kernel
theorem dX10_cost_34 : decode cX10_cost 34 = .ok (.ifnull 24, 3) := by decide +kernel
theorem dX10_cost_37 : decode cX10_cost 37 = .ok (.aload 4, 2) := by decide +kernel
theorem dX10_cost_39 : decode cX10_cost 39 = .ok (.getfield 176, 3) := by decide +kernel
theorem dX10_cost_42 : decode cX10_cost 42 = .ok (.aload_n 3, 1) := by decide +kernel
theorem dX10_cost_43 : decode cX10_cost 43 = .ok (.getfield 99, 3) := by decide +kernel
theorem dX10_cost_46 : decode cX10_cost 46 = .ok (.if_acmp .ne 12, 3) := by decide +kernel
theorem dX10_cost_49 : decode cX10_cost 49 = .ok (.aload 4, 2) := by decide +kernel
theorem dX10_cost_51 : decode cX10_cost 51 = .ok (.aload_n 3, 1) := by decide +kernel
theorem dX10_cost_52 : decode cX10_cost 52 = .ok (.invokevirtual 191, 3) := by decide +kernel
theorem dX10_cost_55 : decode cX10_cost 55 = .ok (.ifCond .ne 5, 3) := by decide +kernel
theorem dX10_cost_58 : decode cX10_cost 58 = .ok (.iconst (-1), 1) := by decide +kernel
theorem dX10_cost_59 : decode cX10_cost 59 = .ok (.ireturn, 1) := by decide +kernel
theorem dX10_cost_60 : decode cX10_cost 60 = .ok (.aload 4, 2) := by decide +kernel
theorem dX10_cost_62 : decode cX10_cost 62 = .ok (.aload_n 3, 1) := by decide +kernel
theorem dX10_cost_63 : decode cX10_cost 63 = .ok (.invokevirtual 195, 3) := by decide +kernel
theorem dX10_cost_66 : decode cX10_cost 66 = .ok (.ireturn, 1) := by decide +kernel
theorem dX10_plan_0 : decode cX10_plan 0 = .ok (.aload_n 0, 1) := by decide +kernel
theorem dX10_plan_1 : decode cX10_plan 1 = .ok (.iload_n 1, 1) := by decide +kernel
theorem dX10_plan_2 : decode cX10_plan 2 = .ok (.invokevirtual 95, 3) := by decide +kernel
theorem dX10_plan_5 : decode cX10_plan 5 = .ok (.astore_n 2, 1) := by decide +kernel
theorem dX10_plan_6 : decode cX10_plan 6 = .ok (.aload_n 2, 1) := by decide +kernel
theorem dX10_plan_7 : decode cX10_plan 7 = .ok (.ifnonnull 6, 3) := by decide +kernel
theorem dX10_plan_10 : decode cX10_plan 10 = .ok (.bipush (-2), 2) := by decide +kernel
theorem dX10_plan_12 : decode cX10_plan 12 = .ok (.ireturn, 1) := by decide +kernel
theorem dX10_plan_13 : decode cX10_plan 13 = .ok (.iconst (-1), 1) := by decide +kernel
theorem dX10_plan_14 : decode cX10_plan 14 = .ok (.istore_n 3, 1) := by decide +kernel
theorem dX10_plan_15 : decode cX10_plan 15 = .ok (.aload_n 0, 1) := by decide +kernel
theorem dX10_plan_16 : decode cX10_plan 16 = .ok (.iload_n 1, 1) := by decide +kernel
theorem dX10_plan_17 : decode cX10_plan 17 = .ok (.iconst (-1), 1) := by decide +kernel
theorem dX10_plan_18 : decode cX10_plan 18 = .ok (.invokevirtual 199, 3) := by decide +kernel
theorem dX10_plan_21 : decode cX10_plan 21 = .ok (.istore 4, 2) := by decide +kernel
theorem dX10_plan_23 : decode cX10_plan 23 = .ok (.iconst 0, 1) := by decide +kernel
theorem dX10_plan_24 : decode cX10_plan 24 = .ok (.istore 5, 2) := by decide +kernel
theorem dX10_plan_26 : decode cX10_plan 26 = .ok (.iload 5, 2) := by decide +kernel
theorem dX10_plan_28 : decode cX10_plan 28 = .ok (.aload_n 0, 1) := by decide +kernel
theorem dX10_plan_29 : decode cX10_plan 29 = .ok (.getfield 22, 3) := by decide +kernel
theorem dX10_plan_32 : decode cX10_plan 32 = .ok (.invokevirtual 76, 3) := by decide +kernel
theorem dX10_plan_35 : decode cX10_plan 35 = .ok (.if_icmp .ge 60, 3) := by decide +kernel
theorem dX10_plan_38 : decode cX10_plan 38 = .ok (.aload_n 0, 1) := by decide +kernel
theorem dX10_plan_39 : decode cX10_plan 39 = .ok (.getfield 22, 3) := by decide +kernel
theorem dX10_plan_42 : decode cX10_plan 42 = .ok (.iload 5, 2) := by decide +kernel
theorem dX10_plan_44 : decode cX10_plan 44 = .ok (.invokevirtual 202, 3) := by decide +kernel
theorem dX10_plan_47 : decode cX10_plan 47 = .ok (.checkcast 159, 3) := by decide +kernel
theorem dX10_plan_50 : decode cX10_plan 50 = .ok (.getfield 158, 3) := by decide +kernel
theorem dX10_plan_53 : decode cX10_plan 53 = .ok (.ifCond .eq 13, 3) := by decide +kernel
theorem dX10_plan_56 : decode cX10_plan 56 = .ok (.aload_n 0, 1) := by decide +kernel
theorem dX10_plan_57 : decode cX10_plan 57 = .ok (.iload_n 1, 1) := by decide +kernel
theorem dX10_plan_58 : decode cX10_plan 58 = .ok (.iload 5, 2) := by decide +kernel
theorem dX10_plan_60 : decode cX10_plan 60 = .ok (.invokevirtual 199, 3) := by decide +kernel
theorem dX10_plan_63 : decode cX10_plan 63 = .ok (.goto 4, 3) := by decide +kernel
theorem dX10_plan_66 : decode cX10_plan 66 = .ok (.iconst (-1), 1) := by decide +kernel
theorem dX10_plan_67 : decode cX10_plan 67 = .ok (.istore 6, 2) := by decide +kernel
theorem dX10_plan_69 : decode cX10_plan 69 = .ok (.iload 6, 2) := by decide +kernel
theorem dX10_plan_71 : decode cX10_plan 71 = .ok (.iconst (-1), 1) := by decide +kernel
theorem dX10_plan_72 : decode cX10_plan 72 = .ok (.if_icmp .eq 17, 3) := by decide +kernel
theorem dX10_plan_75 : decode cX10_plan 75 = .ok (.iload 6, 2) := by decide +kernel
theorem dX10_plan_77 : decode cX10_plan 77 = .ok (.iload 4, 2) := by decide +kernel
theorem dX10_plan_79 : decode cX10_plan 79 = .ok (.if_icmp .ge 10, 3) := by decide +kernel
theorem dX10_plan_82 : decode cX10_plan 82 = .ok (.iload 5, 2) := by decide +kernel
theorem dX10_plan_84 : decode cX10_plan 84 = .ok (.istore_n 3, 1) := by decide +kernel
theorem dX10_plan_85 : decode cX10_plan 85 = .ok (.iload 6, 2) := by decide +kernel
theorem dX10_plan_87 : decode cX10_plan 87 = .ok (.istore 4, 2) := by decide +kernel
theorem dX10_plan_89 : decode cX10_plan 89 = .ok (.iinc 5 1, 3) := by decide +kernel
theorem dX10_plan_92 : decode cX10_plan 92 = .ok (.goto (-66), 3) := by decide +kernel
theorem dX10_plan_95 : decode cX10_plan 95 = .ok (.iload_n 3, 1) := by decide +kernel
theorem dX10_plan_96 : decode cX10_plan 96 = .ok (.ireturn, 1) := by decide +kernel
theorem dX10_run_0 : decode cX10_run 0 = .ok (.aload_n 0, 1) := by decide +kernel
theorem dX10_run_1 : decode cX10_run 1 = .ok (.iload_n 1, 1) := by decide +kernel
theorem dX10_run_2 : decode cX10_run 2 = .ok (.invokevirtual 95, 3) := by decide +kernel
theorem dX10_run_5 : decode cX10_run 5 = .ok (.astore_n 3, 1) := by decide +kernel
theorem dX10_run_6 : decode cX10_run 6 = .ok (.aload_n 3, 1) := by decide +kernel
theorem dX10_run_7 : decode cX10_run 7 = .ok (.ifnonnull 5, 3) := by decide +kernel
theorem dX10_run_10 : decode cX10_run 10 = .ok (.iconst (-1), 1) := by decide +kernel
theorem dX10_run_11 : decode cX10_run 11 = .ok (.ireturn, 1) := by decide +kernel
theorem dX10_run_12 : decode cX10_run 12 = .ok (.iload_n 2, 1) := by decide +kernel
theorem dX10_run_13 : decode cX10_run 13 = .ok (.tableswitch 85 0 3 #[31, 36, 41, 74], 31) := by decide +kernel
theorem dX10_run_44 : decode cX10_run 44 = .ok (.aload_n 3, 1) := by decide +kernel
theorem dX10_run_45 : decode cX10_run 45 = .ok (.invokevirtual 206, 3) := by decide +kernel
theorem dX10_run_48 : decode cX10_run 48 = .ok (.ireturn, 1) := by decide +kernel
theorem dX10_run_49 : decode cX10_run 49 = .ok (.aload_n 3, 1) := by decide +kernel
theorem dX10_run_50 : decode cX10_run 50 = .ok (.invokevirtual 209, 3) := by decide +kernel
theorem dX10_run_53 : decode cX10_run 53 = .ok (.ireturn, 1) := by decide +kernel
theorem dX10_run_54 : decode cX10_run 54 = .ok (.aload_n 0, 1) := by decide +kernel
theorem dX10_run_55 : decode cX10_run 55 = .ok (.aload_n 0, 1) := by decide +kernel
theorem dX10_run_56 : decode cX10_run 56 = .ok (.iload_n 1, 1) := by decide +kernel
theorem dX10_run_57 : decode cX10_run 57 = .ok (.invokevirtual 212, 3) := by decide +kernel
theorem dX10_run_60 : decode cX10_run 60 = .ok (.invokevirtual 154, 3) := by decide +kernel
theorem dX10_run_63 : decode cX10_run 63 = .ok (.astore 4, 2) := by decide +kernel
theorem dX10_run_65 : decode cX10_run 65 = .ok (.aload 4, 2) := by decide +kernel
theorem dX10_run_67 : decode cX10_run 67 = .ok (.ifnonnull 13, 3) := by decide +kernel
theorem dX10_run_70 : decode cX10_run 70 = .ok (.aload_n 3, 1) := by decide +kernel
theorem dX10_run_71 : decode cX10_run 71 = .ok (.getfield 99, 3) := by decide +kernel
theorem dX10_run_74 : decode cX10_run 74 = .ok (.invokevirtual 215, 3) := by decide +kernel
theorem dX10_run_77 : decode cX10_run 77 = .ok (.goto 9, 3) := by decide +kernel
theorem dX10_run_80 : decode cX10_run 80 = .ok (.aload 4, 2) := by decide +kernel
theorem dX10_run_82 : decode cX10_run 82 = .ok (.aload_n 3, 1) := by decide +kernel
theorem dX10_run_83 : decode cX10_run 83 = .ok (.invokevirtual 218, 3) := by decide +kernel
theorem dX10_run_86 : decode cX10_run 86 = .ok (.ireturn, 1) := by decide +kernel
theorem dX10_run_87 : decode cX10_run 87 = .ok (.aload_n 0, 1) := by decide +kernel
theorem dX10_run_88 : decode cX10_run 88 = .ok (.iload_n 1, 1) := by decide +kernel
theorem dX10_run_89 : decode cX10_run 89 = .ok (.aload_n 0, 1) := by decide +kernel
theorem dX10_run_90 : decode cX10_run 90 = .ok (.iload_n 1, 1) := by decide +kernel
theorem dX10_run_91 : decode cX10_run 91 = .ok (.invokevirtual 212, 3) := by decide +kernel
theorem dX10_run_94 : decode cX10_run 94 = .ok (.invokevirtual 199, 3) := by decide +kernel
theorem dX10_run_97 : decode cX10_run 97 = .ok (.ireturn, 1) := by decide +kernel
theorem dX10_run_98 : decode cX10_run 98 = .ok (.iconst (-1), 1) := by decide +kernel
theorem dX10_run_99 : decode cX10_run 99 = .ok (.ireturn, 1) := by decide +kernel
theorem dX10_total_0 : decode cX10_total 0 = .ok (.aload_n 0, 1) := by decide +kernel
theorem dX10_total_1 : decode cX10_total 1 = .ok (.iload_n 1, 1) := by decide +kernel
theorem dX10_total_2 : decode cX10_total 2 = .ok (.invokevirtual 221, 3) := by decide +kernel
theorem dX10_total_5 : decode cX10_total 5 = .ok (.ifCond .ne 7, 3) := by decide +kernel
theorem dX10_total_8 : decode cX10_total 8 = .ok (.ldc2_w 171, 3) := by decide +kernel
theorem dX10_total_11 : decode cX10_total 11 = .ok (.lreturn, 1) := by decide +kernel
theorem dX10_total_12 : decode cX10_total 12 = .ok (.aload_n 0, 1) := by decide +kernel
theorem dX10_total_13 : decode cX10_total 13 = .ok (.getfield 28, 3) := by decide +kernel
theorem dX10_total_16 : decode cX10_total 16 = .ok (.aload_n 0, 1) := by decide +kernel
theorem dX10_total_17 : decode cX10_total 17 = .ok (.getfield 18, 3) := by decide +kernel
theorem dX10_total_20 : decode cX10_total 20 = .ok (.aload_n 0, 1) := by decide +kernel
theorem dX10_total_21 : decode cX10_total 21 = .ok (.getfield 22, 3) := by decide +kernel
theorem dX10_total_24 : decode cX10_total 24 = .ok (.invokevirtual 183, 3) := by decide +kernel
theorem dX10_total_27 : decode cX10_total 27 = .ok (.aload_n 0, 1) := by decide +kernel
theorem dX10_total_28 : decode cX10_total 28 = .ok (.getfield 28, 3) := by decide +kernel
theorem dX10_total_31 : decode cX10_total 31 = .ok (.iload_n 1, 1) := by decide +kernel
theorem dX10_total_32 : decode cX10_total 32 = .ok (.invokevirtual 187, 3) := by decide +kernel
theorem dX10_total_35 : decode cX10_total 35 = .ok (.lreturn, 1) := by decide +kernel
theorem dX10_room_0 : decode cX10_room 0 = .ok (.aload_n 0, 1) := by decide +kernel
theorem dX10_room_1 : decode cX10_room 1 = .ok (.iload_n 1, 1) := by decide +kernel
theorem dX10_room_2 : decode cX10_room 2 = .ok (.invokevirtual 221, 3) := by decide +kernel
theorem dX10_room_5 : decode cX10_room 5 = .ok (.ifCond .ne 5, 3) := by decide +kernel
theorem dX10_room_8 : decode cX10_room 8 = .ok (.iconst (-1), 1) := by decide +kernel
theorem dX10_room_9 : decode cX10_room 9 = .ok (.ireturn, 1) := by decide +kernel
theorem dX10_room_10 : decode cX10_room 10 = .ok (.iconst 0, 1) := by decide +kernel
theorem dX10_room_11 : decode cX10_room 11 = .ok (.istore_n 2, 1) := by decide +kernel
theorem dX10_room_12 : decode cX10_room 12 = .ok (.iconst 0, 1) := by decide +kernel
theorem dX10_room_13 : decode cX10_room 13 = .ok (.istore_n 3, 1) := by decide +kernel
theorem dX10_room_14 : decode cX10_room 14 = .ok (.iload_n 3, 1) := by decide +kernel
theorem dX10_room_15 : decode cX10_room 15 = .ok (.aload_n 0, 1) := by decide +kernel
theorem dX10_room_16 : decode cX10_room 16 = .ok (.getfield 22, 3) := by decide +kernel
theorem dX10_room_19 : decode cX10_room 19 = .ok (.invokevirtual 76, 3) := by decide +kernel
theorem dX10_room_22 : decode cX10_room 22 = .ok (.if_icmp .ge 38, 3) := by decide +kernel
theorem dX10_room_25 : decode cX10_room 25 = .ok (.iload_n 2, 1) := by decide +kernel
theorem dX10_room_26 : decode cX10_room 26 = .ok (.iload_n 3, 1) := by decide +kernel
theorem dX10_room_27 : decode cX10_room 27 = .ok (.iload_n 1, 1) := by decide +kernel
theorem dX10_room_28 : decode cX10_room 28 = .ok (.invokestatic 224, 3) := by decide +kernel
theorem dX10_room_31 : decode cX10_room 31 = .ok (.ifCond .eq 20, 3) := by decide +kernel
theorem dX10_room_34 : decode cX10_room 34 = .ok (.aload_n 0, 1) := by decide +kernel
theorem dX10_room_35 : decode cX10_room 35 = .ok (.getfield 22, 3) := by decide +kernel
theorem dX10_room_38 : decode cX10_room 38 = .ok (.iload_n 3, 1) := by decide +kernel
theorem dX10_room_39 : decode cX10_room 39 = .ok (.invokevirtual 202, 3) := by decide +kernel
theorem dX10_room_42 : decode cX10_room 42 = .ok (.checkcast 159, 3) := by decide +kernel
theorem dX10_room_45 : decode cX10_room 45 = .ok (.invokevirtual 180, 3) := by decide +kernel
theorem dX10_room_48 : decode cX10_room 48 = .ok (.goto 4, 3) := by decide +kernel
theorem dX10_room_51 : decode cX10_room 51 = .ok (.iconst 0, 1) := by decide +kernel
theorem dX10_room_52 : decode cX10_room 52 = .ok (.iadd, 1) := by decide +kernel
theorem dX10_room_53 : decode cX10_room 53 = .ok (.istore_n 2, 1) := by decide +kernel
theorem dX10_room_54 : decode cX10_room 54 = .ok (.iinc 3 1, 3) := by decide +kernel
theorem dX10_room_57 : decode cX10_room 57 = .ok (.goto (-43), 3) := by decide +kernel
theorem dX10_room_60 : decode cX10_room 60 = .ok (.iload_n 2, 1) := by decide +kernel
theorem dX10_room_61 : decode cX10_room 61 = .ok (.ireturn, 1) := by decide +kernel
theorem dX10_built_0 : decode cX10_built 0 = .ok (.iconst 0, 1) := by decide +kernel
theorem dX10_built_1 : decode cX10_built 1 = .ok (.istore_n 1, 1) := by decide +kernel
theorem dX10_built_2 : decode cX10_built 2 = .ok (.iconst 0, 1) := by decide +kernel
theorem dX10_built_3 : decode cX10_built 3 = .ok (.istore_n 2, 1) := by decide +kernel
theorem dX10_built_4 : decode cX10_built 4 = .ok (.iload_n 2, 1) := by decide +kernel
theorem dX10_built_5 : decode cX10_built 5 = .ok (.aload_n 0, 1) := by decide +kernel
theorem dX10_built_6 : decode cX10_built 6 = .ok (.getfield 22, 3) := by decide +kernel
theorem dX10_built_9 : decode cX10_built 9 = .ok (.invokevirtual 76, 3) := by decide +kernel
theorem dX10_built_12 : decode cX10_built 12 = .ok (.if_icmp .ge 37, 3) := by decide +kernel
theorem dX10_built_15 : decode cX10_built 15 = .ok (.iload_n 1, 1) := by decide +kernel
theorem dX10_built_16 : decode cX10_built 16 = .ok (.aload_n 0, 1) := by decide +kernel
theorem dX10_built_17 : decode cX10_built 17 = .ok (.getfield 22, 3) := by decide +kernel
theorem dX10_built_20 : decode cX10_built 20 = .ok (.iload_n 2, 1) := by decide +kernel
theorem dX10_built_21 : decode cX10_built 21 = .ok (.invokevirtual 202, 3) := by decide +kernel
theorem dX10_built_24 : decode cX10_built 24 = .ok (.checkcast 159, 3) := by decide +kernel
theorem dX10_built_27 : decode cX10_built 27 = .ok (.getfield 158, 3) := by decide +kernel
theorem dX10_built_30 : decode cX10_built 30 = .ok (.ifCond .eq 10, 3) := by decide +kernel
theorem dX10_built_33 : decode cX10_built 33 = .ok (.iload_n 2, 1) := by decide +kernel
theorem dX10_built_34 : decode cX10_built 34 = .ok (.invokestatic 120, 3) := by decide +kernel
theorem dX10_built_37 : decode cX10_built 37 = .ok (.goto 4, 3) := by decide +kernel
theorem dX10_built_40 : decode cX10_built 40 = .ok (.iconst 0, 1) := by decide +kernel
theorem dX10_built_41 : decode cX10_built 41 = .ok (.ior, 1) := by decide +kernel
theorem dX10_built_42 : decode cX10_built 42 = .ok (.istore_n 1, 1) := by decide +kernel
theorem dX10_built_43 : decode cX10_built 43 = .ok (.iinc 2 1, 3) := by decide +kernel
theorem dX10_built_46 : decode cX10_built 46 = .ok (.goto (-42), 3) := by decide +kernel
theorem dX10_built_49 : decode cX10_built 49 = .ok (.iload_n 1, 1) := by decide +kernel
theorem dX10_built_50 : decode cX10_built 50 = .ok (.ireturn, 1) := by decide +kernel
theorem dX10_choose_0 : decode cX10_choose 0 = .ok (.iload_n 1, 1) := by decide +kernel
theorem dX10_choose_1 : decode cX10_choose 1 = .ok (.iconst 0, 1) := by decide +kernel
theorem dX10_choose_2 : decode cX10_choose 2 = .ok (.sipush 10000, 3) := by decide +kernel
theorem dX10_choose_5 : decode cX10_choose 5 = .ok (.invokestatic 32, 3) := by decide +kernel
theorem dX10_choose_8 : decode cX10_choose 8 = .ok (.ifCond .ne 5, 3) := by decide +kernel
theorem dX10_choose_11 : decode cX10_choose 11 = .ok (.iconst (-1), 1) := by decide +kernel
theorem dX10_choose_12 : decode cX10_choose 12 = .ok (.ireturn, 1) := by decide +kernel
theorem dX10_choose_13 : decode cX10_choose 13 = .ok (.aload_n 0, 1) := by decide +kernel
theorem dX10_choose_14 : decode cX10_choose 14 = .ok (.getfield 28, 3) := by decide +kernel
theorem dX10_choose_17 : decode cX10_choose 17 = .ok (.aload_n 0, 1) := by decide +kernel
theorem dX10_choose_18 : decode cX10_choose 18 = .ok (.getfield 18, 3) := by decide +kernel
theorem dX10_choose_21 : decode cX10_choose 21 = .ok (.aload_n 0, 1) := by decide +kernel
theorem dX10_choose_22 : decode cX10_choose 22 = .ok (.getfield 22, 3) := by decide +kernel
theorem dX10_choose_25 : decode cX10_choose 25 = .ok (.invokevirtual 183, 3) := by decide +kernel
theorem dX10_choose_28 : decode cX10_choose 28 = .ok (.aload_n 0, 1) := by decide +kernel
theorem dX10_choose_29 : decode cX10_choose 29 = .ok (.getfield 28, 3) := by decide +kernel
theorem dX10_choose_32 : decode cX10_choose 32 = .ok (.iload_n 1, 1) := by decide +kernel
theorem dX10_choose_33 : decode cX10_choose 33 = .ok (.invokevirtual 227, 3) := by decide +kernel
theorem dX10_choose_36 : decode cX10_choose 36 = .ok (.ireturn, 1) := by decide +kernel
theorem dX10_greedy_0 : decode cX10_greedy 0 = .ok (.iload_n 1, 1) := by decide +kernel
theorem dX10_greedy_1 : decode cX10_greedy 1 = .ok (.iconst 0, 1) := by decide +kernel
theorem dX10_greedy_2 : decode cX10_greedy 2 = .ok (.sipush 10000, 3) := by decide +kernel
theorem dX10_greedy_5 : decode cX10_greedy 5 = .ok (.invokestatic 32, 3) := by decide +kernel
theorem dX10_greedy_8 : decode cX10_greedy 8 = .ok (.ifCond .ne 5, 3) := by decide +kernel
theorem dX10_greedy_11 : decode cX10_greedy 11 = .ok (.iconst (-1), 1) := by decide +kernel
theorem dX10_greedy_12 : decode cX10_greedy 12 = .ok (.ireturn, 1) := by decide +kernel
theorem dX10_greedy_13 : decode cX10_greedy 13 = .ok (.aload_n 0, 1) := by decide +kernel
theorem dX10_greedy_14 : decode cX10_greedy 14 = .ok (.getfield 28, 3) := by decide +kernel
theorem dX10_greedy_17 : decode cX10_greedy 17 = .ok (.aload_n 0, 1) := by decide +kernel
theorem dX10_greedy_18 : decode cX10_greedy 18 = .ok (.getfield 18, 3) := by decide +kernel
theorem dX10_greedy_21 : decode cX10_greedy 21 = .ok (.aload_n 0, 1) := by decide +kernel
theorem dX10_greedy_22 : decode cX10_greedy 22 = .ok (.getfield 22, 3) := by decide +kernel
theorem dX10_greedy_25 : decode cX10_greedy 25 = .ok (.invokevirtual 183, 3) := by decide +kernel
theorem dX10_greedy_28 : decode cX10_greedy 28 = .ok (.aload_n 0, 1) := by decide +kernel
theorem dX10_greedy_29 : decode cX10_greedy 29 = .ok (.getfield 28, 3) := by decide +kernel
theorem dX10_greedy_32 : decode cX10_greedy 32 = .ok (.iload_n 1, 1) := by decide +kernel
theorem dX10_greedy_33 : decode cX10_greedy 33 = .ok (.invokevirtual 230, 3) := by decide +kernel
theorem dX10_greedy_36 : decode cX10_greedy 36 = .ok (.ireturn, 1) := by decide +kernel
theorem dX10_count_0 : decode cX10_count 0 = .ok (.iload_n 1, 1) := by decide +kernel
theorem dX10_count_1 : decode cX10_count 1 = .ok (.tableswitch 57 0 3 #[31, 36, 44, 52], 31) := by decide +kernel
theorem dX10_count_32 : decode cX10_count 32 = .ok (.aload_n 0, 1) := by decide +kernel
theorem dX10_count_33 : decode cX10_count 33 = .ok (.invokevirtual 233, 3) := by decide +kernel
theorem dX10_count_36 : decode cX10_count 36 = .ok (.ireturn, 1) := by decide +kernel
theorem dX10_count_37 : decode cX10_count 37 = .ok (.aload_n 0, 1) := by decide +kernel
theorem dX10_count_38 : decode cX10_count 38 = .ok (.getfield 18, 3) := by decide +kernel
theorem dX10_count_41 : decode cX10_count 41 = .ok (.invokevirtual 76, 3) := by decide +kernel
theorem dX10_count_44 : decode cX10_count 44 = .ok (.ireturn, 1) := by decide +kernel
theorem dX10_count_45 : decode cX10_count 45 = .ok (.aload_n 0, 1) := by decide +kernel
theorem dX10_count_46 : decode cX10_count 46 = .ok (.getfield 22, 3) := by decide +kernel
theorem dX10_count_49 : decode cX10_count 49 = .ok (.invokevirtual 76, 3) := by decide +kernel
theorem dX10_count_52 : decode cX10_count 52 = .ok (.ireturn, 1) := by decide +kernel
theorem dX10_count_53 : decode cX10_count 53 = .ok (.aload_n 0, 1) := by decide +kernel
theorem dX10_count_54 : decode cX10_count 54 = .ok (.invokevirtual 236, 3) := by decide +kernel
theorem dX10_count_57 : decode cX10_count 57 = .ok (.ireturn, 1) := by decide +kernel
theorem dX10_count_58 : decode cX10_count 58 = .ok (.iconst (-1), 1) := by decide +kernel
theorem dX10_count_59 : decode cX10_count 59 = .ok (.ireturn, 1) := by decide +kernel
theorem dX10_tableAt_0 : decode cX10_tableAt 0 = .ok (.iload_n 1, 1) := by decide +kernel
theorem dX10_tableAt_1 : decode cX10_tableAt 1 = .ok (.iconst 0, 1) := by decide +kernel
theorem dX10_tableAt_2 : decode cX10_tableAt 2 = .ok (.iconst 3, 1) := by decide +kernel
theorem dX10_tableAt_3 : decode cX10_tableAt 3 = .ok (.invokestatic 32, 3) := by decide +kernel
theorem dX10_tableAt_6 : decode cX10_tableAt 6 = .ok (.ifCond .eq 12, 3) := by decide +kernel
theorem dX10_tableAt_9 : decode cX10_tableAt 9 = .ok (.aload_n 0, 1) := by decide +kernel
theorem dX10_tableAt_10 : decode cX10_tableAt 10 = .ok (.getfield 11, 3) := by decide +kernel
theorem dX10_tableAt_13 : decode cX10_tableAt 13 = .ok (.iload_n 1, 1) := by decide +kernel
theorem dX10_tableAt_14 : decode cX10_tableAt 14 = .ok (.aaload, 1) := by decide +kernel
theorem dX10_tableAt_15 : decode cX10_tableAt 15 = .ok (.goto 4, 3) := by decide +kernel
theorem dX10_tableAt_18 : decode cX10_tableAt 18 = .ok (.aconst_null, 1) := by decide +kernel
theorem dX10_tableAt_19 : decode cX10_tableAt 19 = .ok (.areturn, 1) := by decide +kernel
theorem dX10_questionAt_0 : decode cX10_questionAt 0 = .ok (.iload_n 1, 1) := by decide +kernel
theorem dX10_questionAt_1 : decode cX10_questionAt 1 = .ok (.iconst 0, 1) := by decide +kernel
theorem dX10_questionAt_2 : decode cX10_questionAt 2 = .ok (.aload_n 0, 1) := by decide +kernel
theorem dX10_questionAt_3 : decode cX10_questionAt 3 = .ok (.getfield 18, 3) := by decide +kernel
theorem dX10_questionAt_6 : decode cX10_questionAt 6 = .ok (.invokevirtual 76, 3) := by decide +kernel
theorem dX10_questionAt_9 : decode cX10_questionAt 9 = .ok (.iconst 1, 1) := by decide +kernel
theorem dX10_questionAt_10 : decode cX10_questionAt 10 = .ok (.isub, 1) := by decide +kernel
theorem dX10_questionAt_11 : decode cX10_questionAt 11 = .ok (.invokestatic 32, 3) := by decide +kernel
theorem dX10_questionAt_14 : decode cX10_questionAt 14 = .ok (.ifCond .eq 17, 3) := by decide +kernel
theorem dX10_questionAt_17 : decode cX10_questionAt 17 = .ok (.aload_n 0, 1) := by decide +kernel
theorem dX10_questionAt_18 : decode cX10_questionAt 18 = .ok (.getfield 18, 3) := by decide +kernel
theorem dX10_questionAt_21 : decode cX10_questionAt 21 = .ok (.iload_n 1, 1) := by decide +kernel
theorem dX10_questionAt_22 : decode cX10_questionAt 22 = .ok (.invokevirtual 202, 3) := by decide +kernel
theorem dX10_questionAt_25 : decode cX10_questionAt 25 = .ok (.checkcast 86, 3) := by decide +kernel
theorem dX10_questionAt_28 : decode cX10_questionAt 28 = .ok (.goto 4, 3) := by decide +kernel
theorem dX10_questionAt_31 : decode cX10_questionAt 31 = .ok (.aconst_null, 1) := by decide +kernel
theorem dX10_questionAt_32 : decode cX10_questionAt 32 = .ok (.areturn, 1) := by decide +kernel
theorem dX10_aidAt_0 : decode cX10_aidAt 0 = .ok (.iload_n 1, 1) := by decide +kernel
theorem dX10_aidAt_1 : decode cX10_aidAt 1 = .ok (.iconst 0, 1) := by decide +kernel
theorem dX10_aidAt_2 : decode cX10_aidAt 2 = .ok (.aload_n 0, 1) := by decide +kernel
theorem dX10_aidAt_3 : decode cX10_aidAt 3 = .ok (.getfield 22, 3) := by decide +kernel
theorem dX10_aidAt_6 : decode cX10_aidAt 6 = .ok (.invokevirtual 76, 3) := by decide +kernel
theorem dX10_aidAt_9 : decode cX10_aidAt 9 = .ok (.iconst 1, 1) := by decide +kernel
theorem dX10_aidAt_10 : decode cX10_aidAt 10 = .ok (.isub, 1) := by decide +kernel
theorem dX10_aidAt_11 : decode cX10_aidAt 11 = .ok (.invokestatic 32, 3) := by decide +kernel
theorem dX10_aidAt_14 : decode cX10_aidAt 14 = .ok (.ifCond .eq 17, 3) := by decide +kernel
theorem dX10_aidAt_17 : decode cX10_aidAt 17 = .ok (.aload_n 0, 1) := by decide +kernel
theorem dX10_aidAt_18 : decode cX10_aidAt 18 = .ok (.getfield 22, 3) := by decide +kernel
theorem dX10_aidAt_21 : decode cX10_aidAt 21 = .ok (.iload_n 1, 1) := by decide +kernel
theorem dX10_aidAt_22 : decode cX10_aidAt 22 = .ok (.invokevirtual 202, 3) := by decide +kernel
theorem dX10_aidAt_25 : decode cX10_aidAt 25 = .ok (.checkcast 159, 3) := by decide +kernel
theorem dX10_aidAt_28 : decode cX10_aidAt 28 = .ok (.goto 4, 3) := by decide +kernel
theorem dX10_aidAt_31 : decode cX10_aidAt 31 = .ok (.aconst_null, 1) := by decide +kernel
theorem dX10_aidAt_32 : decode cX10_aidAt 32 = .ok (.areturn, 1) := by decide +kernel
theorem dX10_tableForAid_0 : decode cX10_tableForAid 0 = .ok (.aload_n 0, 1) := by decide +kernel
theorem dX10_tableForAid_1 : decode cX10_tableForAid 1 = .ok (.getfield 22, 3) := by decide +kernel
theorem dX10_tableForAid_4 : decode cX10_tableForAid 4 = .ok (.invokevirtual 76, 3) := by decide +kernel
theorem dX10_tableForAid_7 : decode cX10_tableForAid 7 = .ok (.bipush 12, 2) := by decide +kernel
theorem dX10_tableForAid_9 : decode cX10_tableForAid 9 = .ok (.if_icmp .ge 11, 3) := by decide +kernel
theorem dX10_tableForAid_12 : decode cX10_tableForAid 12 = .ok (.aload_n 0, 1) := by decide +kernel
theorem dX10_tableForAid_13 : decode cX10_tableForAid 13 = .ok (.iload_n 1, 1) := by decide +kernel
theorem dX10_tableForAid_14 : decode cX10_tableForAid 14 = .ok (.invokevirtual 39, 3) := by decide +kernel
theorem dX10_tableForAid_17 : decode cX10_tableForAid 17 = .ok (.goto 4, 3) := by decide +kernel
theorem dX10_tableForAid_20 : decode cX10_tableForAid 20 = .ok (.aconst_null, 1) := by decide +kernel
theorem dX10_tableForAid_21 : decode cX10_tableForAid 21 = .ok (.areturn, 1) := by decide +kernel
theorem dX10_enlist_0 : decode cX10_enlist 0 = .ok (.aload_n 0, 1) := by decide +kernel
theorem dX10_enlist_1 : decode cX10_enlist 1 = .ok (.getfield 22, 3) := by decide +kernel
theorem dX10_enlist_4 : decode cX10_enlist 4 = .ok (.aload_n 1, 1) := by decide +kernel
theorem dX10_enlist_5 : decode cX10_enlist 5 = .ok (.invokevirtual 91, 3) := by decide +kernel
theorem dX10_enlist_8 : decode cX10_enlist 8 = .ok (.pop, 1) := by decide +kernel
theorem dX10_enlist_9 : decode cX10_enlist 9 = .ok (.aload_n 0, 1) := by decide +kernel
theorem dX10_enlist_10 : decode cX10_enlist 10 = .ok (.getfield 22, 3) := by decide +kernel
theorem dX10_enlist_13 : decode cX10_enlist 13 = .ok (.invokevirtual 76, 3) := by decide +kernel
theorem dX10_enlist_16 : decode cX10_enlist 16 = .ok (.iconst 1, 1) := by decide +kernel
theorem dX10_enlist_17 : decode cX10_enlist 17 = .ok (.isub, 1) := by decide +kernel
theorem dX10_enlist_18 : decode cX10_enlist 18 = .ok (.ireturn, 1) := by decide +kernel
theorem dX10_isSet_0 : decode cX10_isSet 0 = .ok (.iload_n 1, 1) := by decide +kernel
theorem dX10_isSet_1 : decode cX10_isSet 1 = .ok (.aload_n 0, 1) := by decide +kernel
theorem dX10_isSet_2 : decode cX10_isSet 2 = .ok (.getfield 22, 3) := by decide +kernel
theorem dX10_isSet_5 : decode cX10_isSet 5 = .ok (.invokevirtual 76, 3) := by decide +kernel
theorem dX10_isSet_8 : decode cX10_isSet 8 = .ok (.iushr, 1) := by decide +kernel
theorem dX10_isSet_9 : decode cX10_isSet 9 = .ok (.ifCond .eq 5, 3) := by decide +kernel
theorem dX10_isSet_12 : decode cX10_isSet 12 = .ok (.iconst 0, 1) := by decide +kernel
theorem dX10_isSet_13 : decode cX10_isSet 13 = .ok (.ireturn, 1) := by decide +kernel
theorem dX10_isSet_14 : decode cX10_isSet 14 = .ok (.iconst 0, 1) := by decide +kernel
theorem dX10_isSet_15 : decode cX10_isSet 15 = .ok (.istore_n 2, 1) := by decide +kernel
theorem dX10_isSet_16 : decode cX10_isSet 16 = .ok (.iload_n 2, 1) := by decide +kernel
theorem dX10_isSet_17 : decode cX10_isSet 17 = .ok (.aload_n 0, 1) := by decide +kernel
theorem dX10_isSet_18 : decode cX10_isSet 18 = .ok (.getfield 22, 3) := by decide +kernel
theorem dX10_isSet_21 : decode cX10_isSet 21 = .ok (.invokevirtual 76, 3) := by decide +kernel
theorem dX10_isSet_24 : decode cX10_isSet 24 = .ok (.if_icmp .ge 32, 3) := by decide +kernel
theorem dX10_isSet_27 : decode cX10_isSet 27 = .ok (.iload_n 2, 1) := by decide +kernel
theorem dX10_isSet_28 : decode cX10_isSet 28 = .ok (.iload_n 1, 1) := by decide +kernel
theorem dX10_isSet_29 : decode cX10_isSet 29 = .ok (.invokestatic 224, 3) := by decide +kernel
theorem dX10_isSet_32 : decode cX10_isSet 32 = .ok (.ifCond .eq 18, 3) := by decide +kernel
theorem dX10_isSet_35 : decode cX10_isSet 35 = .ok (.aload_n 0, 1) := by decide +kernel
theorem dX10_isSet_36 : decode cX10_isSet 36 = .ok (.getfield 22, 3) := by decide +kernel
theorem dX10_isSet_39 : decode cX10_isSet 39 = .ok (.iload_n 2, 1) := by decide +kernel
theorem dX10_isSet_40 : decode cX10_isSet 40 = .ok (.invokestatic 164, 3) := by decide +kernel
theorem dX10_isSet_43 : decode cX10_isSet 43 = .ok (.iload_n 1, 1) := by decide +kernel
theorem dX10_isSet_44 : decode cX10_isSet 44 = .ok (.iand, 1) := by decide +kernel
theorem dX10_isSet_45 : decode cX10_isSet 45 = .ok (.ifCond .eq 5, 3) := by decide +kernel
theorem dX10_isSet_48 : decode cX10_isSet 48 = .ok (.iconst 0, 1) := by decide +kernel
theorem dX10_isSet_49 : decode cX10_isSet 49 = .ok (.ireturn, 1) := by decide +kernel
theorem dX10_isSet_50 : decode cX10_isSet 50 = .ok (.iinc 2 1, 3) := by decide +kernel
theorem dX10_isSet_53 : decode cX10_isSet 53 = .ok (.goto (-37), 3) := by decide +kernel
theorem dX10_isSet_56 : decode cX10_isSet 56 = .ok (.iconst 1, 1) := by decide +kernel
theorem dX10_isSet_57 : decode cX10_isSet 57 = .ok (.ireturn, 1) := by decide +kernel
theorem dX10_tablesTold_0 : decode cX10_tablesTold 0 = .ok (.iconst 0, 1) := by decide +kernel
theorem dX10_tablesTold_1 : decode cX10_tablesTold 1 = .ok (.istore_n 1, 1) := by decide +kernel
theorem dX10_tablesTold_2 : decode cX10_tablesTold 2 = .ok (.aload_n 0, 1) := by decide +kernel
theorem dX10_tablesTold_3 : decode cX10_tablesTold 3 = .ok (.getfield 11, 3) := by decide +kernel
theorem dX10_tablesTold_6 : decode cX10_tablesTold 6 = .ok (.astore_n 2, 1) := by decide +kernel
theorem dX10_tablesTold_7 : decode cX10_tablesTold 7 = .ok (.aload_n 2, 1) := by decide +kernel
theorem dX10_tablesTold_8 : decode cX10_tablesTold 8 = .ok (.arraylength, 1) := by decide +kernel
theorem dX10_tablesTold_9 : decode cX10_tablesTold 9 = .ok (.istore_n 3, 1) := by decide +kernel
theorem dX10_tablesTold_10 : decode cX10_tablesTold 10 = .ok (.iconst 0, 1) := by decide +kernel
theorem dX10_tablesTold_11 : decode cX10_tablesTold 11 = .ok (.istore 4, 2) := by decide +kernel
theorem dX10_tablesTold_13 : decode cX10_tablesTold 13 = .ok (.iload 4, 2) := by decide +kernel
theorem dX10_tablesTold_15 : decode cX10_tablesTold 15 = .ok (.iload_n 3, 1) := by decide +kernel
theorem dX10_tablesTold_16 : decode cX10_tablesTold 16 = .ok (.if_icmp .ge 28, 3) := by decide +kernel
theorem dX10_tablesTold_19 : decode cX10_tablesTold 19 = .ok (.aload_n 2, 1) := by decide +kernel
theorem dX10_tablesTold_20 : decode cX10_tablesTold 20 = .ok (.iload 4, 2) := by decide +kernel
theorem dX10_tablesTold_22 : decode cX10_tablesTold 22 = .ok (.aaload, 1) := by decide +kernel
theorem dX10_tablesTold_23 : decode cX10_tablesTold 23 = .ok (.astore 5, 2) := by decide +kernel
theorem dX10_tablesTold_25 : decode cX10_tablesTold 25 = .ok (.iload_n 1, 1) := by decide +kernel
theorem dX10_tablesTold_26 : decode cX10_tablesTold 26 = .ok (.aload 5, 2) := by decide +kernel
theorem dX10_tablesTold_28 : decode cX10_tablesTold 28 = .ok (.ifnonnull 7, 3) := by decide +kernel
theorem dX10_tablesTold_31 : decode cX10_tablesTold 31 = .ok (.iconst 0, 1) := by decide +kernel
theorem dX10_tablesTold_32 : decode cX10_tablesTold 32 = .ok (.goto 4, 3) := by decide +kernel
theorem dX10_tablesTold_35 : decode cX10_tablesTold 35 = .ok (.iconst 1, 1) := by decide +kernel
theorem dX10_tablesTold_36 : decode cX10_tablesTold 36 = .ok (.iadd, 1) := by decide +kernel
theorem dX10_tablesTold_37 : decode cX10_tablesTold 37 = .ok (.istore_n 1, 1) := by decide +kernel
theorem dX10_tablesTold_38 : decode cX10_tablesTold 38 = .ok (.iinc 4 1, 3) := by decide +kernel
theorem dX10_tablesTold_41 : decode cX10_tablesTold 41 = .ok (.goto (-28), 3) := by decide +kernel
theorem dX10_tablesTold_44 : decode cX10_tablesTold 44 = .ok (.iload_n 1, 1) := by decide +kernel
theorem dX10_tablesTold_45 : decode cX10_tablesTold 45 = .ok (.ireturn, 1) := by decide +kernel
theorem dX10_rowsInAll_0 : decode cX10_rowsInAll 0 = .ok (.iconst 0, 1) := by decide +kernel
theorem dX10_rowsInAll_1 : decode cX10_rowsInAll 1 = .ok (.istore_n 1, 1) := by decide +kernel
theorem dX10_rowsInAll_2 : decode cX10_rowsInAll 2 = .ok (.aload_n 0, 1) := by decide +kernel
theorem dX10_rowsInAll_3 : decode cX10_rowsInAll 3 = .ok (.getfield 11, 3) := by decide +kernel
theorem dX10_rowsInAll_6 : decode cX10_rowsInAll 6 = .ok (.astore_n 2, 1) := by decide +kernel
theorem dX10_rowsInAll_7 : decode cX10_rowsInAll 7 = .ok (.aload_n 2, 1) := by decide +kernel
theorem dX10_rowsInAll_8 : decode cX10_rowsInAll 8 = .ok (.arraylength, 1) := by decide +kernel
theorem dX10_rowsInAll_9 : decode cX10_rowsInAll 9 = .ok (.istore_n 3, 1) := by decide +kernel
theorem dX10_rowsInAll_10 : decode cX10_rowsInAll 10 = .ok (.iconst 0, 1) := by decide +kernel
theorem dX10_rowsInAll_11 : decode cX10_rowsInAll 11 = .ok (.istore 4, 2) := by decide +kernel
theorem dX10_rowsInAll_13 : decode cX10_rowsInAll 13 = .ok (.iload 4, 2) := by decide +kernel
theorem dX10_rowsInAll_15 : decode cX10_rowsInAll 15 = .ok (.iload_n 3, 1) := by decide +kernel
theorem dX10_rowsInAll_16 : decode cX10_rowsInAll 16 = .ok (.if_icmp .ge 32, 3) := by decide +kernel
theorem dX10_rowsInAll_19 : decode cX10_rowsInAll 19 = .ok (.aload_n 2, 1) := by decide +kernel
theorem dX10_rowsInAll_20 : decode cX10_rowsInAll 20 = .ok (.iload 4, 2) := by decide +kernel
theorem dX10_rowsInAll_22 : decode cX10_rowsInAll 22 = .ok (.aaload, 1) := by decide +kernel
theorem dX10_rowsInAll_23 : decode cX10_rowsInAll 23 = .ok (.astore 5, 2) := by decide +kernel
theorem dX10_rowsInAll_25 : decode cX10_rowsInAll 25 = .ok (.iload_n 1, 1) := by decide +kernel
theorem dX10_rowsInAll_26 : decode cX10_rowsInAll 26 = .ok (.aload 5, 2) := by decide +kernel
theorem dX10_rowsInAll_28 : decode cX10_rowsInAll 28 = .ok (.ifnonnull 7, 3) := by decide +kernel
theorem dX10_rowsInAll_31 : decode cX10_rowsInAll 31 = .ok (.iconst 0, 1) := by decide +kernel
theorem dX10_rowsInAll_32 : decode cX10_rowsInAll 32 = .ok (.goto 8, 3) := by decide +kernel
theorem dX10_rowsInAll_35 : decode cX10_rowsInAll 35 = .ok (.aload 5, 2) := by decide +kernel
theorem dX10_rowsInAll_37 : decode cX10_rowsInAll 37 = .ok (.getfield 43, 3) := by decide +kernel
theorem dX10_rowsInAll_40 : decode cX10_rowsInAll 40 = .ok (.iadd, 1) := by decide +kernel
theorem dX10_rowsInAll_41 : decode cX10_rowsInAll 41 = .ok (.istore_n 1, 1) := by decide +kernel
theorem dX10_rowsInAll_42 : decode cX10_rowsInAll 42 = .ok (.iinc 4 1, 3) := by decide +kernel
theorem dX10_rowsInAll_45 : decode cX10_rowsInAll 45 = .ok (.goto (-32), 3) := by decide +kernel
theorem dX10_rowsInAll_48 : decode cX10_rowsInAll 48 = .ok (.iload_n 1, 1) := by decide +kernel
theorem dX10_rowsInAll_49 : decode cX10_rowsInAll 49 = .ok (.ireturn, 1) := by decide +kernel
theorem dX10_canOrderBy_0 : decode cX10_canOrderBy 0 = .ok (.aload_n 0, 1) := by decide +kernel
theorem dX10_canOrderBy_1 : decode cX10_canOrderBy 1 = .ok (.iload_n 1, 1) := by decide +kernel
theorem dX10_canOrderBy_2 : decode cX10_canOrderBy 2 = .ok (.invokevirtual 103, 3) := by decide +kernel
theorem dX10_canOrderBy_5 : decode cX10_canOrderBy 5 = .ok (.ifCond .eq 19, 3) := by decide +kernel
theorem dX10_canOrderBy_8 : decode cX10_canOrderBy 8 = .ok (.aload_n 0, 1) := by decide +kernel
theorem dX10_canOrderBy_9 : decode cX10_canOrderBy 9 = .ok (.iload_n 2, 1) := by decide +kernel
theorem dX10_canOrderBy_10 : decode cX10_canOrderBy 10 = .ok (.invokevirtual 83, 3) := by decide +kernel
theorem dX10_canOrderBy_13 : decode cX10_canOrderBy 13 = .ok (.ifCond .eq 11, 3) := by decide +kernel
theorem dX10_canOrderBy_16 : decode cX10_canOrderBy 16 = .ok (.aload_n 0, 1) := by decide +kernel
theorem dX10_canOrderBy_17 : decode cX10_canOrderBy 17 = .ok (.iload_n 3, 1) := by decide +kernel
theorem dX10_canOrderBy_18 : decode cX10_canOrderBy 18 = .ok (.invokevirtual 83, 3) := by decide +kernel
theorem dX10_canOrderBy_21 : decode cX10_canOrderBy 21 = .ok (.ifCond .ne 5, 3) := by decide +kernel
theorem dX10_canOrderBy_24 : decode cX10_canOrderBy 24 = .ok (.iconst 0, 1) := by decide +kernel
theorem dX10_canOrderBy_25 : decode cX10_canOrderBy 25 = .ok (.ireturn, 1) := by decide +kernel
theorem dX10_canOrderBy_26 : decode cX10_canOrderBy 26 = .ok (.iload_n 2, 1) := by decide +kernel
theorem dX10_canOrderBy_27 : decode cX10_canOrderBy 27 = .ok (.iconst (-1), 1) := by decide +kernel
theorem dX10_canOrderBy_28 : decode cX10_canOrderBy 28 = .ok (.if_icmp .ne 14, 3) := by decide +kernel
theorem dX10_canOrderBy_31 : decode cX10_canOrderBy 31 = .ok (.iload_n 3, 1) := by decide +kernel
theorem dX10_canOrderBy_32 : decode cX10_canOrderBy 32 = .ok (.iconst (-1), 1) := by decide +kernel
theorem dX10_canOrderBy_33 : decode cX10_canOrderBy 33 = .ok (.if_icmp .ne 7, 3) := by decide +kernel
theorem dX10_canOrderBy_36 : decode cX10_canOrderBy 36 = .ok (.iconst 1, 1) := by decide +kernel
theorem dX10_canOrderBy_37 : decode cX10_canOrderBy 37 = .ok (.goto 4, 3) := by decide +kernel
theorem dX10_canOrderBy_40 : decode cX10_canOrderBy 40 = .ok (.iconst 0, 1) := by decide +kernel
theorem dX10_canOrderBy_41 : decode cX10_canOrderBy 41 = .ok (.ireturn, 1) := by decide +kernel
theorem dX10_canOrderBy_42 : decode cX10_canOrderBy 42 = .ok (.iload_n 1, 1) := by decide +kernel
theorem dX10_canOrderBy_43 : decode cX10_canOrderBy 43 = .ok (.iload_n 2, 1) := by decide +kernel
theorem dX10_canOrderBy_44 : decode cX10_canOrderBy 44 = .ok (.if_icmp .eq 17, 3) := by decide +kernel
theorem dX10_canOrderBy_47 : decode cX10_canOrderBy 47 = .ok (.iload_n 1, 1) := by decide +kernel
theorem dX10_canOrderBy_48 : decode cX10_canOrderBy 48 = .ok (.iload_n 3, 1) := by decide +kernel
theorem dX10_canOrderBy_49 : decode cX10_canOrderBy 49 = .ok (.if_icmp .eq 12, 3) := by decide +kernel
theorem dX10_canOrderBy_52 : decode cX10_canOrderBy 52 = .ok (.iload_n 2, 1) := by decide +kernel
theorem dX10_canOrderBy_53 : decode cX10_canOrderBy 53 = .ok (.iload_n 3, 1) := by decide +kernel
theorem dX10_canOrderBy_54 : decode cX10_canOrderBy 54 = .ok (.if_icmp .eq 7, 3) := by decide +kernel
theorem dX10_canOrderBy_57 : decode cX10_canOrderBy 57 = .ok (.iconst 1, 1) := by decide +kernel
theorem dX10_canOrderBy_58 : decode cX10_canOrderBy 58 = .ok (.goto 4, 3) := by decide +kernel
theorem dX10_canOrderBy_61 : decode cX10_canOrderBy 61 = .ok (.iconst 0, 1) := by decide +kernel
theorem dX10_canOrderBy_62 : decode cX10_canOrderBy 62 = .ok (.ireturn, 1) := by decide +kernel
theorem dX10_rivalsOf_0 : decode cX10_rivalsOf 0 = .ok (.iload_n 1, 1) := by decide +kernel
theorem dX10_rivalsOf_1 : decode cX10_rivalsOf 1 = .ok (.iconst 0, 1) := by decide +kernel
theorem dX10_rivalsOf_2 : decode cX10_rivalsOf 2 = .ok (.aload_n 0, 1) := by decide +kernel
theorem dX10_rivalsOf_3 : decode cX10_rivalsOf 3 = .ok (.invokevirtual 76, 3) := by decide +kernel
theorem dX10_rivalsOf_6 : decode cX10_rivalsOf 6 = .ok (.iconst 1, 1) := by decide +kernel
theorem dX10_rivalsOf_7 : decode cX10_rivalsOf 7 = .ok (.isub, 1) := by decide +kernel
theorem dX10_rivalsOf_8 : decode cX10_rivalsOf 8 = .ok (.invokestatic 32, 3) := by decide +kernel
theorem dX10_rivalsOf_11 : decode cX10_rivalsOf 11 = .ok (.ifCond .eq 18, 3) := by decide +kernel
theorem dX10_rivalsOf_14 : decode cX10_rivalsOf 14 = .ok (.aload_n 0, 1) := by decide +kernel
theorem dX10_rivalsOf_15 : decode cX10_rivalsOf 15 = .ok (.iload_n 1, 1) := by decide +kernel
theorem dX10_rivalsOf_16 : decode cX10_rivalsOf 16 = .ok (.invokevirtual 202, 3) := by decide +kernel
theorem dX10_rivalsOf_19 : decode cX10_rivalsOf 19 = .ok (.checkcast 159, 3) := by decide +kernel
theorem dX10_rivalsOf_22 : decode cX10_rivalsOf 22 = .ok (.getfield 173, 3) := by decide +kernel
theorem dX10_rivalsOf_25 : decode cX10_rivalsOf 25 = .ok (.iconst 4, 1) := by decide +kernel
theorem dX10_rivalsOf_26 : decode cX10_rivalsOf 26 = .ok (.if_icmp .eq 5, 3) := by decide +kernel
theorem dX10_rivalsOf_29 : decode cX10_rivalsOf 29 = .ok (.iconst 0, 1) := by decide +kernel
theorem dX10_rivalsOf_30 : decode cX10_rivalsOf 30 = .ok (.ireturn, 1) := by decide +kernel
theorem dX10_rivalsOf_31 : decode cX10_rivalsOf 31 = .ok (.iconst 0, 1) := by decide +kernel
theorem dX10_rivalsOf_32 : decode cX10_rivalsOf 32 = .ok (.istore_n 2, 1) := by decide +kernel
theorem dX10_rivalsOf_33 : decode cX10_rivalsOf 33 = .ok (.iconst 0, 1) := by decide +kernel
theorem dX10_rivalsOf_34 : decode cX10_rivalsOf 34 = .ok (.istore_n 3, 1) := by decide +kernel
theorem dX10_rivalsOf_35 : decode cX10_rivalsOf 35 = .ok (.iload_n 3, 1) := by decide +kernel
theorem dX10_rivalsOf_36 : decode cX10_rivalsOf 36 = .ok (.aload_n 0, 1) := by decide +kernel
theorem dX10_rivalsOf_37 : decode cX10_rivalsOf 37 = .ok (.invokevirtual 76, 3) := by decide +kernel
theorem dX10_rivalsOf_40 : decode cX10_rivalsOf 40 = .ok (.if_icmp .ge 59, 3) := by decide +kernel
theorem dX10_rivalsOf_43 : decode cX10_rivalsOf 43 = .ok (.aload_n 0, 1) := by decide +kernel
theorem dX10_rivalsOf_44 : decode cX10_rivalsOf 44 = .ok (.iload_n 3, 1) := by decide +kernel
theorem dX10_rivalsOf_45 : decode cX10_rivalsOf 45 = .ok (.invokevirtual 202, 3) := by decide +kernel
theorem dX10_rivalsOf_48 : decode cX10_rivalsOf 48 = .ok (.checkcast 159, 3) := by decide +kernel
theorem dX10_rivalsOf_51 : decode cX10_rivalsOf 51 = .ok (.astore 4, 2) := by decide +kernel
theorem dX10_rivalsOf_53 : decode cX10_rivalsOf 53 = .ok (.iload_n 3, 1) := by decide +kernel
theorem dX10_rivalsOf_54 : decode cX10_rivalsOf 54 = .ok (.iload_n 1, 1) := by decide +kernel
theorem dX10_rivalsOf_55 : decode cX10_rivalsOf 55 = .ok (.if_icmp .eq 38, 3) := by decide +kernel
theorem dX10_rivalsOf_58 : decode cX10_rivalsOf 58 = .ok (.aload 4, 2) := by decide +kernel
theorem dX10_rivalsOf_60 : decode cX10_rivalsOf 60 = .ok (.getfield 173, 3) := by decide +kernel
theorem dX10_rivalsOf_63 : decode cX10_rivalsOf 63 = .ok (.iconst 4, 1) := by decide +kernel
theorem dX10_rivalsOf_64 : decode cX10_rivalsOf 64 = .ok (.if_icmp .ne 29, 3) := by decide +kernel
theorem dX10_rivalsOf_67 : decode cX10_rivalsOf 67 = .ok (.aload 4, 2) := by decide +kernel
theorem dX10_rivalsOf_69 : decode cX10_rivalsOf 69 = .ok (.getfield 176, 3) := by decide +kernel
theorem dX10_rivalsOf_72 : decode cX10_rivalsOf 72 = .ok (.aload_n 0, 1) := by decide +kernel
theorem dX10_rivalsOf_73 : decode cX10_rivalsOf 73 = .ok (.iload_n 1, 1) := by decide +kernel
theorem dX10_rivalsOf_74 : decode cX10_rivalsOf 74 = .ok (.invokevirtual 202, 3) := by decide +kernel
theorem dX10_rivalsOf_77 : decode cX10_rivalsOf 77 = .ok (.checkcast 159, 3) := by decide +kernel
theorem dX10_rivalsOf_80 : decode cX10_rivalsOf 80 = .ok (.getfield 176, 3) := by decide +kernel
theorem dX10_rivalsOf_83 : decode cX10_rivalsOf 83 = .ok (.if_acmp .ne 10, 3) := by decide +kernel
theorem dX10_rivalsOf_86 : decode cX10_rivalsOf 86 = .ok (.iload_n 2, 1) := by decide +kernel
theorem dX10_rivalsOf_87 : decode cX10_rivalsOf 87 = .ok (.iload_n 3, 1) := by decide +kernel
theorem dX10_rivalsOf_88 : decode cX10_rivalsOf 88 = .ok (.invokestatic 120, 3) := by decide +kernel
theorem dX10_rivalsOf_91 : decode cX10_rivalsOf 91 = .ok (.ior, 1) := by decide +kernel
theorem dX10_rivalsOf_92 : decode cX10_rivalsOf 92 = .ok (.istore_n 2, 1) := by decide +kernel
theorem dX10_rivalsOf_93 : decode cX10_rivalsOf 93 = .ok (.iinc 3 1, 3) := by decide +kernel
theorem dX10_rivalsOf_96 : decode cX10_rivalsOf 96 = .ok (.goto (-61), 3) := by decide +kernel
theorem dX10_rivalsOf_99 : decode cX10_rivalsOf 99 = .ok (.iload_n 2, 1) := by decide +kernel
theorem dX10_rivalsOf_100 : decode cX10_rivalsOf 100 = .ok (.ireturn, 1) := by decide +kernel
theorem dX10_isBetween_0 : decode cX10_isBetween 0 = .ok (.iload_n 0, 1) := by decide +kernel
theorem dX10_isBetween_1 : decode cX10_isBetween 1 = .ok (.iload_n 1, 1) := by decide +kernel
theorem dX10_isBetween_2 : decode cX10_isBetween 2 = .ok (.if_icmp .lt 12, 3) := by decide +kernel
theorem dX10_isBetween_5 : decode cX10_isBetween 5 = .ok (.iload_n 0, 1) := by decide +kernel
theorem dX10_isBetween_6 : decode cX10_isBetween 6 = .ok (.iload_n 2, 1) := by decide +kernel
theorem dX10_isBetween_7 : decode cX10_isBetween 7 = .ok (.if_icmp .gt 7, 3) := by decide +kernel
theorem dX10_isBetween_10 : decode cX10_isBetween 10 = .ok (.iconst 1, 1) := by decide +kernel
theorem dX10_isBetween_11 : decode cX10_isBetween 11 = .ok (.goto 4, 3) := by decide +kernel
theorem dX10_isBetween_14 : decode cX10_isBetween 14 = .ok (.iconst 0, 1) := by decide +kernel
theorem dX10_isBetween_15 : decode cX10_isBetween 15 = .ok (.ireturn, 1) := by decide +kernel
theorem dX10_isRange_0 : decode cX10_isRange 0 = .ok (.iload_n 0, 1) := by decide +kernel
theorem dX10_isRange_1 : decode cX10_isRange 1 = .ok (.ifCond .lt 19, 3) := by decide +kernel
theorem dX10_isRange_4 : decode cX10_isRange 4 = .ok (.iload_n 0, 1) := by decide +kernel
theorem dX10_isRange_5 : decode cX10_isRange 5 = .ok (.iload_n 1, 1) := by decide +kernel
theorem dX10_isRange_6 : decode cX10_isRange 6 = .ok (.if_icmp .gt 14, 3) := by decide +kernel
theorem dX10_isRange_9 : decode cX10_isRange 9 = .ok (.iload_n 1, 1) := by decide +kernel
theorem dX10_isRange_10 : decode cX10_isRange 10 = .ok (.sipush 999, 3) := by decide +kernel
theorem dX10_isRange_13 : decode cX10_isRange 13 = .ok (.if_icmp .gt 7, 3) := by decide +kernel
theorem dX10_isRange_16 : decode cX10_isRange 16 = .ok (.iconst 1, 1) := by decide +kernel
theorem dX10_isRange_17 : decode cX10_isRange 17 = .ok (.goto 4, 3) := by decide +kernel
theorem dX10_isRange_20 : decode cX10_isRange 20 = .ok (.iconst 0, 1) := by decide +kernel
theorem dX10_isRange_21 : decode cX10_isRange 21 = .ok (.ireturn, 1) := by decide +kernel
theorem dX10_bit_0 : decode cX10_bit 0 = .ok (.iload_n 0, 1) := by decide +kernel
theorem dX10_bit_1 : decode cX10_bit 1 = .ok (.ifCond .ge 7, 3) := by decide +kernel
theorem dX10_bit_4 : decode cX10_bit 4 = .ok (.iconst 0, 1) := by decide +kernel
theorem dX10_bit_5 : decode cX10_bit 5 = .ok (.goto 6, 3) := by decide +kernel
theorem dX10_bit_8 : decode cX10_bit 8 = .ok (.iconst 1, 1) := by decide +kernel
theorem dX10_bit_9 : decode cX10_bit 9 = .ok (.iload_n 0, 1) := by decide +kernel
theorem dX10_bit_10 : decode cX10_bit 10 = .ok (.ishl, 1) := by decide +kernel
theorem dX10_bit_11 : decode cX10_bit 11 = .ok (.ireturn, 1) := by decide +kernel
theorem dX10_isIn_0 : decode cX10_isIn 0 = .ok (.iload_n 0, 1) := by decide +kernel
theorem dX10_isIn_1 : decode cX10_isIn 1 = .ok (.ifCond .lt 15, 3) := by decide +kernel
theorem dX10_isIn_4 : decode cX10_isIn 4 = .ok (.iload_n 1, 1) := by decide +kernel
theorem dX10_isIn_5 : decode cX10_isIn 5 = .ok (.iload_n 0, 1) := by decide +kernel
theorem dX10_isIn_6 : decode cX10_isIn 6 = .ok (.iushr, 1) := by decide +kernel
theorem dX10_isIn_7 : decode cX10_isIn 7 = .ok (.iconst 1, 1) := by decide +kernel
theorem dX10_isIn_8 : decode cX10_isIn 8 = .ok (.iand, 1) := by decide +kernel
theorem dX10_isIn_9 : decode cX10_isIn 9 = .ok (.ifCond .eq 7, 3) := by decide +kernel
theorem dX10_isIn_12 : decode cX10_isIn 12 = .ok (.iconst 1, 1) := by decide +kernel
theorem dX10_isIn_13 : decode cX10_isIn 13 = .ok (.goto 4, 3) := by decide +kernel
theorem dX10_isIn_16 : decode cX10_isIn 16 = .ok (.iconst 0, 1) := by decide +kernel
theorem dX10_isIn_17 : decode cX10_isIn 17 = .ok (.ireturn, 1) := by decide +kernel
theorem dX10_dividedUp_0 : decode cX10_dividedUp 0 = .ok (.iload_n 0, 1) := by decide +kernel
theorem dX10_dividedUp_1 : decode cX10_dividedUp 1 = .ok (.ifCond .le 7, 3) := by decide +kernel
theorem dX10_dividedUp_4 : decode cX10_dividedUp 4 = .ok (.iload_n 1, 1) := by decide +kernel
theorem dX10_dividedUp_5 : decode cX10_dividedUp 5 = .ok (.ifCond .gt 7, 3) := by decide +kernel
theorem dX10_dividedUp_8 : decode cX10_dividedUp 8 = .ok (.iconst 0, 1) := by decide +kernel
theorem dX10_dividedUp_9 : decode cX10_dividedUp 9 = .ok (.goto 10, 3) := by decide +kernel
theorem dX10_dividedUp_12 : decode cX10_dividedUp 12 = .ok (.iload_n 0, 1) := by decide +kernel
theorem dX10_dividedUp_13 : decode cX10_dividedUp 13 = .ok (.iload_n 1, 1) := by decide +kernel
theorem dX10_dividedUp_14 : decode cX10_dividedUp 14 = .ok (.iadd, 1) := by decide +kernel
theorem dX10_dividedUp_15 : decode cX10_dividedUp 15 = .ok (.iconst 1, 1) := by decide +kernel
theorem dX10_dividedUp_16 : decode cX10_dividedUp 16 = .ok (.isub, 1) := by decide +kernel
theorem dX10_dividedUp_17 : decode cX10_dividedUp 17 = .ok (.iload_n 1, 1) := by decide +kernel
theorem dX10_dividedUp_18 : decode cX10_dividedUp 18 = .ok (.idiv, 1) := by decide +kernel
theorem dX10_dividedUp_19 : decode cX10_dividedUp 19 = .ok (.ireturn, 1) := by decide +kernel
theorem dX11_init_0 : decode cX11_init 0 = .ok (.aload_n 0, 1) := by decide +kernel
theorem dX11_init_1 : decode cX11_init 1 = .ok (.invokespecial 1, 3) := by decide +kernel
theorem dX11_init_4 : decode cX11_init 4 = .ok (.aload_n 0, 1) := by decide +kernel
theorem dX11_init_5 : decode cX11_init 5 = .ok (.iconst 4, 1) := by decide +kernel
theorem dX11_init_6 : decode cX11_init 6 = .ok (.newarray .int, 2) := by decide +kernel
theorem dX11_init_8 : decode cX11_init 8 = .ok (.putfield 7, 3) := by decide +kernel
theorem dX11_init_11 : decode cX11_init 11 = .ok (.aload_n 0, 1) := by decide +kernel
theorem dX11_init_12 : decode cX11_init 12 = .ok (.iconst 4, 1) := by decide +kernel
theorem dX11_init_13 : decode cX11_init 13 = .ok (.newarray .int, 2) := by decide +kernel
theorem dX11_init_15 : decode cX11_init 15 = .ok (.putfield 13, 3) := by decide +kernel
theorem dX11_init_18 : decode cX11_init 18 = .ok (.aload_n 0, 1) := by decide +kernel
theorem dX11_init_19 : decode cX11_init 19 = .ok (.iconst 4, 1) := by decide +kernel
theorem dX11_init_20 : decode cX11_init 20 = .ok (.newarray .int, 2) := by decide +kernel
theorem dX11_init_22 : decode cX11_init 22 = .ok (.putfield 16, 3) := by decide +kernel
theorem dX11_init_25 : decode cX11_init 25 = .ok (.aload_n 0, 1) := by decide +kernel
theorem dX11_init_26 : decode cX11_init 26 = .ok (.sipush 960, 3) := by decide +kernel
theorem dX11_init_29 : decode cX11_init 29 = .ok (.newarray .int, 2) := by decide +kernel
theorem dX11_init_31 : decode cX11_init 31 = .ok (.putfield 19, 3) := by decide +kernel
theorem dX11_init_34 : decode cX11_init 34 = .ok (.aload_n 0, 1) := by decide +kernel
theorem dX11_init_35 : decode cX11_init 35 = .ok (.iconst 4, 1) := by decide +kernel
theorem dX11_init_36 : decode cX11_init 36 = .ok (.newarray .int, 2) := by decide +kernel
theorem dX11_init_38 : decode cX11_init 38 = .ok (.putfield 22, 3) := by decide +kernel
theorem dX11_init_41 : decode cX11_init 41 = .ok (.aload_n 0, 1) := by decide +kernel
theorem dX11_init_42 : decode cX11_init 42 = .ok (.bipush 16, 2) := by decide +kernel
theorem dX11_init_44 : decode cX11_init 44 = .ok (.newarray .int, 2) := by decide +kernel
theorem dX11_init_46 : decode cX11_init 46 = .ok (.putfield 25, 3) := by decide +kernel
theorem dX11_init_49 : decode cX11_init 49 = .ok (.aload_n 0, 1) := by decide +kernel
theorem dX11_init_50 : decode cX11_init 50 = .ok (.bipush 16, 2) := by decide +kernel
theorem dX11_init_52 : decode cX11_init 52 = .ok (.newarray .int, 2) := by decide +kernel
theorem dX11_init_54 : decode cX11_init 54 = .ok (.putfield 28, 3) := by decide +kernel
theorem dX11_init_57 : decode cX11_init 57 = .ok (.aload_n 0, 1) := by decide +kernel
theorem dX11_init_58 : decode cX11_init 58 = .ok (.bipush 16, 2) := by decide +kernel
theorem dX11_init_60 : decode cX11_init 60 = .ok (.newarray .int, 2) := by decide +kernel
theorem dX11_init_62 : decode cX11_init 62 = .ok (.putfield 31, 3) := by decide +kernel
theorem dX11_init_65 : decode cX11_init 65 = .ok (.aload_n 0, 1) := by decide +kernel
theorem dX11_init_66 : decode cX11_init 66 = .ok (.iconst 4, 1) := by decide +kernel
theorem dX11_init_67 : decode cX11_init 67 = .ok (.newarray .int, 2) := by decide +kernel
theorem dX11_init_69 : decode cX11_init 69 = .ok (.putfield 34, 3) := by decide +kernel
theorem dX11_init_72 : decode cX11_init 72 = .ok (.aload_n 0, 1) := by decide +kernel
theorem dX11_init_73 : decode cX11_init 73 = .ok (.bipush 24, 2) := by decide +kernel
theorem dX11_init_75 : decode cX11_init 75 = .ok (.newarray .int, 2) := by decide +kernel
theorem dX11_init_77 : decode cX11_init 77 = .ok (.putfield 37, 3) := by decide +kernel
theorem dX11_init_80 : decode cX11_init 80 = .ok (.aload_n 0, 1) := by decide +kernel
theorem dX11_init_81 : decode cX11_init 81 = .ok (.bipush 24, 2) := by decide +kernel
theorem dX11_init_83 : decode cX11_init 83 = .ok (.newarray .int, 2) := by decide +kernel
theorem dX11_init_85 : decode cX11_init 85 = .ok (.putfield 40, 3) := by decide +kernel
theorem dX11_init_88 : decode cX11_init 88 = .ok (.aload_n 0, 1) := by decide +kernel
theorem dX11_init_89 : decode cX11_init 89 = .ok (.bipush 24, 2) := by decide +kernel
theorem dX11_init_91 : decode cX11_init 91 = .ok (.newarray .int, 2) := by decide +kernel
theorem dX11_init_93 : decode cX11_init 93 = .ok (.putfield 43, 3) := by decide +kernel
theorem dX11_init_96 : decode cX11_init 96 = .ok (.aload_n 0, 1) := by decide +kernel
theorem dX11_init_97 : decode cX11_init 97 = .ok (.bipush 24, 2) := by decide +kernel
theorem dX11_init_99 : decode cX11_init 99 = .ok (.newarray .int, 2) := by decide +kernel
theorem dX11_init_101 : decode cX11_init 101 = .ok (.putfield 46, 3) := by decide +kernel
theorem dX11_init_104 : decode cX11_init 104 = .ok (.aload_n 0, 1) := by decide +kernel
theorem dX11_init_105 : decode cX11_init 105 = .ok (.bipush 96, 2) := by decide +kernel
theorem dX11_init_107 : decode cX11_init 107 = .ok (.newarray .boolean, 2) := by decide +kernel
theorem dX11_init_109 : decode cX11_init 109 = .ok (.putfield 49, 3) := by decide +kernel
theorem dX11_init_112 : decode cX11_init 112 = .ok (.aload_n 0, 1) := by decide +kernel
theorem dX11_init_113 : decode cX11_init 113 = .ok (.bipush 96, 2) := by decide +kernel
theorem dX11_init_115 : decode cX11_init 115 = .ok (.newarray .int, 2) := by decide +kernel
theorem dX11_init_117 : decode cX11_init 117 = .ok (.putfield 53, 3) := by decide +kernel
theorem dX11_init_120 : decode cX11_init 120 = .ok (.aload_n 0, 1) := by decide +kernel
theorem dX11_init_121 : decode cX11_init 121 = .ok (.bipush 96, 2) := by decide +kernel
theorem dX11_init_123 : decode cX11_init 123 = .ok (.newarray .int, 2) := by decide +kernel
theorem dX11_init_125 : decode cX11_init 125 = .ok (.putfield 56, 3) := by decide +kernel
theorem dX11_init_128 : decode cX11_init 128 = .ok (.aload_n 0, 1) := by decide +kernel
theorem dX11_init_129 : decode cX11_init 129 = .ok (.bipush 12, 2) := by decide +kernel
theorem dX11_init_131 : decode cX11_init 131 = .ok (.newarray .int, 2) := by decide +kernel
theorem dX11_init_133 : decode cX11_init 133 = .ok (.putfield 59, 3) := by decide +kernel
theorem dX11_init_136 : decode cX11_init 136 = .ok (.aload_n 0, 1) := by decide +kernel
theorem dX11_init_137 : decode cX11_init 137 = .ok (.bipush 12, 2) := by decide +kernel
theorem dX11_init_139 : decode cX11_init 139 = .ok (.newarray .int, 2) := by decide +kernel
theorem dX11_init_141 : decode cX11_init 141 = .ok (.putfield 62, 3) := by decide +kernel
theorem dX11_init_144 : decode cX11_init 144 = .ok (.aload_n 0, 1) := by decide +kernel
theorem dX11_init_145 : decode cX11_init 145 = .ok (.bipush 12, 2) := by decide +kernel
theorem dX11_init_147 : decode cX11_init 147 = .ok (.newarray .int, 2) := by decide +kernel
theorem dX11_init_149 : decode cX11_init 149 = .ok (.putfield 65, 3) := by decide +kernel
theorem dX11_init_152 : decode cX11_init 152 = .ok (.aload_n 0, 1) := by decide +kernel
theorem dX11_init_153 : decode cX11_init 153 = .ok (.bipush 36, 2) := by decide +kernel
theorem dX11_init_155 : decode cX11_init 155 = .ok (.newarray .int, 2) := by decide +kernel
theorem dX11_init_157 : decode cX11_init 157 = .ok (.putfield 68, 3) := by decide +kernel
theorem dX11_init_160 : decode cX11_init 160 = .ok (.aload_n 0, 1) := by decide +kernel
theorem dX11_init_161 : decode cX11_init 161 = .ok (.bipush 12, 2) := by decide +kernel
theorem dX11_init_163 : decode cX11_init 163 = .ok (.newarray .int, 2) := by decide +kernel
theorem dX11_init_165 : decode cX11_init 165 = .ok (.putfield 71, 3) := by decide +kernel
theorem dX11_init_168 : decode cX11_init 168 = .ok (.aload_n 0, 1) := by decide +kernel
theorem dX11_init_169 : decode cX11_init 169 = .ok (.bipush 12, 2) := by decide +kernel
theorem dX11_init_171 : decode cX11_init 171 = .ok (.newarray .int, 2) := by decide +kernel
theorem dX11_init_173 : decode cX11_init 173 = .ok (.putfield 74, 3) := by decide +kernel
theorem dX11_init_176 : decode cX11_init 176 = .ok (.aload_n 0, 1) := by decide +kernel
theorem dX11_init_177 : decode cX11_init 177 = .ok (.bipush 12, 2) := by decide +kernel
theorem dX11_init_179 : decode cX11_init 179 = .ok (.newarray .int, 2) := by decide +kernel
theorem dX11_init_181 : decode cX11_init 181 = .ok (.putfield 77, 3) := by decide +kernel
theorem dX11_init_184 : decode cX11_init 184 = .ok (.aload_n 0, 1) := by decide +kernel
theorem dX11_init_185 : decode cX11_init 185 = .ok (.bipush 12, 2) := by decide +kernel
theorem dX11_init_187 : decode cX11_init 187 = .ok (.newarray .int, 2) := by decide +kernel
theorem dX11_init_189 : decode cX11_init 189 = .ok (.putfield 80, 3) := by decide +kernel
theorem dX11_init_192 : decode cX11_init 192 = .ok (.aload_n 0, 1) := by decide +kernel
theorem dX11_init_193 : decode cX11_init 193 = .ok (.sipush 312, 3) := by decide +kernel
theorem dX11_init_196 : decode cX11_init 196 = .ok (.newarray .int, 2) := by decide +kernel
theorem dX11_init_198 : decode cX11_init 198 = .ok (.putfield 83, 3) := by decide +kernel
theorem dX11_init_201 : decode cX11_init 201 = .ok (.aload_n 0, 1) := by decide +kernel
theorem dX11_init_202 : decode cX11_init 202 = .ok (.bipush 12, 2) := by decide +kernel
theorem dX11_init_204 : decode cX11_init 204 = .ok (.newarray .int, 2) := by decide +kernel
theorem dX11_init_206 : decode cX11_init 206 = .ok (.putfield 86, 3) := by decide +kernel
theorem dX11_init_209 : decode cX11_init 209 = .ok (.return_, 1) := by decide +kernel
theorem dX11_lies_0 : decode cX11_lies 0 = .ok (.iload_n 0, 1) := by decide +kernel
theorem dX11_lies_1 : decode cX11_lies 1 = .ok (.iload_n 1, 1) := by decide +kernel
theorem dX11_lies_2 : decode cX11_lies 2 = .ok (.if_icmp .lt 12, 3) := by decide +kernel
theorem dX11_lies_5 : decode cX11_lies 5 = .ok (.iload_n 0, 1) := by decide +kernel
theorem dX11_lies_6 : decode cX11_lies 6 = .ok (.iload_n 2, 1) := by decide +kernel
theorem dX11_lies_7 : decode cX11_lies 7 = .ok (.if_icmp .gt 7, 3) := by decide +kernel
theorem dX11_lies_10 : decode cX11_lies 10 = .ok (.iconst 1, 1) := by decide +kernel
theorem dX11_lies_11 : decode cX11_lies 11 = .ok (.goto 4, 3) := by decide +kernel
theorem dX11_lies_14 : decode cX11_lies 14 = .ok (.iconst 0, 1) := by decide +kernel
theorem dX11_lies_15 : decode cX11_lies 15 = .ok (.ireturn, 1) := by decide +kernel
theorem dX11_isTable_0 : decode cX11_isTable 0 = .ok (.iload_n 1, 1) := by decide +kernel
theorem dX11_isTable_1 : decode cX11_isTable 1 = .ok (.iconst 0, 1) := by decide +kernel
theorem dX11_isTable_2 : decode cX11_isTable 2 = .ok (.iconst 3, 1) := by decide +kernel
theorem dX11_isTable_3 : decode cX11_isTable 3 = .ok (.invokestatic 89, 3) := by decide +kernel
theorem dX11_isTable_6 : decode cX11_isTable 6 = .ok (.ifCond .eq 16, 3) := by decide +kernel
theorem dX11_isTable_9 : decode cX11_isTable 9 = .ok (.aload_n 0, 1) := by decide +kernel
theorem dX11_isTable_10 : decode cX11_isTable 10 = .ok (.getfield 7, 3) := by decide +kernel
theorem dX11_isTable_13 : decode cX11_isTable 13 = .ok (.iload_n 1, 1) := by decide +kernel
theorem dX11_isTable_14 : decode cX11_isTable 14 = .ok (.iaload, 1) := by decide +kernel
theorem dX11_isTable_15 : decode cX11_isTable 15 = .ok (.ifCond .le 7, 3) := by decide +kernel
theorem dX11_isTable_18 : decode cX11_isTable 18 = .ok (.iconst 1, 1) := by decide +kernel
theorem dX11_isTable_19 : decode cX11_isTable 19 = .ok (.goto 4, 3) := by decide +kernel
theorem dX11_isTable_22 : decode cX11_isTable 22 = .ok (.iconst 0, 1) := by decide +kernel
theorem dX11_isTable_23 : decode cX11_isTable 23 = .ok (.ireturn, 1) := by decide +kernel
theorem dX11_isColumn_0 : decode cX11_isColumn 0 = .ok (.aload_n 0, 1) := by decide +kernel
theorem dX11_isColumn_1 : decode cX11_isColumn 1 = .ok (.iload_n 1, 1) := by decide +kernel
theorem dX11_isColumn_2 : decode cX11_isColumn 2 = .ok (.invokevirtual 93, 3) := by decide +kernel
theorem dX11_isColumn_5 : decode cX11_isColumn 5 = .ok (.ifCond .eq 23, 3) := by decide +kernel
theorem dX11_isColumn_8 : decode cX11_isColumn 8 = .ok (.iload_n 2, 1) := by decide +kernel
theorem dX11_isColumn_9 : decode cX11_isColumn 9 = .ok (.iconst 0, 1) := by decide +kernel
theorem dX11_isColumn_10 : decode cX11_isColumn 10 = .ok (.aload_n 0, 1) := by decide +kernel
theorem dX11_isColumn_11 : decode cX11_isColumn 11 = .ok (.getfield 7, 3) := by decide +kernel
theorem dX11_isColumn_14 : decode cX11_isColumn 14 = .ok (.iload_n 1, 1) := by decide +kernel
theorem dX11_isColumn_15 : decode cX11_isColumn 15 = .ok (.iaload, 1) := by decide +kernel
theorem dX11_isColumn_16 : decode cX11_isColumn 16 = .ok (.iconst 1, 1) := by decide +kernel
theorem dX11_isColumn_17 : decode cX11_isColumn 17 = .ok (.isub, 1) := by decide +kernel
theorem dX11_isColumn_18 : decode cX11_isColumn 18 = .ok (.invokestatic 89, 3) := by decide +kernel
theorem dX11_isColumn_21 : decode cX11_isColumn 21 = .ok (.ifCond .eq 7, 3) := by decide +kernel
theorem dX11_isColumn_24 : decode cX11_isColumn 24 = .ok (.iconst 1, 1) := by decide +kernel
theorem dX11_isColumn_25 : decode cX11_isColumn 25 = .ok (.goto 4, 3) := by decide +kernel
theorem dX11_isColumn_28 : decode cX11_isColumn 28 = .ok (.iconst 0, 1) := by decide +kernel
theorem dX11_isColumn_29 : decode cX11_isColumn 29 = .ok (.ireturn, 1) := by decide +kernel
theorem dX11_up_0 : decode cX11_up 0 = .ok (.iload_n 0, 1) := by decide +kernel
theorem dX11_up_1 : decode cX11_up 1 = .ok (.iload_n 1, 1) := by decide +kernel
theorem dX11_up_2 : decode cX11_up 2 = .ok (.iadd, 1) := by decide +kernel
theorem dX11_up_3 : decode cX11_up 3 = .ok (.iconst 1, 1) := by decide +kernel
theorem dX11_up_4 : decode cX11_up 4 = .ok (.isub, 1) := by decide +kernel
theorem dX11_up_5 : decode cX11_up 5 = .ok (.iload_n 1, 1) := by decide +kernel
theorem dX11_up_6 : decode cX11_up 6 = .ok (.idiv, 1) := by decide +kernel
theorem dX11_up_7 : decode cX11_up 7 = .ok (.ireturn, 1) := by decide +kernel
theorem dX11_isIn_0 : decode cX11_isIn 0 = .ok (.iload_n 0, 1) := by decide +kernel
theorem dX11_isIn_1 : decode cX11_isIn 1 = .ok (.iload_n 1, 1) := by decide +kernel
theorem dX11_isIn_2 : decode cX11_isIn 2 = .ok (.ishr, 1) := by decide +kernel
theorem dX11_isIn_3 : decode cX11_isIn 3 = .ok (.iconst 1, 1) := by decide +kernel
theorem dX11_isIn_4 : decode cX11_isIn 4 = .ok (.iand, 1) := by decide +kernel
theorem dX11_isIn_5 : decode cX11_isIn 5 = .ok (.iconst 1, 1) := by decide +kernel
theorem dX11_isIn_6 : decode cX11_isIn 6 = .ok (.if_icmp .ne 7, 3) := by decide +kernel
theorem dX11_isIn_9 : decode cX11_isIn 9 = .ok (.iconst 1, 1) := by decide +kernel
theorem dX11_isIn_10 : decode cX11_isIn 10 = .ok (.goto 4, 3) := by decide +kernel
theorem dX11_isIn_13 : decode cX11_isIn 13 = .ok (.iconst 0, 1) := by decide +kernel
theorem dX11_isIn_14 : decode cX11_isIn 14 = .ok (.ireturn, 1) := by decide +kernel
theorem dX11_size_0 : decode cX11_size 0 = .ok (.iconst 0, 1) := by decide +kernel
theorem dX11_size_1 : decode cX11_size 1 = .ok (.istore_n 1, 1) := by decide +kernel
theorem dX11_size_2 : decode cX11_size 2 = .ok (.iconst 0, 1) := by decide +kernel
theorem dX11_size_3 : decode cX11_size 3 = .ok (.istore_n 2, 1) := by decide +kernel
theorem dX11_size_4 : decode cX11_size 4 = .ok (.iload_n 2, 1) := by decide +kernel
theorem dX11_size_5 : decode cX11_size 5 = .ok (.bipush 12, 2) := by decide +kernel
theorem dX11_size_7 : decode cX11_size 7 = .ok (.if_icmp .ge 25, 3) := by decide +kernel
theorem dX11_size_10 : decode cX11_size 10 = .ok (.iload_n 1, 1) := by decide +kernel
theorem dX11_size_11 : decode cX11_size 11 = .ok (.iload_n 0, 1) := by decide +kernel
theorem dX11_size_12 : decode cX11_size 12 = .ok (.iload_n 2, 1) := by decide +kernel
theorem dX11_size_13 : decode cX11_size 13 = .ok (.invokestatic 97, 3) := by decide +kernel
theorem dX11_size_16 : decode cX11_size 16 = .ok (.ifCond .eq 7, 3) := by decide +kernel
theorem dX11_size_19 : decode cX11_size 19 = .ok (.iconst 1, 1) := by decide +kernel
theorem dX11_size_20 : decode cX11_size 20 = .ok (.goto 4, 3) := by decide +kernel
theorem dX11_size_23 : decode cX11_size 23 = .ok (.iconst 0, 1) := by decide +kernel
theorem dX11_size_24 : decode cX11_size 24 = .ok (.iadd, 1) := by decide +kernel
theorem dX11_size_25 : decode cX11_size 25 = .ok (.istore_n 1, 1) := by decide +kernel
theorem dX11_size_26 : decode cX11_size 26 = .ok (.iinc 2 1, 3) := by decide +kernel
theorem dX11_size_29 : decode cX11_size 29 = .ok (.goto (-25), 3) := by decide +kernel
theorem dX11_size_32 : decode cX11_size 32 = .ok (.iload_n 1, 1) := by decide +kernel
theorem dX11_size_33 : decode cX11_size 33 = .ok (.ireturn, 1) := by decide +kernel
theorem dX11_table_0 : decode cX11_table 0 = .ok (.iload_n 1, 1) := by decide +kernel
theorem dX11_table_1 : decode cX11_table 1 = .ok (.iconst 0, 1) := by decide +kernel
theorem dX11_table_2 : decode cX11_table 2 = .ok (.iconst 3, 1) := by decide +kernel
theorem dX11_table_3 : decode cX11_table 3 = .ok (.invokestatic 89, 3) := by decide +kernel
theorem dX11_table_6 : decode cX11_table 6 = .ok (.ifCond .eq 31, 3) := by decide +kernel
theorem dX11_table_9 : decode cX11_table 9 = .ok (.aload_n 0, 1) := by decide +kernel
theorem dX11_table_10 : decode cX11_table 10 = .ok (.getfield 7, 3) := by decide +kernel
theorem dX11_table_13 : decode cX11_table 13 = .ok (.iload_n 1, 1) := by decide +kernel
theorem dX11_table_14 : decode cX11_table 14 = .ok (.iaload, 1) := by decide +kernel
theorem dX11_table_15 : decode cX11_table 15 = .ok (.ifCond .gt 22, 3) := by decide +kernel
theorem dX11_table_18 : decode cX11_table 18 = .ok (.iload_n 2, 1) := by decide +kernel
theorem dX11_table_19 : decode cX11_table 19 = .ok (.iconst 1, 1) := by decide +kernel
theorem dX11_table_20 : decode cX11_table 20 = .ok (.iconst 4, 1) := by decide +kernel
theorem dX11_table_21 : decode cX11_table 21 = .ok (.invokestatic 89, 3) := by decide +kernel
theorem dX11_table_24 : decode cX11_table 24 = .ok (.ifCond .eq 13, 3) := by decide +kernel
theorem dX11_table_27 : decode cX11_table 27 = .ok (.iload_n 3, 1) := by decide +kernel
theorem dX11_table_28 : decode cX11_table 28 = .ok (.iconst 2, 1) := by decide +kernel
theorem dX11_table_29 : decode cX11_table 29 = .ok (.bipush 8, 2) := by decide +kernel
theorem dX11_table_31 : decode cX11_table 31 = .ok (.invokestatic 89, 3) := by decide +kernel
theorem dX11_table_34 : decode cX11_table 34 = .ok (.ifCond .ne 5, 3) := by decide +kernel
theorem dX11_table_37 : decode cX11_table 37 = .ok (.iconst 0, 1) := by decide +kernel
theorem dX11_table_38 : decode cX11_table 38 = .ok (.ireturn, 1) := by decide +kernel
theorem dX11_table_39 : decode cX11_table 39 = .ok (.aload_n 0, 1) := by decide +kernel
theorem dX11_table_40 : decode cX11_table 40 = .ok (.getfield 7, 3) := by decide +kernel
theorem dX11_table_43 : decode cX11_table 43 = .ok (.iload_n 1, 1) := by decide +kernel
theorem dX11_table_44 : decode cX11_table 44 = .ok (.iload_n 2, 1) := by decide +kernel
theorem dX11_table_45 : decode cX11_table 45 = .ok (.iastore, 1) := by decide +kernel
theorem dX11_table_46 : decode cX11_table 46 = .ok (.aload_n 0, 1) := by decide +kernel
theorem dX11_table_47 : decode cX11_table 47 = .ok (.getfield 13, 3) := by decide +kernel
theorem dX11_table_50 : decode cX11_table 50 = .ok (.iload_n 1, 1) := by decide +kernel
theorem dX11_table_51 : decode cX11_table 51 = .ok (.iload_n 3, 1) := by decide +kernel
theorem dX11_table_52 : decode cX11_table 52 = .ok (.iastore, 1) := by decide +kernel
theorem dX11_table_53 : decode cX11_table 53 = .ok (.iconst 1, 1) := by decide +kernel
theorem dX11_table_54 : decode cX11_table 54 = .ok (.ireturn, 1) := by decide +kernel
theorem dX11_at_0 : decode cX11_at 0 = .ok (.aload_n 0, 1) := by decide +kernel
theorem dX11_at_1 : decode cX11_at 1 = .ok (.getfield 19, 3) := by decide +kernel
theorem dX11_at_4 : decode cX11_at 4 = .ok (.sipush 240, 3) := by decide +kernel
theorem dX11_at_7 : decode cX11_at 7 = .ok (.iload_n 1, 1) := by decide +kernel
theorem dX11_at_8 : decode cX11_at 8 = .ok (.imul, 1) := by decide +kernel
theorem dX11_at_9 : decode cX11_at 9 = .ok (.iconst 4, 1) := by decide +kernel
theorem dX11_at_10 : decode cX11_at 10 = .ok (.iload_n 2, 1) := by decide +kernel
theorem dX11_at_11 : decode cX11_at 11 = .ok (.imul, 1) := by decide +kernel
theorem dX11_at_12 : decode cX11_at 12 = .ok (.iadd, 1) := by decide +kernel
theorem dX11_at_13 : decode cX11_at 13 = .ok (.iload_n 3, 1) := by decide +kernel
theorem dX11_at_14 : decode cX11_at 14 = .ok (.iadd, 1) := by decide +kernel
theorem dX11_at_15 : decode cX11_at 15 = .ok (.iaload, 1) := by decide +kernel
theorem dX11_at_16 : decode cX11_at 16 = .ok (.ireturn, 1) := by decide +kernel
theorem dX11_put_0 : decode cX11_put 0 = .ok (.aload_n 0, 1) := by decide +kernel
theorem dX11_put_1 : decode cX11_put 1 = .ok (.iload_n 1, 1) := by decide +kernel
theorem dX11_put_2 : decode cX11_put 2 = .ok (.invokevirtual 93, 3) := by decide +kernel
theorem dX11_put_5 : decode cX11_put 5 = .ok (.ifCond .eq 14, 3) := by decide +kernel
theorem dX11_put_8 : decode cX11_put 8 = .ok (.aload_n 0, 1) := by decide +kernel
theorem dX11_put_9 : decode cX11_put 9 = .ok (.getfield 16, 3) := by decide +kernel
theorem dX11_put_12 : decode cX11_put 12 = .ok (.iload_n 1, 1) := by decide +kernel
theorem dX11_put_13 : decode cX11_put 13 = .ok (.iaload, 1) := by decide +kernel
theorem dX11_put_14 : decode cX11_put 14 = .ok (.bipush 60, 2) := by decide +kernel
theorem dX11_put_16 : decode cX11_put 16 = .ok (.if_icmp .ne 5, 3) := by decide +kernel
theorem dX11_put_19 : decode cX11_put 19 = .ok (.iconst (-1), 1) := by decide +kernel
theorem dX11_put_20 : decode cX11_put 20 = .ok (.ireturn, 1) := by decide +kernel
theorem dX11_put_21 : decode cX11_put 21 = .ok (.iconst 0, 1) := by decide +kernel
theorem dX11_put_22 : decode cX11_put 22 = .ok (.istore 6, 2) := by decide +kernel
theorem dX11_put_24 : decode cX11_put 24 = .ok (.iload 6, 2) := by decide +kernel
theorem dX11_put_26 : decode cX11_put 26 = .ok (.aload_n 0, 1) := by decide +kernel
theorem dX11_put_27 : decode cX11_put 27 = .ok (.getfield 7, 3) := by decide +kernel
theorem dX11_put_30 : decode cX11_put 30 = .ok (.iload_n 1, 1) := by decide +kernel
theorem dX11_put_31 : decode cX11_put 31 = .ok (.iaload, 1) := by decide +kernel
theorem dX11_put_32 : decode cX11_put 32 = .ok (.if_icmp .ge 53, 3) := by decide +kernel
theorem dX11_put_35 : decode cX11_put 35 = .ok (.iload 6, 2) := by decide +kernel
theorem dX11_put_37 : decode cX11_put 37 = .ok (.ifCond .ne 7, 3) := by decide +kernel
theorem dX11_put_40 : decode cX11_put 40 = .ok (.iload_n 2, 1) := by decide +kernel
theorem dX11_put_41 : decode cX11_put 41 = .ok (.goto 26, 3) := by decide +kernel
theorem dX11_put_44 : decode cX11_put 44 = .ok (.iload 6, 2) := by decide +kernel
theorem dX11_put_46 : decode cX11_put 46 = .ok (.iconst 1, 1) := by decide +kernel
theorem dX11_put_47 : decode cX11_put 47 = .ok (.if_icmp .ne 7, 3) := by decide +kernel
theorem dX11_put_50 : decode cX11_put 50 = .ok (.iload_n 3, 1) := by decide +kernel
theorem dX11_put_51 : decode cX11_put 51 = .ok (.goto 16, 3) := by decide +kernel
theorem dX11_put_54 : decode cX11_put 54 = .ok (.iload 6, 2) := by decide +kernel
theorem dX11_put_56 : decode cX11_put 56 = .ok (.iconst 2, 1) := by decide +kernel
theorem dX11_put_57 : decode cX11_put 57 = .ok (.if_icmp .ne 8, 3) := by decide +kernel
theorem dX11_put_60 : decode cX11_put 60 = .ok (.iload 4, 2) := by decide +kernel
theorem dX11_put_62 : decode cX11_put 62 = .ok (.goto 5, 3) := by decide +kernel
theorem dX11_put_65 : decode cX11_put 65 = .ok (.iload 5, 2) := by decide +kernel
theorem dX11_put_67 : decode cX11_put 67 = .ok (.iconst 0, 1) := by decide +kernel
theorem dX11_put_68 : decode cX11_put 68 = .ok (.sipush 999, 3) := by decide +kernel
theorem dX11_put_71 : decode cX11_put 71 = .ok (.invokestatic 89, 3) := by decide +kernel
theorem dX11_put_74 : decode cX11_put 74 = .ok (.ifCond .ne 5, 3) := by decide +kernel
theorem dX11_put_77 : decode cX11_put 77 = .ok (.iconst (-1), 1) := by decide +kernel
theorem dX11_put_78 : decode cX11_put 78 = .ok (.ireturn, 1) := by decide +kernel
theorem dX11_put_79 : decode cX11_put 79 = .ok (.iinc 6 1, 3) := by decide +kernel
theorem dX11_put_82 : decode cX11_put 82 = .ok (.goto (-58), 3) := by decide +kernel
theorem dX11_put_85 : decode cX11_put 85 = .ok (.iconst 0, 1) := by decide +kernel
theorem dX11_put_86 : decode cX11_put 86 = .ok (.istore 6, 2) := by decide +kernel
theorem dX11_put_88 : decode cX11_put 88 = .ok (.iload 6, 2) := by decide +kernel
theorem dX11_put_90 : decode cX11_put 90 = .ok (.aload_n 0, 1) := by decide +kernel
theorem dX11_put_91 : decode cX11_put 91 = .ok (.getfield 7, 3) := by decide +kernel
theorem dX11_put_94 : decode cX11_put 94 = .ok (.iload_n 1, 1) := by decide +kernel
theorem dX11_put_95 : decode cX11_put 95 = .ok (.iaload, 1) := by decide +kernel
theorem dX11_put_96 : decode cX11_put 96 = .ok (.if_icmp .ge 63, 3) := by decide +kernel
theorem dX11_put_99 : decode cX11_put 99 = .ok (.aload_n 0, 1) := by decide +kernel
theorem dX11_put_100 : decode cX11_put 100 = .ok (.getfield 19, 3) := by decide +kernel
theorem dX11_put_103 : decode cX11_put 103 = .ok (.sipush 240, 3) := by decide +kernel
theorem dX11_put_106 : decode cX11_put 106 = .ok (.iload_n 1, 1) := by decide +kernel
theorem dX11_put_107 : decode cX11_put 107 = .ok (.imul, 1) := by decide +kernel
theorem dX11_put_108 : decode cX11_put 108 = .ok (.iconst 4, 1) := by decide +kernel
theorem dX11_put_109 : decode cX11_put 109 = .ok (.aload_n 0, 1) := by decide +kernel
theorem dX11_put_110 : decode cX11_put 110 = .ok (.getfield 16, 3) := by decide +kernel
theorem dX11_put_113 : decode cX11_put 113 = .ok (.iload_n 1, 1) := by decide +kernel
theorem dX11_put_114 : decode cX11_put 114 = .ok (.iaload, 1) := by decide +kernel
theorem dX11_put_115 : decode cX11_put 115 = .ok (.imul, 1) := by decide +kernel
theorem dX11_put_116 : decode cX11_put 116 = .ok (.iadd, 1) := by decide +kernel
theorem dX11_put_117 : decode cX11_put 117 = .ok (.iload 6, 2) := by decide +kernel
theorem dX11_put_119 : decode cX11_put 119 = .ok (.iadd, 1) := by decide +kernel
theorem dX11_put_120 : decode cX11_put 120 = .ok (.iload 6, 2) := by decide +kernel
theorem dX11_put_122 : decode cX11_put 122 = .ok (.ifCond .ne 7, 3) := by decide +kernel
theorem dX11_put_125 : decode cX11_put 125 = .ok (.iload_n 2, 1) := by decide +kernel
theorem dX11_put_126 : decode cX11_put 126 = .ok (.goto 26, 3) := by decide +kernel
theorem dX11_put_129 : decode cX11_put 129 = .ok (.iload 6, 2) := by decide +kernel
theorem dX11_put_131 : decode cX11_put 131 = .ok (.iconst 1, 1) := by decide +kernel
theorem dX11_put_132 : decode cX11_put 132 = .ok (.if_icmp .ne 7, 3) := by decide +kernel
theorem dX11_put_135 : decode cX11_put 135 = .ok (.iload_n 3, 1) := by decide +kernel
theorem dX11_put_136 : decode cX11_put 136 = .ok (.goto 16, 3) := by decide +kernel
theorem dX11_put_139 : decode cX11_put 139 = .ok (.iload 6, 2) := by decide +kernel
theorem dX11_put_141 : decode cX11_put 141 = .ok (.iconst 2, 1) := by decide +kernel
theorem dX11_put_142 : decode cX11_put 142 = .ok (.if_icmp .ne 8, 3) := by decide +kernel
theorem dX11_put_145 : decode cX11_put 145 = .ok (.iload 4, 2) := by decide +kernel
theorem dX11_put_147 : decode cX11_put 147 = .ok (.goto 5, 3) := by decide +kernel
theorem dX11_put_150 : decode cX11_put 150 = .ok (.iload 5, 2) := by decide +kernel
theorem dX11_put_152 : decode cX11_put 152 = .ok (.iastore, 1) := by decide +kernel
theorem dX11_put_153 : decode cX11_put 153 = .ok (.iinc 6 1, 3) := by decide +kernel
theorem dX11_put_156 : decode cX11_put 156 = .ok (.goto (-68), 3) := by decide +kernel
theorem dX11_put_159 : decode cX11_put 159 = .ok (.aload_n 0, 1) := by decide +kernel
theorem dX11_put_160 : decode cX11_put 160 = .ok (.getfield 16, 3) := by decide +kernel
theorem dX11_put_163 : decode cX11_put 163 = .ok (.iload_n 1, 1) := by decide +kernel
theorem dX11_put_164 : decode cX11_put 164 = .ok (.dup2, 1) := by decide +kernel
theorem dX11_put_165 : decode cX11_put 165 = .ok (.iaload, 1) := by decide +kernel
theorem dX11_put_166 : decode cX11_put 166 = .ok (.iconst 1, 1) := by decide +kernel
theorem dX11_put_167 : decode cX11_put 167 = .ok (.iadd, 1) := by decide +kernel
theorem dX11_put_168 : decode cX11_put 168 = .ok (.iastore, 1) := by decide +kernel
theorem dX11_put_169 : decode cX11_put 169 = .ok (.aload_n 0, 1) := by decide +kernel
theorem dX11_put_170 : decode cX11_put 170 = .ok (.getfield 16, 3) := by decide +kernel
theorem dX11_put_173 : decode cX11_put 173 = .ok (.iload_n 1, 1) := by decide +kernel
theorem dX11_put_174 : decode cX11_put 174 = .ok (.iaload, 1) := by decide +kernel
theorem dX11_put_175 : decode cX11_put 175 = .ok (.iconst 1, 1) := by decide +kernel
theorem dX11_put_176 : decode cX11_put 176 = .ok (.isub, 1) := by decide +kernel
theorem dX11_put_177 : decode cX11_put 177 = .ok (.ireturn, 1) := by decide +kernel
theorem dX11_strike_0 : decode cX11_strike 0 = .ok (.aload_n 0, 1) := by decide +kernel
theorem dX11_strike_1 : decode cX11_strike 1 = .ok (.iload_n 1, 1) := by decide +kernel
theorem dX11_strike_2 : decode cX11_strike 2 = .ok (.invokevirtual 93, 3) := by decide +kernel
theorem dX11_strike_5 : decode cX11_strike 5 = .ok (.ifCond .eq 19, 3) := by decide +kernel
theorem dX11_strike_8 : decode cX11_strike 8 = .ok (.iload_n 2, 1) := by decide +kernel
theorem dX11_strike_9 : decode cX11_strike 9 = .ok (.iconst 0, 1) := by decide +kernel
theorem dX11_strike_10 : decode cX11_strike 10 = .ok (.aload_n 0, 1) := by decide +kernel
theorem dX11_strike_11 : decode cX11_strike 11 = .ok (.getfield 16, 3) := by decide +kernel
theorem dX11_strike_14 : decode cX11_strike 14 = .ok (.iload_n 1, 1) := by decide +kernel
theorem dX11_strike_15 : decode cX11_strike 15 = .ok (.iaload, 1) := by decide +kernel
theorem dX11_strike_16 : decode cX11_strike 16 = .ok (.iconst 1, 1) := by decide +kernel
theorem dX11_strike_17 : decode cX11_strike 17 = .ok (.isub, 1) := by decide +kernel
theorem dX11_strike_18 : decode cX11_strike 18 = .ok (.invokestatic 89, 3) := by decide +kernel
theorem dX11_strike_21 : decode cX11_strike 21 = .ok (.ifCond .ne 5, 3) := by decide +kernel
theorem dX11_strike_24 : decode cX11_strike 24 = .ok (.iconst 0, 1) := by decide +kernel
theorem dX11_strike_25 : decode cX11_strike 25 = .ok (.ireturn, 1) := by decide +kernel
theorem dX11_strike_26 : decode cX11_strike 26 = .ok (.aload_n 0, 1) := by decide +kernel
theorem dX11_strike_27 : decode cX11_strike 27 = .ok (.getfield 16, 3) := by decide +kernel
theorem dX11_strike_30 : decode cX11_strike 30 = .ok (.iload_n 1, 1) := by decide +kernel
theorem dX11_strike_31 : decode cX11_strike 31 = .ok (.dup2, 1) := by decide +kernel
theorem dX11_strike_32 : decode cX11_strike 32 = .ok (.iaload, 1) := by decide +kernel
theorem dX11_strike_33 : decode cX11_strike 33 = .ok (.iconst 1, 1) := by decide +kernel
theorem dX11_strike_34 : decode cX11_strike 34 = .ok (.isub, 1) := by decide +kernel
theorem dX11_strike_35 : decode cX11_strike 35 = .ok (.iastore, 1) := by decide +kernel
theorem dX11_strike_36 : decode cX11_strike 36 = .ok (.sipush 240, 3) := by decide +kernel
theorem dX11_strike_39 : decode cX11_strike 39 = .ok (.iload_n 1, 1) := by decide +kernel
theorem dX11_strike_40 : decode cX11_strike 40 = .ok (.imul, 1) := by decide +kernel
theorem dX11_strike_41 : decode cX11_strike 41 = .ok (.iconst 4, 1) := by decide +kernel
theorem dX11_strike_42 : decode cX11_strike 42 = .ok (.iload_n 2, 1) := by decide +kernel
theorem dX11_strike_43 : decode cX11_strike 43 = .ok (.imul, 1) := by decide +kernel
theorem dX11_strike_44 : decode cX11_strike 44 = .ok (.iadd, 1) := by decide +kernel
theorem dX11_strike_45 : decode cX11_strike 45 = .ok (.istore_n 3, 1) := by decide +kernel
theorem dX11_strike_46 : decode cX11_strike 46 = .ok (.iload_n 3, 1) := by decide +kernel
theorem dX11_strike_47 : decode cX11_strike 47 = .ok (.sipush 240, 3) := by decide +kernel
theorem dX11_strike_50 : decode cX11_strike 50 = .ok (.iload_n 1, 1) := by decide +kernel
theorem dX11_strike_51 : decode cX11_strike 51 = .ok (.imul, 1) := by decide +kernel
theorem dX11_strike_52 : decode cX11_strike 52 = .ok (.iconst 4, 1) := by decide +kernel
theorem dX11_strike_53 : decode cX11_strike 53 = .ok (.aload_n 0, 1) := by decide +kernel
theorem dX11_strike_54 : decode cX11_strike 54 = .ok (.getfield 16, 3) := by decide +kernel
theorem dX11_strike_57 : decode cX11_strike 57 = .ok (.iload_n 1, 1) := by decide +kernel
theorem dX11_strike_58 : decode cX11_strike 58 = .ok (.iaload, 1) := by decide +kernel
theorem dX11_strike_59 : decode cX11_strike 59 = .ok (.imul, 1) := by decide +kernel
theorem dX11_strike_60 : decode cX11_strike 60 = .ok (.iadd, 1) := by decide +kernel
theorem dX11_strike_61 : decode cX11_strike 61 = .ok (.if_icmp .ge 23, 3) := by decide +kernel
theorem dX11_strike_64 : decode cX11_strike 64 = .ok (.aload_n 0, 1) := by decide +kernel
theorem dX11_strike_65 : decode cX11_strike 65 = .ok (.getfield 19, 3) := by decide +kernel
theorem dX11_strike_68 : decode cX11_strike 68 = .ok (.iload_n 3, 1) := by decide +kernel
theorem dX11_strike_69 : decode cX11_strike 69 = .ok (.aload_n 0, 1) := by decide +kernel
theorem dX11_strike_70 : decode cX11_strike 70 = .ok (.getfield 19, 3) := by decide +kernel
theorem dX11_strike_73 : decode cX11_strike 73 = .ok (.iload_n 3, 1) := by decide +kernel
theorem dX11_strike_74 : decode cX11_strike 74 = .ok (.iconst 4, 1) := by decide +kernel
theorem dX11_strike_75 : decode cX11_strike 75 = .ok (.iadd, 1) := by decide +kernel
theorem dX11_strike_76 : decode cX11_strike 76 = .ok (.iaload, 1) := by decide +kernel
theorem dX11_strike_77 : decode cX11_strike 77 = .ok (.iastore, 1) := by decide +kernel
theorem dX11_strike_78 : decode cX11_strike 78 = .ok (.iinc 3 1, 3) := by decide +kernel
theorem dX11_strike_81 : decode cX11_strike 81 = .ok (.goto (-35), 3) := by decide +kernel
theorem dX11_strike_84 : decode cX11_strike 84 = .ok (.iconst 1, 1) := by decide +kernel
theorem dX11_strike_85 : decode cX11_strike 85 = .ok (.ireturn, 1) := by decide +kernel
theorem dX11_recount_0 : decode cX11_recount 0 = .ok (.aload_n 0, 1) := by decide +kernel
theorem dX11_recount_1 : decode cX11_recount 1 = .ok (.iload_n 1, 1) := by decide +kernel
theorem dX11_recount_2 : decode cX11_recount 2 = .ok (.invokevirtual 93, 3) := by decide +kernel
theorem dX11_recount_5 : decode cX11_recount 5 = .ok (.ifCond .ne 5, 3) := by decide +kernel
theorem dX11_recount_8 : decode cX11_recount 8 = .ok (.iconst (-1), 1) := by decide +kernel
theorem dX11_recount_9 : decode cX11_recount 9 = .ok (.ireturn, 1) := by decide +kernel
theorem dX11_recount_10 : decode cX11_recount 10 = .ok (.aload_n 0, 1) := by decide +kernel
theorem dX11_recount_11 : decode cX11_recount 11 = .ok (.getfield 22, 3) := by decide +kernel
theorem dX11_recount_14 : decode cX11_recount 14 = .ok (.iload_n 1, 1) := by decide +kernel
theorem dX11_recount_15 : decode cX11_recount 15 = .ok (.aload_n 0, 1) := by decide +kernel
theorem dX11_recount_16 : decode cX11_recount 16 = .ok (.getfield 16, 3) := by decide +kernel
theorem dX11_recount_19 : decode cX11_recount 19 = .ok (.iload_n 1, 1) := by decide +kernel
theorem dX11_recount_20 : decode cX11_recount 20 = .ok (.iaload, 1) := by decide +kernel
theorem dX11_recount_21 : decode cX11_recount 21 = .ok (.iastore, 1) := by decide +kernel
theorem dX11_recount_22 : decode cX11_recount 22 = .ok (.iconst 0, 1) := by decide +kernel
theorem dX11_recount_23 : decode cX11_recount 23 = .ok (.istore_n 2, 1) := by decide +kernel
theorem dX11_recount_24 : decode cX11_recount 24 = .ok (.iload_n 2, 1) := by decide +kernel
theorem dX11_recount_25 : decode cX11_recount 25 = .ok (.aload_n 0, 1) := by decide +kernel
theorem dX11_recount_26 : decode cX11_recount 26 = .ok (.getfield 7, 3) := by decide +kernel
theorem dX11_recount_29 : decode cX11_recount 29 = .ok (.iload_n 1, 1) := by decide +kernel
theorem dX11_recount_30 : decode cX11_recount 30 = .ok (.iaload, 1) := by decide +kernel
theorem dX11_recount_31 : decode cX11_recount 31 = .ok (.if_icmp .ge 195, 3) := by decide +kernel
theorem dX11_recount_34 : decode cX11_recount 34 = .ok (.iconst 4, 1) := by decide +kernel
theorem dX11_recount_35 : decode cX11_recount 35 = .ok (.iload_n 1, 1) := by decide +kernel
theorem dX11_recount_36 : decode cX11_recount 36 = .ok (.imul, 1) := by decide +kernel
theorem dX11_recount_37 : decode cX11_recount 37 = .ok (.iload_n 2, 1) := by decide +kernel
theorem dX11_recount_38 : decode cX11_recount 38 = .ok (.iadd, 1) := by decide +kernel
theorem dX11_recount_39 : decode cX11_recount 39 = .ok (.istore_n 3, 1) := by decide +kernel
theorem dX11_recount_40 : decode cX11_recount 40 = .ok (.aload_n 0, 1) := by decide +kernel
theorem dX11_recount_41 : decode cX11_recount 41 = .ok (.getfield 25, 3) := by decide +kernel
theorem dX11_recount_44 : decode cX11_recount 44 = .ok (.iload_n 3, 1) := by decide +kernel
theorem dX11_recount_45 : decode cX11_recount 45 = .ok (.iconst 0, 1) := by decide +kernel
theorem dX11_recount_46 : decode cX11_recount 46 = .ok (.iastore, 1) := by decide +kernel
theorem dX11_recount_47 : decode cX11_recount 47 = .ok (.aload_n 0, 1) := by decide +kernel
theorem dX11_recount_48 : decode cX11_recount 48 = .ok (.getfield 28, 3) := by decide +kernel
theorem dX11_recount_51 : decode cX11_recount 51 = .ok (.iload_n 3, 1) := by decide +kernel
theorem dX11_recount_52 : decode cX11_recount 52 = .ok (.iconst 0, 1) := by decide +kernel
theorem dX11_recount_53 : decode cX11_recount 53 = .ok (.iastore, 1) := by decide +kernel
theorem dX11_recount_54 : decode cX11_recount 54 = .ok (.aload_n 0, 1) := by decide +kernel
theorem dX11_recount_55 : decode cX11_recount 55 = .ok (.getfield 31, 3) := by decide +kernel
theorem dX11_recount_58 : decode cX11_recount 58 = .ok (.iload_n 3, 1) := by decide +kernel
theorem dX11_recount_59 : decode cX11_recount 59 = .ok (.iconst 0, 1) := by decide +kernel
theorem dX11_recount_60 : decode cX11_recount 60 = .ok (.iastore, 1) := by decide +kernel
theorem dX11_recount_61 : decode cX11_recount 61 = .ok (.iconst 0, 1) := by decide +kernel
theorem dX11_recount_62 : decode cX11_recount 62 = .ok (.istore 4, 2) := by decide +kernel
theorem dX11_recount_64 : decode cX11_recount 64 = .ok (.iload 4, 2) := by decide +kernel
theorem dX11_recount_66 : decode cX11_recount 66 = .ok (.aload_n 0, 1) := by decide +kernel
theorem dX11_recount_67 : decode cX11_recount 67 = .ok (.getfield 16, 3) := by decide +kernel
theorem dX11_recount_70 : decode cX11_recount 70 = .ok (.iload_n 1, 1) := by decide +kernel
theorem dX11_recount_71 : decode cX11_recount 71 = .ok (.iaload, 1) := by decide +kernel
theorem dX11_recount_72 : decode cX11_recount 72 = .ok (.if_icmp .ge 148, 3) := by decide +kernel
theorem dX11_recount_75 : decode cX11_recount 75 = .ok (.aload_n 0, 1) := by decide +kernel
theorem dX11_recount_76 : decode cX11_recount 76 = .ok (.iload_n 1, 1) := by decide +kernel
theorem dX11_recount_77 : decode cX11_recount 77 = .ok (.iload 4, 2) := by decide +kernel
theorem dX11_recount_79 : decode cX11_recount 79 = .ok (.iload_n 2, 1) := by decide +kernel
theorem dX11_recount_80 : decode cX11_recount 80 = .ok (.invokevirtual 101, 3) := by decide +kernel
theorem dX11_recount_83 : decode cX11_recount 83 = .ok (.istore 5, 2) := by decide +kernel
theorem dX11_recount_85 : decode cX11_recount 85 = .ok (.iconst 1, 1) := by decide +kernel
theorem dX11_recount_86 : decode cX11_recount 86 = .ok (.istore 6, 2) := by decide +kernel
theorem dX11_recount_88 : decode cX11_recount 88 = .ok (.iconst 0, 1) := by decide +kernel
theorem dX11_recount_89 : decode cX11_recount 89 = .ok (.istore 7, 2) := by decide +kernel
theorem dX11_recount_91 : decode cX11_recount 91 = .ok (.iload 7, 2) := by decide +kernel
theorem dX11_recount_93 : decode cX11_recount 93 = .ok (.iload 4, 2) := by decide +kernel
theorem dX11_recount_95 : decode cX11_recount 95 = .ok (.if_icmp .ge 34, 3) := by decide +kernel
theorem dX11_recount_98 : decode cX11_recount 98 = .ok (.iload 6, 2) := by decide +kernel
theorem dX11_recount_100 : decode cX11_recount 100 = .ok (.ifCond .eq 20, 3) := by decide +kernel
theorem dX11_recount_103 : decode cX11_recount 103 = .ok (.aload_n 0, 1) := by decide +kernel
theorem dX11_recount_104 : decode cX11_recount 104 = .ok (.iload_n 1, 1) := by decide +kernel
theorem dX11_recount_105 : decode cX11_recount 105 = .ok (.iload 7, 2) := by decide +kernel
theorem dX11_recount_107 : decode cX11_recount 107 = .ok (.iload_n 2, 1) := by decide +kernel
theorem dX11_recount_108 : decode cX11_recount 108 = .ok (.invokevirtual 101, 3) := by decide +kernel
theorem dX11_recount_111 : decode cX11_recount 111 = .ok (.iload 5, 2) := by decide +kernel
theorem dX11_recount_113 : decode cX11_recount 113 = .ok (.if_icmp .eq 7, 3) := by decide +kernel
theorem dX11_recount_116 : decode cX11_recount 116 = .ok (.iconst 1, 1) := by decide +kernel
theorem dX11_recount_117 : decode cX11_recount 117 = .ok (.goto 4, 3) := by decide +kernel
theorem dX11_recount_120 : decode cX11_recount 120 = .ok (.iconst 0, 1) := by decide +kernel
theorem dX11_recount_121 : decode cX11_recount 121 = .ok (.istore 6, 2) := by decide +kernel
theorem dX11_recount_123 : decode cX11_recount 123 = .ok (.iinc 7 1, 3) := by decide +kernel
theorem dX11_recount_126 : decode cX11_recount 126 = .ok (.goto (-35), 3) := by decide +kernel
theorem dX11_recount_129 : decode cX11_recount 129 = .ok (.aload_n 0, 1) := by decide +kernel
theorem dX11_recount_130 : decode cX11_recount 130 = .ok (.getfield 25, 3) := by decide +kernel
theorem dX11_recount_133 : decode cX11_recount 133 = .ok (.iload_n 3, 1) := by decide +kernel
theorem dX11_recount_134 : decode cX11_recount 134 = .ok (.dup2, 1) := by decide +kernel
theorem dX11_recount_135 : decode cX11_recount 135 = .ok (.iaload, 1) := by decide +kernel
theorem dX11_recount_136 : decode cX11_recount 136 = .ok (.iload 6, 2) := by decide +kernel
theorem dX11_recount_138 : decode cX11_recount 138 = .ok (.ifCond .eq 7, 3) := by decide +kernel
theorem dX11_recount_141 : decode cX11_recount 141 = .ok (.iconst 1, 1) := by decide +kernel
theorem dX11_recount_142 : decode cX11_recount 142 = .ok (.goto 4, 3) := by decide +kernel
theorem dX11_recount_145 : decode cX11_recount 145 = .ok (.iconst 0, 1) := by decide +kernel
theorem dX11_recount_146 : decode cX11_recount 146 = .ok (.iadd, 1) := by decide +kernel
theorem dX11_recount_147 : decode cX11_recount 147 = .ok (.iastore, 1) := by decide +kernel
theorem dX11_recount_148 : decode cX11_recount 148 = .ok (.aload_n 0, 1) := by decide +kernel
theorem dX11_recount_149 : decode cX11_recount 149 = .ok (.getfield 28, 3) := by decide +kernel
theorem dX11_recount_152 : decode cX11_recount 152 = .ok (.iload_n 3, 1) := by decide +kernel
theorem dX11_recount_153 : decode cX11_recount 153 = .ok (.iload 4, 2) := by decide +kernel
theorem dX11_recount_155 : decode cX11_recount 155 = .ok (.ifCond .eq 14, 3) := by decide +kernel
theorem dX11_recount_158 : decode cX11_recount 158 = .ok (.iload 5, 2) := by decide +kernel
theorem dX11_recount_160 : decode cX11_recount 160 = .ok (.aload_n 0, 1) := by decide +kernel
theorem dX11_recount_161 : decode cX11_recount 161 = .ok (.getfield 28, 3) := by decide +kernel
theorem dX11_recount_164 : decode cX11_recount 164 = .ok (.iload_n 3, 1) := by decide +kernel
theorem dX11_recount_165 : decode cX11_recount 165 = .ok (.iaload, 1) := by decide +kernel
theorem dX11_recount_166 : decode cX11_recount 166 = .ok (.if_icmp .ge 8, 3) := by decide +kernel
theorem dX11_recount_169 : decode cX11_recount 169 = .ok (.iload 5, 2) := by decide +kernel
theorem dX11_recount_171 : decode cX11_recount 171 = .ok (.goto 9, 3) := by decide +kernel
theorem dX11_recount_174 : decode cX11_recount 174 = .ok (.aload_n 0, 1) := by decide +kernel
theorem dX11_recount_175 : decode cX11_recount 175 = .ok (.getfield 28, 3) := by decide +kernel
theorem dX11_recount_178 : decode cX11_recount 178 = .ok (.iload_n 3, 1) := by decide +kernel
theorem dX11_recount_179 : decode cX11_recount 179 = .ok (.iaload, 1) := by decide +kernel
theorem dX11_recount_180 : decode cX11_recount 180 = .ok (.iastore, 1) := by decide +kernel
theorem dX11_recount_181 : decode cX11_recount 181 = .ok (.aload_n 0, 1) := by decide +kernel
theorem dX11_recount_182 : decode cX11_recount 182 = .ok (.getfield 31, 3) := by decide +kernel
theorem dX11_recount_185 : decode cX11_recount 185 = .ok (.iload_n 3, 1) := by decide +kernel
theorem dX11_recount_186 : decode cX11_recount 186 = .ok (.iload 4, 2) := by decide +kernel
theorem dX11_recount_188 : decode cX11_recount 188 = .ok (.ifCond .eq 14, 3) := by decide +kernel
theorem dX11_recount_191 : decode cX11_recount 191 = .ok (.iload 5, 2) := by decide +kernel
theorem dX11_recount_193 : decode cX11_recount 193 = .ok (.aload_n 0, 1) := by decide +kernel
theorem dX11_recount_194 : decode cX11_recount 194 = .ok (.getfield 31, 3) := by decide +kernel
theorem dX11_recount_197 : decode cX11_recount 197 = .ok (.iload_n 3, 1) := by decide +kernel
theorem dX11_recount_198 : decode cX11_recount 198 = .ok (.iaload, 1) := by decide +kernel
theorem dX11_recount_199 : decode cX11_recount 199 = .ok (.if_icmp .le 8, 3) := by decide +kernel
theorem dX11_recount_202 : decode cX11_recount 202 = .ok (.iload 5, 2) := by decide +kernel
theorem dX11_recount_204 : decode cX11_recount 204 = .ok (.goto 9, 3) := by decide +kernel
theorem dX11_recount_207 : decode cX11_recount 207 = .ok (.aload_n 0, 1) := by decide +kernel
theorem dX11_recount_208 : decode cX11_recount 208 = .ok (.getfield 31, 3) := by decide +kernel
theorem dX11_recount_211 : decode cX11_recount 211 = .ok (.iload_n 3, 1) := by decide +kernel
theorem dX11_recount_212 : decode cX11_recount 212 = .ok (.iaload, 1) := by decide +kernel
theorem dX11_recount_213 : decode cX11_recount 213 = .ok (.iastore, 1) := by decide +kernel
theorem dX11_recount_214 : decode cX11_recount 214 = .ok (.iinc 4 1, 3) := by decide +kernel
theorem dX11_recount_217 : decode cX11_recount 217 = .ok (.goto (-153), 3) := by decide +kernel
theorem dX11_recount_220 : decode cX11_recount 220 = .ok (.iinc 2 1, 3) := by decide +kernel
theorem dX11_recount_223 : decode cX11_recount 223 = .ok (.goto (-199), 3) := by decide +kernel
theorem dX11_recount_226 : decode cX11_recount 226 = .ok (.aload_n 0, 1) := by decide +kernel
theorem dX11_recount_227 : decode cX11_recount 227 = .ok (.getfield 22, 3) := by decide +kernel
theorem dX11_recount_230 : decode cX11_recount 230 = .ok (.iload_n 1, 1) := by decide +kernel
