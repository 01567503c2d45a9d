theorem dX11_recount_231 : decode cX11_recount 231 = .ok (.iaload, 1) := by decide +kernel
theorem dX11_recount_232 : decode cX11_recount 232 = .ok (.ireturn, 1) := by decide +kernel
theorem dX11_pages_0 : decode cX11_pages 0 = .ok (.aload_n 0, 1) := by decide +kernel
theorem dX11_pages_1 : decode cX11_pages 1 = .ok (.getfield 22, 3) := by decide +kernel
theorem dX11_pages_4 : decode cX11_pages 4 = .ok (.iload_n 1, 1) := by decide +kernel
theorem dX11_pages_5 : decode cX11_pages 5 = .ok (.iaload, 1) := by decide +kernel
theorem dX11_pages_6 : decode cX11_pages 6 = .ok (.aload_n 0, 1) := by decide +kernel
theorem dX11_pages_7 : decode cX11_pages 7 = .ok (.getfield 13, 3) := by decide +kernel
theorem dX11_pages_10 : decode cX11_pages 10 = .ok (.iload_n 1, 1) := by decide +kernel
theorem dX11_pages_11 : decode cX11_pages 11 = .ok (.iaload, 1) := by decide +kernel
theorem dX11_pages_12 : decode cX11_pages 12 = .ok (.invokestatic 105, 3) := by decide +kernel
theorem dX11_pages_15 : decode cX11_pages 15 = .ok (.ireturn, 1) := by decide +kernel
theorem dX11_counts_0 : decode cX11_counts 0 = .ok (.aload_n 0, 1) := by decide +kernel
theorem dX11_counts_1 : decode cX11_counts 1 = .ok (.iload_n 1, 1) := by decide +kernel
theorem dX11_counts_2 : decode cX11_counts 2 = .ok (.invokevirtual 93, 3) := by decide +kernel
theorem dX11_counts_5 : decode cX11_counts 5 = .ok (.ifCond .ne 5, 3) := by decide +kernel
theorem dX11_counts_8 : decode cX11_counts 8 = .ok (.iconst (-1), 1) := by decide +kernel
theorem dX11_counts_9 : decode cX11_counts 9 = .ok (.ireturn, 1) := by decide +kernel
theorem dX11_counts_10 : decode cX11_counts 10 = .ok (.iload_n 3, 1) := by decide +kernel
theorem dX11_counts_11 : decode cX11_counts 11 = .ok (.tableswitch 129 0 5 #[37, 44, 50, 74, 98, 122], 37) := by decide +kernel
theorem dX11_counts_48 : decode cX11_counts 48 = .ok (.aload_n 0, 1) := by decide +kernel
theorem dX11_counts_49 : decode cX11_counts 49 = .ok (.getfield 22, 3) := by decide +kernel
theorem dX11_counts_52 : decode cX11_counts 52 = .ok (.iload_n 1, 1) := by decide +kernel
theorem dX11_counts_53 : decode cX11_counts 53 = .ok (.iaload, 1) := by decide +kernel
theorem dX11_counts_54 : decode cX11_counts 54 = .ok (.ireturn, 1) := by decide +kernel
theorem dX11_counts_55 : decode cX11_counts 55 = .ok (.aload_n 0, 1) := by decide +kernel
theorem dX11_counts_56 : decode cX11_counts 56 = .ok (.iload_n 1, 1) := by decide +kernel
theorem dX11_counts_57 : decode cX11_counts 57 = .ok (.invokevirtual 109, 3) := by decide +kernel
theorem dX11_counts_60 : decode cX11_counts 60 = .ok (.ireturn, 1) := by decide +kernel
theorem dX11_counts_61 : decode cX11_counts 61 = .ok (.aload_n 0, 1) := by decide +kernel
theorem dX11_counts_62 : decode cX11_counts 62 = .ok (.iload_n 1, 1) := by decide +kernel
theorem dX11_counts_63 : decode cX11_counts 63 = .ok (.iload_n 2, 1) := by decide +kernel
theorem dX11_counts_64 : decode cX11_counts 64 = .ok (.invokevirtual 113, 3) := by decide +kernel
theorem dX11_counts_67 : decode cX11_counts 67 = .ok (.ifCond .eq 16, 3) := by decide +kernel
theorem dX11_counts_70 : decode cX11_counts 70 = .ok (.aload_n 0, 1) := by decide +kernel
theorem dX11_counts_71 : decode cX11_counts 71 = .ok (.getfield 25, 3) := by decide +kernel
theorem dX11_counts_74 : decode cX11_counts 74 = .ok (.iconst 4, 1) := by decide +kernel
theorem dX11_counts_75 : decode cX11_counts 75 = .ok (.iload_n 1, 1) := by decide +kernel
theorem dX11_counts_76 : decode cX11_counts 76 = .ok (.imul, 1) := by decide +kernel
theorem dX11_counts_77 : decode cX11_counts 77 = .ok (.iload_n 2, 1) := by decide +kernel
theorem dX11_counts_78 : decode cX11_counts 78 = .ok (.iadd, 1) := by decide +kernel
theorem dX11_counts_79 : decode cX11_counts 79 = .ok (.iaload, 1) := by decide +kernel
theorem dX11_counts_80 : decode cX11_counts 80 = .ok (.goto 4, 3) := by decide +kernel
theorem dX11_counts_83 : decode cX11_counts 83 = .ok (.iconst (-1), 1) := by decide +kernel
theorem dX11_counts_84 : decode cX11_counts 84 = .ok (.ireturn, 1) := by decide +kernel
theorem dX11_counts_85 : decode cX11_counts 85 = .ok (.aload_n 0, 1) := by decide +kernel
theorem dX11_counts_86 : decode cX11_counts 86 = .ok (.iload_n 1, 1) := by decide +kernel
theorem dX11_counts_87 : decode cX11_counts 87 = .ok (.iload_n 2, 1) := by decide +kernel
theorem dX11_counts_88 : decode cX11_counts 88 = .ok (.invokevirtual 113, 3) := by decide +kernel
theorem dX11_counts_91 : decode cX11_counts 91 = .ok (.ifCond .eq 16, 3) := by decide +kernel
theorem dX11_counts_94 : decode cX11_counts 94 = .ok (.aload_n 0, 1) := by decide +kernel
theorem dX11_counts_95 : decode cX11_counts 95 = .ok (.getfield 28, 3) := by decide +kernel
theorem dX11_counts_98 : decode cX11_counts 98 = .ok (.iconst 4, 1) := by decide +kernel
theorem dX11_counts_99 : decode cX11_counts 99 = .ok (.iload_n 1, 1) := by decide +kernel
theorem dX11_counts_100 : decode cX11_counts 100 = .ok (.imul, 1) := by decide +kernel
theorem dX11_counts_101 : decode cX11_counts 101 = .ok (.iload_n 2, 1) := by decide +kernel
theorem dX11_counts_102 : decode cX11_counts 102 = .ok (.iadd, 1) := by decide +kernel
theorem dX11_counts_103 : decode cX11_counts 103 = .ok (.iaload, 1) := by decide +kernel
theorem dX11_counts_104 : decode cX11_counts 104 = .ok (.goto 4, 3) := by decide +kernel
theorem dX11_counts_107 : decode cX11_counts 107 = .ok (.iconst (-1), 1) := by decide +kernel
theorem dX11_counts_108 : decode cX11_counts 108 = .ok (.ireturn, 1) := by decide +kernel
theorem dX11_counts_109 : decode cX11_counts 109 = .ok (.aload_n 0, 1) := by decide +kernel
theorem dX11_counts_110 : decode cX11_counts 110 = .ok (.iload_n 1, 1) := by decide +kernel
theorem dX11_counts_111 : decode cX11_counts 111 = .ok (.iload_n 2, 1) := by decide +kernel
theorem dX11_counts_112 : decode cX11_counts 112 = .ok (.invokevirtual 113, 3) := by decide +kernel
theorem dX11_counts_115 : decode cX11_counts 115 = .ok (.ifCond .eq 16, 3) := by decide +kernel
theorem dX11_counts_118 : decode cX11_counts 118 = .ok (.aload_n 0, 1) := by decide +kernel
theorem dX11_counts_119 : decode cX11_counts 119 = .ok (.getfield 31, 3) := by decide +kernel
theorem dX11_counts_122 : decode cX11_counts 122 = .ok (.iconst 4, 1) := by decide +kernel
theorem dX11_counts_123 : decode cX11_counts 123 = .ok (.iload_n 1, 1) := by decide +kernel
theorem dX11_counts_124 : decode cX11_counts 124 = .ok (.imul, 1) := by decide +kernel
theorem dX11_counts_125 : decode cX11_counts 125 = .ok (.iload_n 2, 1) := by decide +kernel
theorem dX11_counts_126 : decode cX11_counts 126 = .ok (.iadd, 1) := by decide +kernel
theorem dX11_counts_127 : decode cX11_counts 127 = .ok (.iaload, 1) := by decide +kernel
theorem dX11_counts_128 : decode cX11_counts 128 = .ok (.goto 4, 3) := by decide +kernel
theorem dX11_counts_131 : decode cX11_counts 131 = .ok (.iconst (-1), 1) := by decide +kernel
theorem dX11_counts_132 : decode cX11_counts 132 = .ok (.ireturn, 1) := by decide +kernel
theorem dX11_counts_133 : decode cX11_counts 133 = .ok (.aload_n 0, 1) := by decide +kernel
theorem dX11_counts_134 : decode cX11_counts 134 = .ok (.getfield 16, 3) := by decide +kernel
theorem dX11_counts_137 : decode cX11_counts 137 = .ok (.iload_n 1, 1) := by decide +kernel
theorem dX11_counts_138 : decode cX11_counts 138 = .ok (.iaload, 1) := by decide +kernel
theorem dX11_counts_139 : decode cX11_counts 139 = .ok (.ireturn, 1) := by decide +kernel
theorem dX11_counts_140 : decode cX11_counts 140 = .ok (.iconst (-1), 1) := by decide +kernel
theorem dX11_counts_141 : decode cX11_counts 141 = .ok (.ireturn, 1) := by decide +kernel
theorem dX11_changes_0 : decode cX11_changes 0 = .ok (.aload_n 0, 1) := by decide +kernel
theorem dX11_changes_1 : decode cX11_changes 1 = .ok (.iload_n 1, 1) := by decide +kernel
theorem dX11_changes_2 : decode cX11_changes 2 = .ok (.invokevirtual 93, 3) := by decide +kernel
theorem dX11_changes_5 : decode cX11_changes 5 = .ok (.ifCond .eq 14, 3) := by decide +kernel
theorem dX11_changes_8 : decode cX11_changes 8 = .ok (.iload_n 2, 1) := by decide +kernel
theorem dX11_changes_9 : decode cX11_changes 9 = .ok (.iconst 0, 1) := by decide +kernel
theorem dX11_changes_10 : decode cX11_changes 10 = .ok (.sipush 1000, 3) := by decide +kernel
theorem dX11_changes_13 : decode cX11_changes 13 = .ok (.invokestatic 89, 3) := by decide +kernel
theorem dX11_changes_16 : decode cX11_changes 16 = .ok (.ifCond .ne 5, 3) := by decide +kernel
theorem dX11_changes_19 : decode cX11_changes 19 = .ok (.iconst 0, 1) := by decide +kernel
theorem dX11_changes_20 : decode cX11_changes 20 = .ok (.ireturn, 1) := by decide +kernel
theorem dX11_changes_21 : decode cX11_changes 21 = .ok (.aload_n 0, 1) := by decide +kernel
theorem dX11_changes_22 : decode cX11_changes 22 = .ok (.getfield 34, 3) := by decide +kernel
theorem dX11_changes_25 : decode cX11_changes 25 = .ok (.iload_n 1, 1) := by decide +kernel
theorem dX11_changes_26 : decode cX11_changes 26 = .ok (.iload_n 2, 1) := by decide +kernel
theorem dX11_changes_27 : decode cX11_changes 27 = .ok (.iastore, 1) := by decide +kernel
theorem dX11_changes_28 : decode cX11_changes 28 = .ok (.iconst 1, 1) := by decide +kernel
theorem dX11_changes_29 : decode cX11_changes 29 = .ok (.ireturn, 1) := by decide +kernel
theorem dX11_question_0 : decode cX11_question 0 = .ok (.aload_n 0, 1) := by decide +kernel
theorem dX11_question_1 : decode cX11_question 1 = .ok (.getfield 116, 3) := by decide +kernel
theorem dX11_question_4 : decode cX11_question 4 = .ok (.bipush 24, 2) := by decide +kernel
theorem dX11_question_6 : decode cX11_question 6 = .ok (.if_icmp .eq 54, 3) := by decide +kernel
theorem dX11_question_9 : decode cX11_question 9 = .ok (.aload_n 0, 1) := by decide +kernel
theorem dX11_question_10 : decode cX11_question 10 = .ok (.iload_n 1, 1) := by decide +kernel
theorem dX11_question_11 : decode cX11_question 11 = .ok (.invokevirtual 93, 3) := by decide +kernel
theorem dX11_question_14 : decode cX11_question 14 = .ok (.ifCond .eq 46, 3) := by decide +kernel
theorem dX11_question_17 : decode cX11_question 17 = .ok (.iload_n 2, 1) := by decide +kernel
theorem dX11_question_18 : decode cX11_question 18 = .ok (.iconst 0, 1) := by decide +kernel
theorem dX11_question_19 : decode cX11_question 19 = .ok (.iconst 1, 1) := by decide +kernel
theorem dX11_question_20 : decode cX11_question 20 = .ok (.aload_n 0, 1) := by decide +kernel
theorem dX11_question_21 : decode cX11_question 21 = .ok (.getfield 7, 3) := by decide +kernel
theorem dX11_question_24 : decode cX11_question 24 = .ok (.iload_n 1, 1) := by decide +kernel
theorem dX11_question_25 : decode cX11_question 25 = .ok (.iaload, 1) := by decide +kernel
theorem dX11_question_26 : decode cX11_question 26 = .ok (.ishl, 1) := by decide +kernel
theorem dX11_question_27 : decode cX11_question 27 = .ok (.iconst 1, 1) := by decide +kernel
theorem dX11_question_28 : decode cX11_question 28 = .ok (.isub, 1) := by decide +kernel
theorem dX11_question_29 : decode cX11_question 29 = .ok (.invokestatic 89, 3) := by decide +kernel
theorem dX11_question_32 : decode cX11_question 32 = .ok (.ifCond .eq 28, 3) := by decide +kernel
theorem dX11_question_35 : decode cX11_question 35 = .ok (.iload_n 3, 1) := by decide +kernel
theorem dX11_question_36 : decode cX11_question 36 = .ok (.iconst (-1), 1) := by decide +kernel
theorem dX11_question_37 : decode cX11_question 37 = .ok (.if_icmp .eq 12, 3) := by decide +kernel
theorem dX11_question_40 : decode cX11_question 40 = .ok (.aload_n 0, 1) := by decide +kernel
theorem dX11_question_41 : decode cX11_question 41 = .ok (.iload_n 1, 1) := by decide +kernel
theorem dX11_question_42 : decode cX11_question 42 = .ok (.iload_n 3, 1) := by decide +kernel
theorem dX11_question_43 : decode cX11_question 43 = .ok (.invokevirtual 113, 3) := by decide +kernel
theorem dX11_question_46 : decode cX11_question 46 = .ok (.ifCond .eq 14, 3) := by decide +kernel
theorem dX11_question_49 : decode cX11_question 49 = .ok (.iload 4, 2) := by decide +kernel
theorem dX11_question_51 : decode cX11_question 51 = .ok (.iconst 1, 1) := by decide +kernel
theorem dX11_question_52 : decode cX11_question 52 = .ok (.bipush 100, 2) := by decide +kernel
theorem dX11_question_54 : decode cX11_question 54 = .ok (.invokestatic 89, 3) := by decide +kernel
theorem dX11_question_57 : decode cX11_question 57 = .ok (.ifCond .ne 5, 3) := by decide +kernel
theorem dX11_question_60 : decode cX11_question 60 = .ok (.iconst (-1), 1) := by decide +kernel
theorem dX11_question_61 : decode cX11_question 61 = .ok (.ireturn, 1) := by decide +kernel
theorem dX11_question_62 : decode cX11_question 62 = .ok (.aload_n 0, 1) := by decide +kernel
theorem dX11_question_63 : decode cX11_question 63 = .ok (.getfield 37, 3) := by decide +kernel
theorem dX11_question_66 : decode cX11_question 66 = .ok (.aload_n 0, 1) := by decide +kernel
theorem dX11_question_67 : decode cX11_question 67 = .ok (.getfield 116, 3) := by decide +kernel
theorem dX11_question_70 : decode cX11_question 70 = .ok (.iload_n 1, 1) := by decide +kernel
theorem dX11_question_71 : decode cX11_question 71 = .ok (.iastore, 1) := by decide +kernel
theorem dX11_question_72 : decode cX11_question 72 = .ok (.aload_n 0, 1) := by decide +kernel
theorem dX11_question_73 : decode cX11_question 73 = .ok (.getfield 40, 3) := by decide +kernel
theorem dX11_question_76 : decode cX11_question 76 = .ok (.aload_n 0, 1) := by decide +kernel
theorem dX11_question_77 : decode cX11_question 77 = .ok (.getfield 116, 3) := by decide +kernel
theorem dX11_question_80 : decode cX11_question 80 = .ok (.iload_n 2, 1) := by decide +kernel
theorem dX11_question_81 : decode cX11_question 81 = .ok (.iastore, 1) := by decide +kernel
theorem dX11_question_82 : decode cX11_question 82 = .ok (.aload_n 0, 1) := by decide +kernel
theorem dX11_question_83 : decode cX11_question 83 = .ok (.getfield 43, 3) := by decide +kernel
theorem dX11_question_86 : decode cX11_question 86 = .ok (.aload_n 0, 1) := by decide +kernel
theorem dX11_question_87 : decode cX11_question 87 = .ok (.getfield 116, 3) := by decide +kernel
theorem dX11_question_90 : decode cX11_question 90 = .ok (.iload_n 3, 1) := by decide +kernel
theorem dX11_question_91 : decode cX11_question 91 = .ok (.iastore, 1) := by decide +kernel
theorem dX11_question_92 : decode cX11_question 92 = .ok (.aload_n 0, 1) := by decide +kernel
theorem dX11_question_93 : decode cX11_question 93 = .ok (.getfield 46, 3) := by decide +kernel
theorem dX11_question_96 : decode cX11_question 96 = .ok (.aload_n 0, 1) := by decide +kernel
theorem dX11_question_97 : decode cX11_question 97 = .ok (.getfield 116, 3) := by decide +kernel
theorem dX11_question_100 : decode cX11_question 100 = .ok (.iload 4, 2) := by decide +kernel
theorem dX11_question_102 : decode cX11_question 102 = .ok (.iastore, 1) := by decide +kernel
theorem dX11_question_103 : decode cX11_question 103 = .ok (.aload_n 0, 1) := by decide +kernel
theorem dX11_question_104 : decode cX11_question 104 = .ok (.dup, 1) := by decide +kernel
theorem dX11_question_105 : decode cX11_question 105 = .ok (.getfield 116, 3) := by decide +kernel
theorem dX11_question_108 : decode cX11_question 108 = .ok (.iconst 1, 1) := by decide +kernel
theorem dX11_question_109 : decode cX11_question 109 = .ok (.iadd, 1) := by decide +kernel
theorem dX11_question_110 : decode cX11_question 110 = .ok (.putfield 116, 3) := by decide +kernel
theorem dX11_question_113 : decode cX11_question 113 = .ok (.aload_n 0, 1) := by decide +kernel
theorem dX11_question_114 : decode cX11_question 114 = .ok (.getfield 116, 3) := by decide +kernel
theorem dX11_question_117 : decode cX11_question 117 = .ok (.iconst 1, 1) := by decide +kernel
theorem dX11_question_118 : decode cX11_question 118 = .ok (.isub, 1) := by decide +kernel
theorem dX11_question_119 : decode cX11_question 119 = .ok (.ireturn, 1) := by decide +kernel
theorem dX11_isQuestion_0 : decode cX11_isQuestion 0 = .ok (.iload_n 1, 1) := by decide +kernel
theorem dX11_isQuestion_1 : decode cX11_isQuestion 1 = .ok (.iconst 0, 1) := by decide +kernel
theorem dX11_isQuestion_2 : decode cX11_isQuestion 2 = .ok (.aload_n 0, 1) := by decide +kernel
theorem dX11_isQuestion_3 : decode cX11_isQuestion 3 = .ok (.getfield 116, 3) := by decide +kernel
theorem dX11_isQuestion_6 : decode cX11_isQuestion 6 = .ok (.iconst 1, 1) := by decide +kernel
theorem dX11_isQuestion_7 : decode cX11_isQuestion 7 = .ok (.isub, 1) := by decide +kernel
theorem dX11_isQuestion_8 : decode cX11_isQuestion 8 = .ok (.invokestatic 89, 3) := by decide +kernel
theorem dX11_isQuestion_11 : decode cX11_isQuestion 11 = .ok (.ireturn, 1) := by decide +kernel
theorem dX11_test_0 : decode cX11_test 0 = .ok (.aload_n 0, 1) := by decide +kernel
theorem dX11_test_1 : decode cX11_test 1 = .ok (.iload_n 1, 1) := by decide +kernel
theorem dX11_test_2 : decode cX11_test 2 = .ok (.invokevirtual 120, 3) := by decide +kernel
theorem dX11_test_5 : decode cX11_test 5 = .ok (.ifCond .eq 40, 3) := by decide +kernel
theorem dX11_test_8 : decode cX11_test 8 = .ok (.aload_n 0, 1) := by decide +kernel
theorem dX11_test_9 : decode cX11_test 9 = .ok (.aload_n 0, 1) := by decide +kernel
theorem dX11_test_10 : decode cX11_test 10 = .ok (.getfield 37, 3) := by decide +kernel
theorem dX11_test_13 : decode cX11_test 13 = .ok (.iload_n 1, 1) := by decide +kernel
theorem dX11_test_14 : decode cX11_test 14 = .ok (.iaload, 1) := by decide +kernel
theorem dX11_test_15 : decode cX11_test 15 = .ok (.iload_n 2, 1) := by decide +kernel
theorem dX11_test_16 : decode cX11_test 16 = .ok (.invokevirtual 113, 3) := by decide +kernel
theorem dX11_test_19 : decode cX11_test 19 = .ok (.ifCond .eq 26, 3) := by decide +kernel
theorem dX11_test_22 : decode cX11_test 22 = .ok (.iload_n 3, 1) := by decide +kernel
theorem dX11_test_23 : decode cX11_test 23 = .ok (.iconst 0, 1) := by decide +kernel
theorem dX11_test_24 : decode cX11_test 24 = .ok (.sipush 999, 3) := by decide +kernel
theorem dX11_test_27 : decode cX11_test 27 = .ok (.invokestatic 89, 3) := by decide +kernel
theorem dX11_test_30 : decode cX11_test 30 = .ok (.ifCond .eq 15, 3) := by decide +kernel
theorem dX11_test_33 : decode cX11_test 33 = .ok (.iload 4, 2) := by decide +kernel
theorem dX11_test_35 : decode cX11_test 35 = .ok (.iload_n 3, 1) := by decide +kernel
theorem dX11_test_36 : decode cX11_test 36 = .ok (.sipush 999, 3) := by decide +kernel
theorem dX11_test_39 : decode cX11_test 39 = .ok (.invokestatic 89, 3) := by decide +kernel
theorem dX11_test_42 : decode cX11_test 42 = .ok (.ifCond .ne 5, 3) := by decide +kernel
theorem dX11_test_45 : decode cX11_test 45 = .ok (.iconst 0, 1) := by decide +kernel
theorem dX11_test_46 : decode cX11_test 46 = .ok (.ireturn, 1) := by decide +kernel
theorem dX11_test_47 : decode cX11_test 47 = .ok (.aload_n 0, 1) := by decide +kernel
theorem dX11_test_48 : decode cX11_test 48 = .ok (.getfield 49, 3) := by decide +kernel
theorem dX11_test_51 : decode cX11_test 51 = .ok (.iconst 4, 1) := by decide +kernel
theorem dX11_test_52 : decode cX11_test 52 = .ok (.iload_n 1, 1) := by decide +kernel
theorem dX11_test_53 : decode cX11_test 53 = .ok (.imul, 1) := by decide +kernel
theorem dX11_test_54 : decode cX11_test 54 = .ok (.iload_n 2, 1) := by decide +kernel
theorem dX11_test_55 : decode cX11_test 55 = .ok (.iadd, 1) := by decide +kernel
theorem dX11_test_56 : decode cX11_test 56 = .ok (.iconst 1, 1) := by decide +kernel
theorem dX11_test_57 : decode cX11_test 57 = .ok (.bastore, 1) := by decide +kernel
theorem dX11_test_58 : decode cX11_test 58 = .ok (.aload_n 0, 1) := by decide +kernel
theorem dX11_test_59 : decode cX11_test 59 = .ok (.getfield 53, 3) := by decide +kernel
theorem dX11_test_62 : decode cX11_test 62 = .ok (.iconst 4, 1) := by decide +kernel
theorem dX11_test_63 : decode cX11_test 63 = .ok (.iload_n 1, 1) := by decide +kernel
theorem dX11_test_64 : decode cX11_test 64 = .ok (.imul, 1) := by decide +kernel
theorem dX11_test_65 : decode cX11_test 65 = .ok (.iload_n 2, 1) := by decide +kernel
theorem dX11_test_66 : decode cX11_test 66 = .ok (.iadd, 1) := by decide +kernel
theorem dX11_test_67 : decode cX11_test 67 = .ok (.iload_n 3, 1) := by decide +kernel
theorem dX11_test_68 : decode cX11_test 68 = .ok (.iastore, 1) := by decide +kernel
theorem dX11_test_69 : decode cX11_test 69 = .ok (.aload_n 0, 1) := by decide +kernel
theorem dX11_test_70 : decode cX11_test 70 = .ok (.getfield 56, 3) := by decide +kernel
theorem dX11_test_73 : decode cX11_test 73 = .ok (.iconst 4, 1) := by decide +kernel
theorem dX11_test_74 : decode cX11_test 74 = .ok (.iload_n 1, 1) := by decide +kernel
theorem dX11_test_75 : decode cX11_test 75 = .ok (.imul, 1) := by decide +kernel
theorem dX11_test_76 : decode cX11_test 76 = .ok (.iload_n 2, 1) := by decide +kernel
theorem dX11_test_77 : decode cX11_test 77 = .ok (.iadd, 1) := by decide +kernel
theorem dX11_test_78 : decode cX11_test 78 = .ok (.iload 4, 2) := by decide +kernel
theorem dX11_test_80 : decode cX11_test 80 = .ok (.iastore, 1) := by decide +kernel
theorem dX11_test_81 : decode cX11_test 81 = .ok (.iconst 1, 1) := by decide +kernel
theorem dX11_test_82 : decode cX11_test 82 = .ok (.ireturn, 1) := by decide +kernel
theorem dX11_aid_0 : decode cX11_aid 0 = .ok (.aload_n 0, 1) := by decide +kernel
theorem dX11_aid_1 : decode cX11_aid 1 = .ok (.getfield 59, 3) := by decide +kernel
theorem dX11_aid_4 : decode cX11_aid 4 = .ok (.aload_n 0, 1) := by decide +kernel
theorem dX11_aid_5 : decode cX11_aid 5 = .ok (.getfield 123, 3) := by decide +kernel
theorem dX11_aid_8 : decode cX11_aid 8 = .ok (.iload_n 2, 1) := by decide +kernel
theorem dX11_aid_9 : decode cX11_aid 9 = .ok (.iastore, 1) := by decide +kernel
theorem dX11_aid_10 : decode cX11_aid 10 = .ok (.aload_n 0, 1) := by decide +kernel
theorem dX11_aid_11 : decode cX11_aid 11 = .ok (.getfield 62, 3) := by decide +kernel
theorem dX11_aid_14 : decode cX11_aid 14 = .ok (.aload_n 0, 1) := by decide +kernel
theorem dX11_aid_15 : decode cX11_aid 15 = .ok (.getfield 123, 3) := by decide +kernel
theorem dX11_aid_18 : decode cX11_aid 18 = .ok (.iload_n 1, 1) := by decide +kernel
theorem dX11_aid_19 : decode cX11_aid 19 = .ok (.iastore, 1) := by decide +kernel
theorem dX11_aid_20 : decode cX11_aid 20 = .ok (.aload_n 0, 1) := by decide +kernel
theorem dX11_aid_21 : decode cX11_aid 21 = .ok (.getfield 68, 3) := by decide +kernel
theorem dX11_aid_24 : decode cX11_aid 24 = .ok (.iconst 3, 1) := by decide +kernel
theorem dX11_aid_25 : decode cX11_aid 25 = .ok (.aload_n 0, 1) := by decide +kernel
theorem dX11_aid_26 : decode cX11_aid 26 = .ok (.getfield 123, 3) := by decide +kernel
theorem dX11_aid_29 : decode cX11_aid 29 = .ok (.imul, 1) := by decide +kernel
theorem dX11_aid_30 : decode cX11_aid 30 = .ok (.iload_n 3, 1) := by decide +kernel
theorem dX11_aid_31 : decode cX11_aid 31 = .ok (.iastore, 1) := by decide +kernel
theorem dX11_aid_32 : decode cX11_aid 32 = .ok (.aload_n 0, 1) := by decide +kernel
theorem dX11_aid_33 : decode cX11_aid 33 = .ok (.getfield 68, 3) := by decide +kernel
theorem dX11_aid_36 : decode cX11_aid 36 = .ok (.iconst 3, 1) := by decide +kernel
theorem dX11_aid_37 : decode cX11_aid 37 = .ok (.aload_n 0, 1) := by decide +kernel
theorem dX11_aid_38 : decode cX11_aid 38 = .ok (.getfield 123, 3) := by decide +kernel
theorem dX11_aid_41 : decode cX11_aid 41 = .ok (.imul, 1) := by decide +kernel
theorem dX11_aid_42 : decode cX11_aid 42 = .ok (.iconst 1, 1) := by decide +kernel
theorem dX11_aid_43 : decode cX11_aid 43 = .ok (.iadd, 1) := by decide +kernel
theorem dX11_aid_44 : decode cX11_aid 44 = .ok (.iload 4, 2) := by decide +kernel
theorem dX11_aid_46 : decode cX11_aid 46 = .ok (.iastore, 1) := by decide +kernel
theorem dX11_aid_47 : decode cX11_aid 47 = .ok (.aload_n 0, 1) := by decide +kernel
theorem dX11_aid_48 : decode cX11_aid 48 = .ok (.getfield 68, 3) := by decide +kernel
theorem dX11_aid_51 : decode cX11_aid 51 = .ok (.iconst 3, 1) := by decide +kernel
theorem dX11_aid_52 : decode cX11_aid 52 = .ok (.aload_n 0, 1) := by decide +kernel
theorem dX11_aid_53 : decode cX11_aid 53 = .ok (.getfield 123, 3) := by decide +kernel
theorem dX11_aid_56 : decode cX11_aid 56 = .ok (.imul, 1) := by decide +kernel
theorem dX11_aid_57 : decode cX11_aid 57 = .ok (.iconst 2, 1) := by decide +kernel
theorem dX11_aid_58 : decode cX11_aid 58 = .ok (.iadd, 1) := by decide +kernel
theorem dX11_aid_59 : decode cX11_aid 59 = .ok (.iload 5, 2) := by decide +kernel
theorem dX11_aid_61 : decode cX11_aid 61 = .ok (.iastore, 1) := by decide +kernel
theorem dX11_aid_62 : decode cX11_aid 62 = .ok (.aload_n 0, 1) := by decide +kernel
theorem dX11_aid_63 : decode cX11_aid 63 = .ok (.getfield 65, 3) := by decide +kernel
theorem dX11_aid_66 : decode cX11_aid 66 = .ok (.aload_n 0, 1) := by decide +kernel
theorem dX11_aid_67 : decode cX11_aid 67 = .ok (.getfield 123, 3) := by decide +kernel
theorem dX11_aid_70 : decode cX11_aid 70 = .ok (.iload 4, 2) := by decide +kernel
theorem dX11_aid_72 : decode cX11_aid 72 = .ok (.iconst (-1), 1) := by decide +kernel
theorem dX11_aid_73 : decode cX11_aid 73 = .ok (.if_icmp .ne 7, 3) := by decide +kernel
theorem dX11_aid_76 : decode cX11_aid 76 = .ok (.iconst 1, 1) := by decide +kernel
theorem dX11_aid_77 : decode cX11_aid 77 = .ok (.goto 14, 3) := by decide +kernel
theorem dX11_aid_80 : decode cX11_aid 80 = .ok (.iload 5, 2) := by decide +kernel
theorem dX11_aid_82 : decode cX11_aid 82 = .ok (.iconst (-1), 1) := by decide +kernel
theorem dX11_aid_83 : decode cX11_aid 83 = .ok (.if_icmp .ne 7, 3) := by decide +kernel
theorem dX11_aid_86 : decode cX11_aid 86 = .ok (.iconst 2, 1) := by decide +kernel
theorem dX11_aid_87 : decode cX11_aid 87 = .ok (.goto 4, 3) := by decide +kernel
theorem dX11_aid_90 : decode cX11_aid 90 = .ok (.iconst 3, 1) := by decide +kernel
theorem dX11_aid_91 : decode cX11_aid 91 = .ok (.iastore, 1) := by decide +kernel
theorem dX11_aid_92 : decode cX11_aid 92 = .ok (.aload_n 0, 1) := by decide +kernel
theorem dX11_aid_93 : decode cX11_aid 93 = .ok (.getfield 71, 3) := by decide +kernel
theorem dX11_aid_96 : decode cX11_aid 96 = .ok (.aload_n 0, 1) := by decide +kernel
theorem dX11_aid_97 : decode cX11_aid 97 = .ok (.getfield 123, 3) := by decide +kernel
theorem dX11_aid_100 : decode cX11_aid 100 = .ok (.iconst 0, 1) := by decide +kernel
theorem dX11_aid_101 : decode cX11_aid 101 = .ok (.iastore, 1) := by decide +kernel
theorem dX11_aid_102 : decode cX11_aid 102 = .ok (.aload_n 0, 1) := by decide +kernel
theorem dX11_aid_103 : decode cX11_aid 103 = .ok (.getfield 74, 3) := by decide +kernel
theorem dX11_aid_106 : decode cX11_aid 106 = .ok (.aload_n 0, 1) := by decide +kernel
theorem dX11_aid_107 : decode cX11_aid 107 = .ok (.getfield 123, 3) := by decide +kernel
theorem dX11_aid_110 : decode cX11_aid 110 = .ok (.iconst (-1), 1) := by decide +kernel
theorem dX11_aid_111 : decode cX11_aid 111 = .ok (.iastore, 1) := by decide +kernel
theorem dX11_aid_112 : decode cX11_aid 112 = .ok (.aload_n 0, 1) := by decide +kernel
theorem dX11_aid_113 : decode cX11_aid 113 = .ok (.dup, 1) := by decide +kernel
theorem dX11_aid_114 : decode cX11_aid 114 = .ok (.getfield 123, 3) := by decide +kernel
theorem dX11_aid_117 : decode cX11_aid 117 = .ok (.iconst 1, 1) := by decide +kernel
theorem dX11_aid_118 : decode cX11_aid 118 = .ok (.iadd, 1) := by decide +kernel
theorem dX11_aid_119 : decode cX11_aid 119 = .ok (.putfield 123, 3) := by decide +kernel
theorem dX11_aid_122 : decode cX11_aid 122 = .ok (.aload_n 0, 1) := by decide +kernel
theorem dX11_aid_123 : decode cX11_aid 123 = .ok (.getfield 123, 3) := by decide +kernel
theorem dX11_aid_126 : decode cX11_aid 126 = .ok (.iconst 1, 1) := by decide +kernel
theorem dX11_aid_127 : decode cX11_aid 127 = .ok (.isub, 1) := by decide +kernel
theorem dX11_aid_128 : decode cX11_aid 128 = .ok (.ireturn, 1) := by decide +kernel
theorem dX11_inTurn_0 : decode cX11_inTurn 0 = .ok (.aload_n 0, 1) := by decide +kernel
theorem dX11_inTurn_1 : decode cX11_inTurn 1 = .ok (.iload_n 1, 1) := by decide +kernel
theorem dX11_inTurn_2 : decode cX11_inTurn 2 = .ok (.iload_n 2, 1) := by decide +kernel
theorem dX11_inTurn_3 : decode cX11_inTurn 3 = .ok (.invokevirtual 113, 3) := by decide +kernel
theorem dX11_inTurn_6 : decode cX11_inTurn 6 = .ok (.ifCond .eq 14, 3) := by decide +kernel
theorem dX11_inTurn_9 : decode cX11_inTurn 9 = .ok (.iload_n 3, 1) := by decide +kernel
theorem dX11_inTurn_10 : decode cX11_inTurn 10 = .ok (.iconst (-1), 1) := by decide +kernel
theorem dX11_inTurn_11 : decode cX11_inTurn 11 = .ok (.if_icmp .ne 11, 3) := by decide +kernel
theorem dX11_inTurn_14 : decode cX11_inTurn 14 = .ok (.iload 4, 2) := by decide +kernel
theorem dX11_inTurn_16 : decode cX11_inTurn 16 = .ok (.iconst (-1), 1) := by decide +kernel
theorem dX11_inTurn_17 : decode cX11_inTurn 17 = .ok (.if_icmp .eq 5, 3) := by decide +kernel
theorem dX11_inTurn_20 : decode cX11_inTurn 20 = .ok (.iconst (-1), 1) := by decide +kernel
theorem dX11_inTurn_21 : decode cX11_inTurn 21 = .ok (.ireturn, 1) := by decide +kernel
theorem dX11_inTurn_22 : decode cX11_inTurn 22 = .ok (.iload_n 3, 1) := by decide +kernel
theorem dX11_inTurn_23 : decode cX11_inTurn 23 = .ok (.iconst (-1), 1) := by decide +kernel
theorem dX11_inTurn_24 : decode cX11_inTurn 24 = .ok (.if_icmp .eq 19, 3) := by decide +kernel
theorem dX11_inTurn_27 : decode cX11_inTurn 27 = .ok (.aload_n 0, 1) := by decide +kernel
theorem dX11_inTurn_28 : decode cX11_inTurn 28 = .ok (.iload_n 1, 1) := by decide +kernel
theorem dX11_inTurn_29 : decode cX11_inTurn 29 = .ok (.iload_n 3, 1) := by decide +kernel
theorem dX11_inTurn_30 : decode cX11_inTurn 30 = .ok (.invokevirtual 113, 3) := by decide +kernel
theorem dX11_inTurn_33 : decode cX11_inTurn 33 = .ok (.ifCond .eq 8, 3) := by decide +kernel
theorem dX11_inTurn_36 : decode cX11_inTurn 36 = .ok (.iload_n 3, 1) := by decide +kernel
theorem dX11_inTurn_37 : decode cX11_inTurn 37 = .ok (.iload_n 2, 1) := by decide +kernel
theorem dX11_inTurn_38 : decode cX11_inTurn 38 = .ok (.if_icmp .ne 5, 3) := by decide +kernel
theorem dX11_inTurn_41 : decode cX11_inTurn 41 = .ok (.iconst (-1), 1) := by decide +kernel
theorem dX11_inTurn_42 : decode cX11_inTurn 42 = .ok (.ireturn, 1) := by decide +kernel
theorem dX11_inTurn_43 : decode cX11_inTurn 43 = .ok (.iload 4, 2) := by decide +kernel
theorem dX11_inTurn_45 : decode cX11_inTurn 45 = .ok (.iconst (-1), 1) := by decide +kernel
theorem dX11_inTurn_46 : decode cX11_inTurn 46 = .ok (.if_icmp .eq 27, 3) := by decide +kernel
theorem dX11_inTurn_49 : decode cX11_inTurn 49 = .ok (.aload_n 0, 1) := by decide +kernel
theorem dX11_inTurn_50 : decode cX11_inTurn 50 = .ok (.iload_n 1, 1) := by decide +kernel
theorem dX11_inTurn_51 : decode cX11_inTurn 51 = .ok (.iload 4, 2) := by decide +kernel
theorem dX11_inTurn_53 : decode cX11_inTurn 53 = .ok (.invokevirtual 113, 3) := by decide +kernel
theorem dX11_inTurn_56 : decode cX11_inTurn 56 = .ok (.ifCond .eq 15, 3) := by decide +kernel
theorem dX11_inTurn_59 : decode cX11_inTurn 59 = .ok (.iload 4, 2) := by decide +kernel
theorem dX11_inTurn_61 : decode cX11_inTurn 61 = .ok (.iload_n 2, 1) := by decide +kernel
theorem dX11_inTurn_62 : decode cX11_inTurn 62 = .ok (.if_icmp .eq 9, 3) := by decide +kernel
theorem dX11_inTurn_65 : decode cX11_inTurn 65 = .ok (.iload 4, 2) := by decide +kernel
theorem dX11_inTurn_67 : decode cX11_inTurn 67 = .ok (.iload_n 3, 1) := by decide +kernel
theorem dX11_inTurn_68 : decode cX11_inTurn 68 = .ok (.if_icmp .ne 5, 3) := by decide +kernel
theorem dX11_inTurn_71 : decode cX11_inTurn 71 = .ok (.iconst (-1), 1) := by decide +kernel
theorem dX11_inTurn_72 : decode cX11_inTurn 72 = .ok (.ireturn, 1) := by decide +kernel
theorem dX11_inTurn_73 : decode cX11_inTurn 73 = .ok (.iconst 1, 1) := by decide +kernel
theorem dX11_inTurn_74 : decode cX11_inTurn 74 = .ok (.iload_n 2, 1) := by decide +kernel
theorem dX11_inTurn_75 : decode cX11_inTurn 75 = .ok (.ishl, 1) := by decide +kernel
theorem dX11_inTurn_76 : decode cX11_inTurn 76 = .ok (.iload_n 3, 1) := by decide +kernel
theorem dX11_inTurn_77 : decode cX11_inTurn 77 = .ok (.iconst (-1), 1) := by decide +kernel
theorem dX11_inTurn_78 : decode cX11_inTurn 78 = .ok (.if_icmp .ne 7, 3) := by decide +kernel
theorem dX11_inTurn_81 : decode cX11_inTurn 81 = .ok (.iconst 0, 1) := by decide +kernel
theorem dX11_inTurn_82 : decode cX11_inTurn 82 = .ok (.goto 6, 3) := by decide +kernel
theorem dX11_inTurn_85 : decode cX11_inTurn 85 = .ok (.iconst 1, 1) := by decide +kernel
theorem dX11_inTurn_86 : decode cX11_inTurn 86 = .ok (.iload_n 3, 1) := by decide +kernel
theorem dX11_inTurn_87 : decode cX11_inTurn 87 = .ok (.ishl, 1) := by decide +kernel
theorem dX11_inTurn_88 : decode cX11_inTurn 88 = .ok (.ior, 1) := by decide +kernel
theorem dX11_inTurn_89 : decode cX11_inTurn 89 = .ok (.iload 4, 2) := by decide +kernel
theorem dX11_inTurn_91 : decode cX11_inTurn 91 = .ok (.iconst (-1), 1) := by decide +kernel
theorem dX11_inTurn_92 : decode cX11_inTurn 92 = .ok (.if_icmp .ne 7, 3) := by decide +kernel
theorem dX11_inTurn_95 : decode cX11_inTurn 95 = .ok (.iconst 0, 1) := by decide +kernel
theorem dX11_inTurn_96 : decode cX11_inTurn 96 = .ok (.goto 7, 3) := by decide +kernel
theorem dX11_inTurn_99 : decode cX11_inTurn 99 = .ok (.iconst 1, 1) := by decide +kernel
theorem dX11_inTurn_100 : decode cX11_inTurn 100 = .ok (.iload 4, 2) := by decide +kernel
theorem dX11_inTurn_102 : decode cX11_inTurn 102 = .ok (.ishl, 1) := by decide +kernel
theorem dX11_inTurn_103 : decode cX11_inTurn 103 = .ok (.ior, 1) := by decide +kernel
theorem dX11_inTurn_104 : decode cX11_inTurn 104 = .ok (.ireturn, 1) := by decide +kernel
theorem dX11_order_0 : decode cX11_order 0 = .ok (.aload_n 0, 1) := by decide +kernel
theorem dX11_order_1 : decode cX11_order 1 = .ok (.iload_n 1, 1) := by decide +kernel
theorem dX11_order_2 : decode cX11_order 2 = .ok (.iload_n 3, 1) := by decide +kernel
theorem dX11_order_3 : decode cX11_order 3 = .ok (.iload 4, 2) := by decide +kernel
theorem dX11_order_5 : decode cX11_order 5 = .ok (.iload 5, 2) := by decide +kernel
theorem dX11_order_7 : decode cX11_order 7 = .ok (.invokevirtual 126, 3) := by decide +kernel
theorem dX11_order_10 : decode cX11_order 10 = .ok (.istore 7, 2) := by decide +kernel
theorem dX11_order_12 : decode cX11_order 12 = .ok (.aload_n 0, 1) := by decide +kernel
theorem dX11_order_13 : decode cX11_order 13 = .ok (.getfield 123, 3) := by decide +kernel
theorem dX11_order_16 : decode cX11_order 16 = .ok (.bipush 12, 2) := by decide +kernel
theorem dX11_order_18 : decode cX11_order 18 = .ok (.if_icmp .eq 22, 3) := by decide +kernel
theorem dX11_order_21 : decode cX11_order 21 = .ok (.iload 7, 2) := by decide +kernel
theorem dX11_order_23 : decode cX11_order 23 = .ok (.ifCond .lt 17, 3) := by decide +kernel
theorem dX11_order_26 : decode cX11_order 26 = .ok (.iload_n 2, 1) := by decide +kernel
theorem dX11_order_27 : decode cX11_order 27 = .ok (.ifCond .eq 15, 3) := by decide +kernel
theorem dX11_order_30 : decode cX11_order 30 = .ok (.iload_n 2, 1) := by decide +kernel
theorem dX11_order_31 : decode cX11_order 31 = .ok (.iconst 1, 1) := by decide +kernel
theorem dX11_order_32 : decode cX11_order 32 = .ok (.if_icmp .eq 10, 3) := by decide +kernel
theorem dX11_order_35 : decode cX11_order 35 = .ok (.iload_n 2, 1) := by decide +kernel
theorem dX11_order_36 : decode cX11_order 36 = .ok (.iconst 4, 1) := by decide +kernel
theorem dX11_order_37 : decode cX11_order 37 = .ok (.if_icmp .eq 5, 3) := by decide +kernel
theorem dX11_order_40 : decode cX11_order 40 = .ok (.iconst (-1), 1) := by decide +kernel
theorem dX11_order_41 : decode cX11_order 41 = .ok (.ireturn, 1) := by decide +kernel
theorem dX11_order_42 : decode cX11_order 42 = .ok (.iload_n 2, 1) := by decide +kernel
theorem dX11_order_43 : decode cX11_order 43 = .ok (.iconst 1, 1) := by decide +kernel
theorem dX11_order_44 : decode cX11_order 44 = .ok (.if_icmp .ne 34, 3) := by decide +kernel
theorem dX11_order_47 : decode cX11_order 47 = .ok (.iload 6, 2) := by decide +kernel
theorem dX11_order_49 : decode cX11_order 49 = .ok (.iconst 0, 1) := by decide +kernel
theorem dX11_order_50 : decode cX11_order 50 = .ok (.iconst 1, 1) := by decide +kernel
theorem dX11_order_51 : decode cX11_order 51 = .ok (.aload_n 0, 1) := by decide +kernel
theorem dX11_order_52 : decode cX11_order 52 = .ok (.getfield 7, 3) := by decide +kernel
theorem dX11_order_55 : decode cX11_order 55 = .ok (.iload_n 1, 1) := by decide +kernel
theorem dX11_order_56 : decode cX11_order 56 = .ok (.iaload, 1) := by decide +kernel
theorem dX11_order_57 : decode cX11_order 57 = .ok (.ishl, 1) := by decide +kernel
theorem dX11_order_58 : decode cX11_order 58 = .ok (.iconst 1, 1) := by decide +kernel
theorem dX11_order_59 : decode cX11_order 59 = .ok (.isub, 1) := by decide +kernel
theorem dX11_order_60 : decode cX11_order 60 = .ok (.invokestatic 89, 3) := by decide +kernel
theorem dX11_order_63 : decode cX11_order 63 = .ok (.ifCond .eq 13, 3) := by decide +kernel
theorem dX11_order_66 : decode cX11_order 66 = .ok (.iload 6, 2) := by decide +kernel
theorem dX11_order_68 : decode cX11_order 68 = .ok (.iload 7, 2) := by decide +kernel
theorem dX11_order_70 : decode cX11_order 70 = .ok (.iconst (-1), 1) := by decide +kernel
theorem dX11_order_71 : decode cX11_order 71 = .ok (.ixor, 1) := by decide +kernel
theorem dX11_order_72 : decode cX11_order 72 = .ok (.iand, 1) := by decide +kernel
theorem dX11_order_73 : decode cX11_order 73 = .ok (.ifCond .ne 5, 3) := by decide +kernel
theorem dX11_order_76 : decode cX11_order 76 = .ok (.iconst (-1), 1) := by decide +kernel
theorem dX11_order_77 : decode cX11_order 77 = .ok (.ireturn, 1) := by decide +kernel
theorem dX11_order_78 : decode cX11_order 78 = .ok (.aload_n 0, 1) := by decide +kernel
theorem dX11_order_79 : decode cX11_order 79 = .ok (.iload_n 1, 1) := by decide +kernel
theorem dX11_order_80 : decode cX11_order 80 = .ok (.iload_n 2, 1) := by decide +kernel
theorem dX11_order_81 : decode cX11_order 81 = .ok (.iload_n 3, 1) := by decide +kernel
theorem dX11_order_82 : decode cX11_order 82 = .ok (.iload 4, 2) := by decide +kernel
theorem dX11_order_84 : decode cX11_order 84 = .ok (.iload 5, 2) := by decide +kernel
theorem dX11_order_86 : decode cX11_order 86 = .ok (.invokevirtual 130, 3) := by decide +kernel
theorem dX11_order_89 : decode cX11_order 89 = .ok (.istore 8, 2) := by decide +kernel
theorem dX11_order_91 : decode cX11_order 91 = .ok (.aload_n 0, 1) := by decide +kernel
theorem dX11_order_92 : decode cX11_order 92 = .ok (.getfield 71, 3) := by decide +kernel
theorem dX11_order_95 : decode cX11_order 95 = .ok (.iload 8, 2) := by decide +kernel
theorem dX11_order_97 : decode cX11_order 97 = .ok (.iload_n 2, 1) := by decide +kernel
theorem dX11_order_98 : decode cX11_order 98 = .ok (.iconst 1, 1) := by decide +kernel
theorem dX11_order_99 : decode cX11_order 99 = .ok (.if_icmp .ne 11, 3) := by decide +kernel
theorem dX11_order_102 : decode cX11_order 102 = .ok (.iload 6, 2) := by decide +kernel
theorem dX11_order_104 : decode cX11_order 104 = .ok (.iload 7, 2) := by decide +kernel
theorem dX11_order_106 : decode cX11_order 106 = .ok (.ior, 1) := by decide +kernel
theorem dX11_order_107 : decode cX11_order 107 = .ok (.goto 5, 3) := by decide +kernel
theorem dX11_order_110 : decode cX11_order 110 = .ok (.iload 7, 2) := by decide +kernel
theorem dX11_order_112 : decode cX11_order 112 = .ok (.iastore, 1) := by decide +kernel
theorem dX11_order_113 : decode cX11_order 113 = .ok (.iload 8, 2) := by decide +kernel
theorem dX11_order_115 : decode cX11_order 115 = .ok (.ireturn, 1) := by decide +kernel
theorem dX11_part_0 : decode cX11_part 0 = .ok (.aload_n 0, 1) := by decide +kernel
theorem dX11_part_1 : decode cX11_part 1 = .ok (.getfield 123, 3) := by decide +kernel
theorem dX11_part_4 : decode cX11_part 4 = .ok (.bipush 12, 2) := by decide +kernel
theorem dX11_part_6 : decode cX11_part 6 = .ok (.if_icmp .eq 49, 3) := by decide +kernel
theorem dX11_part_9 : decode cX11_part 9 = .ok (.aload_n 0, 1) := by decide +kernel
theorem dX11_part_10 : decode cX11_part 10 = .ok (.iload_n 1, 1) := by decide +kernel
theorem dX11_part_11 : decode cX11_part 11 = .ok (.iload_n 2, 1) := by decide +kernel
theorem dX11_part_12 : decode cX11_part 12 = .ok (.iload_n 3, 1) := by decide +kernel
theorem dX11_part_13 : decode cX11_part 13 = .ok (.iconst (-1), 1) := by decide +kernel
theorem dX11_part_14 : decode cX11_part 14 = .ok (.invokevirtual 126, 3) := by decide +kernel
theorem dX11_part_17 : decode cX11_part 17 = .ok (.ifCond .lt 38, 3) := by decide +kernel
theorem dX11_part_20 : decode cX11_part 20 = .ok (.aload_n 0, 1) := by decide +kernel
theorem dX11_part_21 : decode cX11_part 21 = .ok (.iload_n 1, 1) := by decide +kernel
theorem dX11_part_22 : decode cX11_part 22 = .ok (.iload 4, 2) := by decide +kernel
theorem dX11_part_24 : decode cX11_part 24 = .ok (.invokevirtual 113, 3) := by decide +kernel
theorem dX11_part_27 : decode cX11_part 27 = .ok (.ifCond .eq 28, 3) := by decide +kernel
theorem dX11_part_30 : decode cX11_part 30 = .ok (.iload 5, 2) := by decide +kernel
theorem dX11_part_32 : decode cX11_part 32 = .ok (.iconst 0, 1) := by decide +kernel
theorem dX11_part_33 : decode cX11_part 33 = .ok (.sipush 999, 3) := by decide +kernel
theorem dX11_part_36 : decode cX11_part 36 = .ok (.invokestatic 89, 3) := by decide +kernel
theorem dX11_part_39 : decode cX11_part 39 = .ok (.ifCond .eq 16, 3) := by decide +kernel
theorem dX11_part_42 : decode cX11_part 42 = .ok (.iload 6, 2) := by decide +kernel
theorem dX11_part_44 : decode cX11_part 44 = .ok (.iload 5, 2) := by decide +kernel
theorem dX11_part_46 : decode cX11_part 46 = .ok (.sipush 999, 3) := by decide +kernel
theorem dX11_part_49 : decode cX11_part 49 = .ok (.invokestatic 89, 3) := by decide +kernel
theorem dX11_part_52 : decode cX11_part 52 = .ok (.ifCond .ne 5, 3) := by decide +kernel
theorem dX11_part_55 : decode cX11_part 55 = .ok (.iconst (-1), 1) := by decide +kernel
theorem dX11_part_56 : decode cX11_part 56 = .ok (.ireturn, 1) := by decide +kernel
theorem dX11_part_57 : decode cX11_part 57 = .ok (.aload_n 0, 1) := by decide +kernel
theorem dX11_part_58 : decode cX11_part 58 = .ok (.iload_n 1, 1) := by decide +kernel
theorem dX11_part_59 : decode cX11_part 59 = .ok (.iconst 2, 1) := by decide +kernel
theorem dX11_part_60 : decode cX11_part 60 = .ok (.iload_n 2, 1) := by decide +kernel
theorem dX11_part_61 : decode cX11_part 61 = .ok (.iload_n 3, 1) := by decide +kernel
theorem dX11_part_62 : decode cX11_part 62 = .ok (.iconst (-1), 1) := by decide +kernel
theorem dX11_part_63 : decode cX11_part 63 = .ok (.invokevirtual 130, 3) := by decide +kernel
theorem dX11_part_66 : decode cX11_part 66 = .ok (.istore 7, 2) := by decide +kernel
theorem dX11_part_68 : decode cX11_part 68 = .ok (.aload_n 0, 1) := by decide +kernel
theorem dX11_part_69 : decode cX11_part 69 = .ok (.getfield 74, 3) := by decide +kernel
theorem dX11_part_72 : decode cX11_part 72 = .ok (.iload 7, 2) := by decide +kernel
theorem dX11_part_74 : decode cX11_part 74 = .ok (.iload 4, 2) := by decide +kernel
theorem dX11_part_76 : decode cX11_part 76 = .ok (.iastore, 1) := by decide +kernel
theorem dX11_part_77 : decode cX11_part 77 = .ok (.aload_n 0, 1) := by decide +kernel
theorem dX11_part_78 : decode cX11_part 78 = .ok (.getfield 77, 3) := by decide +kernel
theorem dX11_part_81 : decode cX11_part 81 = .ok (.iload 7, 2) := by decide +kernel
theorem dX11_part_83 : decode cX11_part 83 = .ok (.iload 5, 2) := by decide +kernel
theorem dX11_part_85 : decode cX11_part 85 = .ok (.iastore, 1) := by decide +kernel
theorem dX11_part_86 : decode cX11_part 86 = .ok (.aload_n 0, 1) := by decide +kernel
theorem dX11_part_87 : decode cX11_part 87 = .ok (.getfield 80, 3) := by decide +kernel
theorem dX11_part_90 : decode cX11_part 90 = .ok (.iload 7, 2) := by decide +kernel
theorem dX11_part_92 : decode cX11_part 92 = .ok (.iload 6, 2) := by decide +kernel
theorem dX11_part_94 : decode cX11_part 94 = .ok (.iastore, 1) := by decide +kernel
theorem dX11_part_95 : decode cX11_part 95 = .ok (.iload 7, 2) := by decide +kernel
theorem dX11_part_97 : decode cX11_part 97 = .ok (.ireturn, 1) := by decide +kernel
theorem dX11_sums_0 : decode cX11_sums 0 = .ok (.aload_n 0, 1) := by decide +kernel
theorem dX11_sums_1 : decode cX11_sums 1 = .ok (.getfield 123, 3) := by decide +kernel
theorem dX11_sums_4 : decode cX11_sums 4 = .ok (.bipush 12, 2) := by decide +kernel
theorem dX11_sums_6 : decode cX11_sums 6 = .ok (.if_icmp .eq 42, 3) := by decide +kernel
theorem dX11_sums_9 : decode cX11_sums 9 = .ok (.aload_n 0, 1) := by decide +kernel
theorem dX11_sums_10 : decode cX11_sums 10 = .ok (.iload_n 1, 1) := by decide +kernel
theorem dX11_sums_11 : decode cX11_sums 11 = .ok (.iload_n 3, 1) := by decide +kernel
theorem dX11_sums_12 : decode cX11_sums 12 = .ok (.invokevirtual 113, 3) := by decide +kernel
theorem dX11_sums_15 : decode cX11_sums 15 = .ok (.ifCond .eq 33, 3) := by decide +kernel
theorem dX11_sums_18 : decode cX11_sums 18 = .ok (.iload_n 2, 1) := by decide +kernel
theorem dX11_sums_19 : decode cX11_sums 19 = .ok (.iconst 0, 1) := by decide +kernel
theorem dX11_sums_20 : decode cX11_sums 20 = .ok (.iconst 1, 1) := by decide +kernel
theorem dX11_sums_21 : decode cX11_sums 21 = .ok (.aload_n 0, 1) := by decide +kernel
theorem dX11_sums_22 : decode cX11_sums 22 = .ok (.getfield 7, 3) := by decide +kernel
theorem dX11_sums_25 : decode cX11_sums 25 = .ok (.iload_n 1, 1) := by decide +kernel
theorem dX11_sums_26 : decode cX11_sums 26 = .ok (.iaload, 1) := by decide +kernel
theorem dX11_sums_27 : decode cX11_sums 27 = .ok (.ishl, 1) := by decide +kernel
theorem dX11_sums_28 : decode cX11_sums 28 = .ok (.iconst 1, 1) := by decide +kernel
theorem dX11_sums_29 : decode cX11_sums 29 = .ok (.isub, 1) := by decide +kernel
theorem dX11_sums_30 : decode cX11_sums 30 = .ok (.invokestatic 89, 3) := by decide +kernel
theorem dX11_sums_33 : decode cX11_sums 33 = .ok (.ifCond .eq 15, 3) := by decide +kernel
theorem dX11_sums_36 : decode cX11_sums 36 = .ok (.iload_n 2, 1) := by decide +kernel
theorem dX11_sums_37 : decode cX11_sums 37 = .ok (.invokestatic 134, 3) := by decide +kernel
theorem dX11_sums_40 : decode cX11_sums 40 = .ok (.iconst 1, 1) := by decide +kernel
theorem dX11_sums_41 : decode cX11_sums 41 = .ok (.iconst 2, 1) := by decide +kernel
theorem dX11_sums_42 : decode cX11_sums 42 = .ok (.invokestatic 89, 3) := by decide +kernel
theorem dX11_sums_45 : decode cX11_sums 45 = .ok (.ifCond .ne 5, 3) := by decide +kernel
theorem dX11_sums_48 : decode cX11_sums 48 = .ok (.iconst (-1), 1) := by decide +kernel
theorem dX11_sums_49 : decode cX11_sums 49 = .ok (.ireturn, 1) := by decide +kernel
theorem dX11_sums_50 : decode cX11_sums 50 = .ok (.aload_n 0, 1) := by decide +kernel
theorem dX11_sums_51 : decode cX11_sums 51 = .ok (.iload_n 1, 1) := by decide +kernel
theorem dX11_sums_52 : decode cX11_sums 52 = .ok (.iconst 3, 1) := by decide +kernel
theorem dX11_sums_53 : decode cX11_sums 53 = .ok (.iconst (-1), 1) := by decide +kernel
theorem dX11_sums_54 : decode cX11_sums 54 = .ok (.iconst (-1), 1) := by decide +kernel
theorem dX11_sums_55 : decode cX11_sums 55 = .ok (.iconst (-1), 1) := by decide +kernel
theorem dX11_sums_56 : decode cX11_sums 56 = .ok (.invokevirtual 130, 3) := by decide +kernel
theorem dX11_sums_59 : decode cX11_sums 59 = .ok (.istore 4, 2) := by decide +kernel
theorem dX11_sums_61 : decode cX11_sums 61 = .ok (.aload_n 0, 1) := by decide +kernel
theorem dX11_sums_62 : decode cX11_sums 62 = .ok (.getfield 65, 3) := by decide +kernel
theorem dX11_sums_65 : decode cX11_sums 65 = .ok (.iload 4, 2) := by decide +kernel
theorem dX11_sums_67 : decode cX11_sums 67 = .ok (.iconst 0, 1) := by decide +kernel
theorem dX11_sums_68 : decode cX11_sums 68 = .ok (.iastore, 1) := by decide +kernel
theorem dX11_sums_69 : decode cX11_sums 69 = .ok (.aload_n 0, 1) := by decide +kernel
theorem dX11_sums_70 : decode cX11_sums 70 = .ok (.getfield 71, 3) := by decide +kernel
theorem dX11_sums_73 : decode cX11_sums 73 = .ok (.iload 4, 2) := by decide +kernel
theorem dX11_sums_75 : decode cX11_sums 75 = .ok (.iload_n 2, 1) := by decide +kernel
theorem dX11_sums_76 : decode cX11_sums 76 = .ok (.iastore, 1) := by decide +kernel
theorem dX11_sums_77 : decode cX11_sums 77 = .ok (.aload_n 0, 1) := by decide +kernel
theorem dX11_sums_78 : decode cX11_sums 78 = .ok (.getfield 74, 3) := by decide +kernel
theorem dX11_sums_81 : decode cX11_sums 81 = .ok (.iload 4, 2) := by decide +kernel
theorem dX11_sums_83 : decode cX11_sums 83 = .ok (.iload_n 3, 1) := by decide +kernel
theorem dX11_sums_84 : decode cX11_sums 84 = .ok (.iastore, 1) := by decide +kernel
theorem dX11_sums_85 : decode cX11_sums 85 = .ok (.iload 4, 2) := by decide +kernel
theorem dX11_sums_87 : decode cX11_sums 87 = .ok (.ireturn, 1) := by decide +kernel
theorem dX11_isAid_0 : decode cX11_isAid 0 = .ok (.iload_n 1, 1) := by decide +kernel
theorem dX11_isAid_1 : decode cX11_isAid 1 = .ok (.iconst 0, 1) := by decide +kernel
theorem dX11_isAid_2 : decode cX11_isAid 2 = .ok (.aload_n 0, 1) := by decide +kernel
theorem dX11_isAid_3 : decode cX11_isAid 3 = .ok (.getfield 123, 3) := by decide +kernel
theorem dX11_isAid_6 : decode cX11_isAid 6 = .ok (.iconst 1, 1) := by decide +kernel
theorem dX11_isAid_7 : decode cX11_isAid 7 = .ok (.isub, 1) := by decide +kernel
theorem dX11_isAid_8 : decode cX11_isAid 8 = .ok (.invokestatic 89, 3) := by decide +kernel
theorem dX11_isAid_11 : decode cX11_isAid 11 = .ok (.ireturn, 1) := by decide +kernel
theorem dX11_build_0 : decode cX11_build 0 = .ok (.aload_n 0, 1) := by decide +kernel
theorem dX11_build_1 : decode cX11_build 1 = .ok (.iload_n 1, 1) := by decide +kernel
theorem dX11_build_2 : decode cX11_build 2 = .ok (.invokevirtual 137, 3) := by decide +kernel
theorem dX11_build_5 : decode cX11_build 5 = .ok (.ifCond .eq 34, 3) := by decide +kernel
theorem dX11_build_8 : decode cX11_build 8 = .ok (.aload_n 0, 1) := by decide +kernel
theorem dX11_build_9 : decode cX11_build 9 = .ok (.getfield 140, 3) := by decide +kernel
theorem dX11_build_12 : decode cX11_build 12 = .ok (.iload_n 1, 1) := by decide +kernel
theorem dX11_build_13 : decode cX11_build 13 = .ok (.invokestatic 97, 3) := by decide +kernel
theorem dX11_build_16 : decode cX11_build 16 = .ok (.iload_n 2, 1) := by decide +kernel
theorem dX11_build_17 : decode cX11_build 17 = .ok (.if_icmp .eq 22, 3) := by decide +kernel
theorem dX11_build_20 : decode cX11_build 20 = .ok (.iload_n 2, 1) := by decide +kernel
theorem dX11_build_21 : decode cX11_build 21 = .ok (.ifCond .eq 20, 3) := by decide +kernel
theorem dX11_build_24 : decode cX11_build 24 = .ok (.aload_n 0, 1) := by decide +kernel
theorem dX11_build_25 : decode cX11_build 25 = .ok (.aload_n 0, 1) := by decide +kernel
theorem dX11_build_26 : decode cX11_build 26 = .ok (.getfield 140, 3) := by decide +kernel
theorem dX11_build_29 : decode cX11_build 29 = .ok (.iconst 1, 1) := by decide +kernel
theorem dX11_build_30 : decode cX11_build 30 = .ok (.iload_n 1, 1) := by decide +kernel
theorem dX11_build_31 : decode cX11_build 31 = .ok (.ishl, 1) := by decide +kernel
theorem dX11_build_32 : decode cX11_build 32 = .ok (.ior, 1) := by decide +kernel
theorem dX11_build_33 : decode cX11_build 33 = .ok (.invokevirtual 143, 3) := by decide +kernel
theorem dX11_build_36 : decode cX11_build 36 = .ok (.ifCond .ne 5, 3) := by decide +kernel
theorem dX11_build_39 : decode cX11_build 39 = .ok (.iconst 0, 1) := by decide +kernel
theorem dX11_build_40 : decode cX11_build 40 = .ok (.ireturn, 1) := by decide +kernel
theorem dX11_build_41 : decode cX11_build 41 = .ok (.aload_n 0, 1) := by decide +kernel
theorem dX11_build_42 : decode cX11_build 42 = .ok (.dup, 1) := by decide +kernel
theorem dX11_build_43 : decode cX11_build 43 = .ok (.getfield 140, 3) := by decide +kernel
theorem dX11_build_46 : decode cX11_build 46 = .ok (.iconst 1, 1) := by decide +kernel
theorem dX11_build_47 : decode cX11_build 47 = .ok (.iload_n 1, 1) := by decide +kernel
theorem dX11_build_48 : decode cX11_build 48 = .ok (.ishl, 1) := by decide +kernel
theorem dX11_build_49 : decode cX11_build 49 = .ok (.ixor, 1) := by decide +kernel
theorem dX11_build_50 : decode cX11_build 50 = .ok (.putfield 140, 3) := by decide +kernel
theorem dX11_build_53 : decode cX11_build 53 = .ok (.iconst 1, 1) := by decide +kernel
theorem dX11_build_54 : decode cX11_build 54 = .ok (.ireturn, 1) := by decide +kernel
theorem dX11_isSet_0 : decode cX11_isSet 0 = .ok (.iload_n 1, 1) := by decide +kernel
theorem dX11_isSet_1 : decode cX11_isSet 1 = .ok (.ifCond .lt 12, 3) := by decide +kernel
theorem dX11_isSet_4 : decode cX11_isSet 4 = .ok (.iload_n 1, 1) := by decide +kernel
theorem dX11_isSet_5 : decode cX11_isSet 5 = .ok (.aload_n 0, 1) := by decide +kernel
theorem dX11_isSet_6 : decode cX11_isSet 6 = .ok (.getfield 123, 3) := by decide +kernel
theorem dX11_isSet_9 : decode cX11_isSet 9 = .ok (.ishr, 1) := by decide +kernel
theorem dX11_isSet_10 : decode cX11_isSet 10 = .ok (.ifCond .eq 5, 3) := by decide +kernel
theorem dX11_isSet_13 : decode cX11_isSet 13 = .ok (.iconst 0, 1) := by decide +kernel
theorem dX11_isSet_14 : decode cX11_isSet 14 = .ok (.ireturn, 1) := by decide +kernel
theorem dX11_isSet_15 : decode cX11_isSet 15 = .ok (.iconst 0, 1) := by decide +kernel
theorem dX11_isSet_16 : decode cX11_isSet 16 = .ok (.istore_n 2, 1) := by decide +kernel
theorem dX11_isSet_17 : decode cX11_isSet 17 = .ok (.iload_n 2, 1) := by decide +kernel
theorem dX11_isSet_18 : decode cX11_isSet 18 = .ok (.aload_n 0, 1) := by decide +kernel
theorem dX11_isSet_19 : decode cX11_isSet 19 = .ok (.getfield 123, 3) := by decide +kernel
theorem dX11_isSet_22 : decode cX11_isSet 22 = .ok (.if_icmp .ge 75, 3) := by decide +kernel
theorem dX11_isSet_25 : decode cX11_isSet 25 = .ok (.iconst 0, 1) := by decide +kernel
theorem dX11_isSet_26 : decode cX11_isSet 26 = .ok (.istore_n 3, 1) := by decide +kernel
theorem dX11_isSet_27 : decode cX11_isSet 27 = .ok (.iload_n 3, 1) := by decide +kernel
theorem dX11_isSet_28 : decode cX11_isSet 28 = .ok (.iload_n 2, 1) := by decide +kernel
theorem dX11_isSet_29 : decode cX11_isSet 29 = .ok (.if_icmp .ge 62, 3) := by decide +kernel
theorem dX11_isSet_32 : decode cX11_isSet 32 = .ok (.iload_n 1, 1) := by decide +kernel
theorem dX11_isSet_33 : decode cX11_isSet 33 = .ok (.iload_n 2, 1) := by decide +kernel
theorem dX11_isSet_34 : decode cX11_isSet 34 = .ok (.invokestatic 97, 3) := by decide +kernel
theorem dX11_isSet_37 : decode cX11_isSet 37 = .ok (.ifCond .eq 48, 3) := by decide +kernel
theorem dX11_isSet_40 : decode cX11_isSet 40 = .ok (.iload_n 1, 1) := by decide +kernel
theorem dX11_isSet_41 : decode cX11_isSet 41 = .ok (.iload_n 3, 1) := by decide +kernel
theorem dX11_isSet_42 : decode cX11_isSet 42 = .ok (.invokestatic 97, 3) := by decide +kernel
theorem dX11_isSet_45 : decode cX11_isSet 45 = .ok (.ifCond .eq 40, 3) := by decide +kernel
theorem dX11_isSet_48 : decode cX11_isSet 48 = .ok (.aload_n 0, 1) := by decide +kernel
theorem dX11_isSet_49 : decode cX11_isSet 49 = .ok (.getfield 59, 3) := by decide +kernel
theorem dX11_isSet_52 : decode cX11_isSet 52 = .ok (.iload_n 2, 1) := by decide +kernel
theorem dX11_isSet_53 : decode cX11_isSet 53 = .ok (.iaload, 1) := by decide +kernel
theorem dX11_isSet_54 : decode cX11_isSet 54 = .ok (.iconst 4, 1) := by decide +kernel
theorem dX11_isSet_55 : decode cX11_isSet 55 = .ok (.if_icmp .ne 30, 3) := by decide +kernel
theorem dX11_isSet_58 : decode cX11_isSet 58 = .ok (.aload_n 0, 1) := by decide +kernel
theorem dX11_isSet_59 : decode cX11_isSet 59 = .ok (.getfield 59, 3) := by decide +kernel
theorem dX11_isSet_62 : decode cX11_isSet 62 = .ok (.iload_n 3, 1) := by decide +kernel
theorem dX11_isSet_63 : decode cX11_isSet 63 = .ok (.iaload, 1) := by decide +kernel
theorem dX11_isSet_64 : decode cX11_isSet 64 = .ok (.iconst 4, 1) := by decide +kernel
theorem dX11_isSet_65 : decode cX11_isSet 65 = .ok (.if_icmp .ne 20, 3) := by decide +kernel
theorem dX11_isSet_68 : decode cX11_isSet 68 = .ok (.aload_n 0, 1) := by decide +kernel
theorem dX11_isSet_69 : decode cX11_isSet 69 = .ok (.getfield 62, 3) := by decide +kernel
theorem dX11_isSet_72 : decode cX11_isSet 72 = .ok (.iload_n 2, 1) := by decide +kernel
theorem dX11_isSet_73 : decode cX11_isSet 73 = .ok (.iaload, 1) := by decide +kernel
theorem dX11_isSet_74 : decode cX11_isSet 74 = .ok (.aload_n 0, 1) := by decide +kernel
theorem dX11_isSet_75 : decode cX11_isSet 75 = .ok (.getfield 62, 3) := by decide +kernel
theorem dX11_isSet_78 : decode cX11_isSet 78 = .ok (.iload_n 3, 1) := by decide +kernel
theorem dX11_isSet_79 : decode cX11_isSet 79 = .ok (.iaload, 1) := by decide +kernel
theorem dX11_isSet_80 : decode cX11_isSet 80 = .ok (.if_icmp .ne 5, 3) := by decide +kernel
theorem dX11_isSet_83 : decode cX11_isSet 83 = .ok (.iconst 0, 1) := by decide +kernel
theorem dX11_isSet_84 : decode cX11_isSet 84 = .ok (.ireturn, 1) := by decide +kernel
theorem dX11_isSet_85 : decode cX11_isSet 85 = .ok (.iinc 3 1, 3) := by decide +kernel
theorem dX11_isSet_88 : decode cX11_isSet 88 = .ok (.goto (-61), 3) := by decide +kernel
theorem dX11_isSet_91 : decode cX11_isSet 91 = .ok (.iinc 2 1, 3) := by decide +kernel
theorem dX11_isSet_94 : decode cX11_isSet 94 = .ok (.goto (-77), 3) := by decide +kernel
theorem dX11_isSet_97 : decode cX11_isSet 97 = .ok (.iconst 1, 1) := by decide +kernel
theorem dX11_isSet_98 : decode cX11_isSet 98 = .ok (.ireturn, 1) := by decide +kernel
theorem dX11_passes_0 : decode cX11_passes 0 = .ok (.iconst 4, 1) := by decide +kernel
theorem dX11_passes_1 : decode cX11_passes 1 = .ok (.iload_n 2, 1) := by decide +kernel
theorem dX11_passes_2 : decode cX11_passes 2 = .ok (.imul, 1) := by decide +kernel
theorem dX11_passes_3 : decode cX11_passes 3 = .ok (.iload_n 3, 1) := by decide +kernel
theorem dX11_passes_4 : decode cX11_passes 4 = .ok (.iadd, 1) := by decide +kernel
theorem dX11_passes_5 : decode cX11_passes 5 = .ok (.istore 6, 2) := by decide +kernel
theorem dX11_passes_7 : decode cX11_passes 7 = .ok (.iload 4, 2) := by decide +kernel
theorem dX11_passes_9 : decode cX11_passes 9 = .ok (.aload_n 0, 1) := by decide +kernel
theorem dX11_passes_10 : decode cX11_passes 10 = .ok (.getfield 28, 3) := by decide +kernel
theorem dX11_passes_13 : decode cX11_passes 13 = .ok (.iload 6, 2) := by decide +kernel
theorem dX11_passes_15 : decode cX11_passes 15 = .ok (.iaload, 1) := by decide +kernel
theorem dX11_passes_16 : decode cX11_passes 16 = .ok (.if_icmp .le 8, 3) := by decide +kernel
theorem dX11_passes_19 : decode cX11_passes 19 = .ok (.iload 4, 2) := by decide +kernel
theorem dX11_passes_21 : decode cX11_passes 21 = .ok (.goto 10, 3) := by decide +kernel
theorem dX11_passes_24 : decode cX11_passes 24 = .ok (.aload_n 0, 1) := by decide +kernel
theorem dX11_passes_25 : decode cX11_passes 25 = .ok (.getfield 28, 3) := by decide +kernel
theorem dX11_passes_28 : decode cX11_passes 28 = .ok (.iload 6, 2) := by decide +kernel
theorem dX11_passes_30 : decode cX11_passes 30 = .ok (.iaload, 1) := by decide +kernel
theorem dX11_passes_31 : decode cX11_passes 31 = .ok (.istore 7, 2) := by decide +kernel
theorem dX11_passes_33 : decode cX11_passes 33 = .ok (.iload 5, 2) := by decide +kernel
theorem dX11_passes_35 : decode cX11_passes 35 = .ok (.aload_n 0, 1) := by decide +kernel
theorem dX11_passes_36 : decode cX11_passes 36 = .ok (.getfield 31, 3) := by decide +kernel
theorem dX11_passes_39 : decode cX11_passes 39 = .ok (.iload 6, 2) := by decide +kernel
theorem dX11_passes_41 : decode cX11_passes 41 = .ok (.iaload, 1) := by decide +kernel
theorem dX11_passes_42 : decode cX11_passes 42 = .ok (.if_icmp .ge 8, 3) := by decide +kernel
theorem dX11_passes_45 : decode cX11_passes 45 = .ok (.iload 5, 2) := by decide +kernel
theorem dX11_passes_47 : decode cX11_passes 47 = .ok (.goto 10, 3) := by decide +kernel
theorem dX11_passes_50 : decode cX11_passes 50 = .ok (.aload_n 0, 1) := by decide +kernel
theorem dX11_passes_51 : decode cX11_passes 51 = .ok (.getfield 31, 3) := by decide +kernel
theorem dX11_passes_54 : decode cX11_passes 54 = .ok (.iload 6, 2) := by decide +kernel
theorem dX11_passes_56 : decode cX11_passes 56 = .ok (.iaload, 1) := by decide +kernel
theorem dX11_passes_57 : decode cX11_passes 57 = .ok (.istore 8, 2) := by decide +kernel
theorem dX11_passes_59 : decode cX11_passes 59 = .ok (.iload_n 1, 1) := by decide +kernel
theorem dX11_passes_60 : decode cX11_passes 60 = .ok (.ifCond .eq 10, 3) := by decide +kernel
theorem dX11_passes_63 : decode cX11_passes 63 = .ok (.iload 7, 2) := by decide +kernel
theorem dX11_passes_65 : decode cX11_passes 65 = .ok (.iload 8, 2) := by decide +kernel
theorem dX11_passes_67 : decode cX11_passes 67 = .ok (.if_icmp .le 5, 3) := by decide +kernel
theorem dX11_passes_70 : decode cX11_passes 70 = .ok (.iconst 0, 1) := by decide +kernel
theorem dX11_passes_71 : decode cX11_passes 71 = .ok (.ireturn, 1) := by decide +kernel
theorem dX11_passes_72 : decode cX11_passes 72 = .ok (.iload 4, 2) := by decide +kernel
theorem dX11_passes_74 : decode cX11_passes 74 = .ok (.iload 5, 2) := by decide +kernel
theorem dX11_passes_76 : decode cX11_passes 76 = .ok (.if_icmp .ne 17, 3) := by decide +kernel
theorem dX11_passes_79 : decode cX11_passes 79 = .ok (.iload_n 1, 1) := by decide +kernel
theorem dX11_passes_80 : decode cX11_passes 80 = .ok (.aload_n 0, 1) := by decide +kernel
theorem dX11_passes_81 : decode cX11_passes 81 = .ok (.getfield 25, 3) := by decide +kernel
theorem dX11_passes_84 : decode cX11_passes 84 = .ok (.iload 6, 2) := by decide +kernel
theorem dX11_passes_86 : decode cX11_passes 86 = .ok (.iaload, 1) := by decide +kernel
theorem dX11_passes_87 : decode cX11_passes 87 = .ok (.invokestatic 105, 3) := by decide +kernel
theorem dX11_passes_90 : decode cX11_passes 90 = .ok (.goto 32, 3) := by decide +kernel
theorem dX11_passes_93 : decode cX11_passes 93 = .ok (.iload_n 1, 1) := by decide +kernel
theorem dX11_passes_94 : decode cX11_passes 94 = .ok (.iload 8, 2) := by decide +kernel
theorem dX11_passes_96 : decode cX11_passes 96 = .ok (.iload 7, 2) := by decide +kernel
theorem dX11_passes_98 : decode cX11_passes 98 = .ok (.isub, 1) := by decide +kernel
theorem dX11_passes_99 : decode cX11_passes 99 = .ok (.iconst 1, 1) := by decide +kernel
theorem dX11_passes_100 : decode cX11_passes 100 = .ok (.iadd, 1) := by decide +kernel
theorem dX11_passes_101 : decode cX11_passes 101 = .ok (.imul, 1) := by decide +kernel
theorem dX11_passes_102 : decode cX11_passes 102 = .ok (.aload_n 0, 1) := by decide +kernel
theorem dX11_passes_103 : decode cX11_passes 103 = .ok (.getfield 31, 3) := by decide +kernel
theorem dX11_passes_106 : decode cX11_passes 106 = .ok (.iload 6, 2) := by decide +kernel
theorem dX11_passes_108 : decode cX11_passes 108 = .ok (.iaload, 1) := by decide +kernel
theorem dX11_passes_109 : decode cX11_passes 109 = .ok (.aload_n 0, 1) := by decide +kernel
theorem dX11_passes_110 : decode cX11_passes 110 = .ok (.getfield 28, 3) := by decide +kernel
theorem dX11_passes_113 : decode cX11_passes 113 = .ok (.iload 6, 2) := by decide +kernel
theorem dX11_passes_115 : decode cX11_passes 115 = .ok (.iaload, 1) := by decide +kernel
theorem dX11_passes_116 : decode cX11_passes 116 = .ok (.isub, 1) := by decide +kernel
theorem dX11_passes_117 : decode cX11_passes 117 = .ok (.iconst 1, 1) := by decide +kernel
theorem dX11_passes_118 : decode cX11_passes 118 = .ok (.iadd, 1) := by decide +kernel
theorem dX11_passes_119 : decode cX11_passes 119 = .ok (.invokestatic 105, 3) := by decide +kernel
theorem dX11_passes_122 : decode cX11_passes 122 = .ok (.ireturn, 1) := by decide +kernel
theorem dX11_uses_0 : decode cX11_uses 0 = .ok (.iconst 0, 1) := by decide +kernel
theorem dX11_uses_1 : decode cX11_uses 1 = .ok (.istore_n 3, 1) := by decide +kernel
theorem dX11_uses_2 : decode cX11_uses 2 = .ok (.iload_n 3, 1) := by decide +kernel
theorem dX11_uses_3 : decode cX11_uses 3 = .ok (.aload_n 0, 1) := by decide +kernel
theorem dX11_uses_4 : decode cX11_uses 4 = .ok (.getfield 65, 3) := by decide +kernel
theorem dX11_uses_7 : decode cX11_uses 7 = .ok (.iload_n 2, 1) := by decide +kernel
theorem dX11_uses_8 : decode cX11_uses 8 = .ok (.iaload, 1) := by decide +kernel
theorem dX11_uses_9 : decode cX11_uses 9 = .ok (.if_icmp .ge 56, 3) := by decide +kernel
theorem dX11_uses_12 : decode cX11_uses 12 = .ok (.iconst 4, 1) := by decide +kernel
theorem dX11_uses_13 : decode cX11_uses 13 = .ok (.iload_n 1, 1) := by decide +kernel
theorem dX11_uses_14 : decode cX11_uses 14 = .ok (.imul, 1) := by decide +kernel
theorem dX11_uses_15 : decode cX11_uses 15 = .ok (.aload_n 0, 1) := by decide +kernel
theorem dX11_uses_16 : decode cX11_uses 16 = .ok (.getfield 68, 3) := by decide +kernel
theorem dX11_uses_19 : decode cX11_uses 19 = .ok (.iconst 3, 1) := by decide +kernel
theorem dX11_uses_20 : decode cX11_uses 20 = .ok (.iload_n 2, 1) := by decide +kernel
theorem dX11_uses_21 : decode cX11_uses 21 = .ok (.imul, 1) := by decide +kernel
theorem dX11_uses_22 : decode cX11_uses 22 = .ok (.iload_n 3, 1) := by decide +kernel
theorem dX11_uses_23 : decode cX11_uses 23 = .ok (.iadd, 1) := by decide +kernel
theorem dX11_uses_24 : decode cX11_uses 24 = .ok (.iaload, 1) := by decide +kernel
theorem dX11_uses_25 : decode cX11_uses 25 = .ok (.iadd, 1) := by decide +kernel
theorem dX11_uses_26 : decode cX11_uses 26 = .ok (.istore 4, 2) := by decide +kernel
theorem dX11_uses_28 : decode cX11_uses 28 = .ok (.aload_n 0, 1) := by decide +kernel
theorem dX11_uses_29 : decode cX11_uses 29 = .ok (.getfield 49, 3) := by decide +kernel
theorem dX11_uses_32 : decode cX11_uses 32 = .ok (.iload 4, 2) := by decide +kernel
theorem dX11_uses_34 : decode cX11_uses 34 = .ok (.baload, 1) := by decide +kernel
theorem dX11_uses_35 : decode cX11_uses 35 = .ok (.ifCond .ne 5, 3) := by decide +kernel
theorem dX11_uses_38 : decode cX11_uses 38 = .ok (.iload_n 3, 1) := by decide +kernel
theorem dX11_uses_39 : decode cX11_uses 39 = .ok (.ireturn, 1) := by decide +kernel
theorem dX11_uses_40 : decode cX11_uses 40 = .ok (.iinc 3 1, 3) := by decide +kernel
theorem dX11_uses_43 : decode cX11_uses 43 = .ok (.aload_n 0, 1) := by decide +kernel
theorem dX11_uses_44 : decode cX11_uses 44 = .ok (.getfield 53, 3) := by decide +kernel
theorem dX11_uses_47 : decode cX11_uses 47 = .ok (.iload 4, 2) := by decide +kernel
theorem dX11_uses_49 : decode cX11_uses 49 = .ok (.iaload, 1) := by decide +kernel
theorem dX11_uses_50 : decode cX11_uses 50 = .ok (.aload_n 0, 1) := by decide +kernel
theorem dX11_uses_51 : decode cX11_uses 51 = .ok (.getfield 56, 3) := by decide +kernel
theorem dX11_uses_54 : decode cX11_uses 54 = .ok (.iload 4, 2) := by decide +kernel
theorem dX11_uses_56 : decode cX11_uses 56 = .ok (.iaload, 1) := by decide +kernel
theorem dX11_uses_57 : decode cX11_uses 57 = .ok (.if_icmp .eq 5, 3) := by decide +kernel
theorem dX11_uses_60 : decode cX11_uses 60 = .ok (.iload_n 3, 1) := by decide +kernel
theorem dX11_uses_61 : decode cX11_uses 61 = .ok (.ireturn, 1) := by decide +kernel
theorem dX11_uses_62 : decode cX11_uses 62 = .ok (.goto (-60), 3) := by decide +kernel
theorem dX11_uses_65 : decode cX11_uses 65 = .ok (.iload_n 3, 1) := by decide +kernel
theorem dX11_uses_66 : decode cX11_uses 66 = .ok (.ireturn, 1) := by decide +kernel
theorem dX11_own_0 : decode cX11_own 0 = .ok (.aload_n 0, 1) := by decide +kernel
theorem dX11_own_1 : decode cX11_own 1 = .ok (.getfield 59, 3) := by decide +kernel
theorem dX11_own_4 : decode cX11_own 4 = .ok (.iload_n 1, 1) := by decide +kernel
theorem dX11_own_5 : decode cX11_own 5 = .ok (.iaload, 1) := by decide +kernel
theorem dX11_own_6 : decode cX11_own 6 = .ok (.iconst 2, 1) := by decide +kernel
theorem dX11_own_7 : decode cX11_own 7 = .ok (.if_icmp .ne 45, 3) := by decide +kernel
theorem dX11_own_10 : decode cX11_own 10 = .ok (.aload_n 0, 1) := by decide +kernel
theorem dX11_own_11 : decode cX11_own 11 = .ok (.aload_n 0, 1) := by decide +kernel
theorem dX11_own_12 : decode cX11_own 12 = .ok (.getfield 22, 3) := by decide +kernel
theorem dX11_own_15 : decode cX11_own 15 = .ok (.aload_n 0, 1) := by decide +kernel
theorem dX11_own_16 : decode cX11_own 16 = .ok (.getfield 62, 3) := by decide +kernel
theorem dX11_own_19 : decode cX11_own 19 = .ok (.iload_n 1, 1) := by decide +kernel
theorem dX11_own_20 : decode cX11_own 20 = .ok (.iaload, 1) := by decide +kernel
theorem dX11_own_21 : decode cX11_own 21 = .ok (.iaload, 1) := by decide +kernel
theorem dX11_own_22 : decode cX11_own 22 = .ok (.aload_n 0, 1) := by decide +kernel
theorem dX11_own_23 : decode cX11_own 23 = .ok (.getfield 62, 3) := by decide +kernel
theorem dX11_own_26 : decode cX11_own 26 = .ok (.iload_n 1, 1) := by decide +kernel
theorem dX11_own_27 : decode cX11_own 27 = .ok (.iaload, 1) := by decide +kernel
theorem dX11_own_28 : decode cX11_own 28 = .ok (.aload_n 0, 1) := by decide +kernel
theorem dX11_own_29 : decode cX11_own 29 = .ok (.getfield 74, 3) := by decide +kernel
theorem dX11_own_32 : decode cX11_own 32 = .ok (.iload_n 1, 1) := by decide +kernel
theorem dX11_own_33 : decode cX11_own 33 = .ok (.iaload, 1) := by decide +kernel
theorem dX11_own_34 : decode cX11_own 34 = .ok (.aload_n 0, 1) := by decide +kernel
theorem dX11_own_35 : decode cX11_own 35 = .ok (.getfield 77, 3) := by decide +kernel
theorem dX11_own_38 : decode cX11_own 38 = .ok (.iload_n 1, 1) := by decide +kernel
theorem dX11_own_39 : decode cX11_own 39 = .ok (.iaload, 1) := by decide +kernel
theorem dX11_own_40 : decode cX11_own 40 = .ok (.aload_n 0, 1) := by decide +kernel
theorem dX11_own_41 : decode cX11_own 41 = .ok (.getfield 80, 3) := by decide +kernel
theorem dX11_own_44 : decode cX11_own 44 = .ok (.iload_n 1, 1) := by decide +kernel
theorem dX11_own_45 : decode cX11_own 45 = .ok (.iaload, 1) := by decide +kernel
theorem dX11_own_46 : decode cX11_own 46 = .ok (.invokevirtual 146, 3) := by decide +kernel
theorem dX11_own_49 : decode cX11_own 49 = .ok (.goto 14, 3) := by decide +kernel
theorem dX11_own_52 : decode cX11_own 52 = .ok (.aload_n 0, 1) := by decide +kernel
theorem dX11_own_53 : decode cX11_own 53 = .ok (.getfield 22, 3) := by decide +kernel
theorem dX11_own_56 : decode cX11_own 56 = .ok (.aload_n 0, 1) := by decide +kernel
theorem dX11_own_57 : decode cX11_own 57 = .ok (.getfield 62, 3) := by decide +kernel
theorem dX11_own_60 : decode cX11_own 60 = .ok (.iload_n 1, 1) := by decide +kernel
theorem dX11_own_61 : decode cX11_own 61 = .ok (.iaload, 1) := by decide +kernel
theorem dX11_own_62 : decode cX11_own 62 = .ok (.iaload, 1) := by decide +kernel
theorem dX11_own_63 : decode cX11_own 63 = .ok (.ireturn, 1) := by decide +kernel
theorem dX11_matched_0 : decode cX11_matched 0 = .ok (.aload_n 0, 1) := by decide +kernel
theorem dX11_matched_1 : decode cX11_matched 1 = .ok (.iload_n 2, 1) := by decide +kernel
theorem dX11_matched_2 : decode cX11_matched 2 = .ok (.invokevirtual 149, 3) := by decide +kernel
theorem dX11_matched_5 : decode cX11_matched 5 = .ok (.istore_n 3, 1) := by decide +kernel
theorem dX11_matched_6 : decode cX11_matched 6 = .ok (.aload_n 0, 1) := by decide +kernel
theorem dX11_matched_7 : decode cX11_matched 7 = .ok (.iload_n 1, 1) := by decide +kernel
theorem dX11_matched_8 : decode cX11_matched 8 = .ok (.iload_n 2, 1) := by decide +kernel
theorem dX11_matched_9 : decode cX11_matched 9 = .ok (.invokevirtual 152, 3) := by decide +kernel
theorem dX11_matched_12 : decode cX11_matched 12 = .ok (.istore 4, 2) := by decide +kernel
theorem dX11_matched_14 : decode cX11_matched 14 = .ok (.iconst 0, 1) := by decide +kernel
theorem dX11_matched_15 : decode cX11_matched 15 = .ok (.istore 5, 2) := by decide +kernel
theorem dX11_matched_17 : decode cX11_matched 17 = .ok (.iload 5, 2) := by decide +kernel
theorem dX11_matched_19 : decode cX11_matched 19 = .ok (.iload 4, 2) := by decide +kernel
theorem dX11_matched_21 : decode cX11_matched 21 = .ok (.if_icmp .ge 58, 3) := by decide +kernel
theorem dX11_matched_24 : decode cX11_matched 24 = .ok (.aload_n 0, 1) := by decide +kernel
theorem dX11_matched_25 : decode cX11_matched 25 = .ok (.getfield 68, 3) := by decide +kernel
theorem dX11_matched_28 : decode cX11_matched 28 = .ok (.iconst 3, 1) := by decide +kernel
theorem dX11_matched_29 : decode cX11_matched 29 = .ok (.iload_n 2, 1) := by decide +kernel
theorem dX11_matched_30 : decode cX11_matched 30 = .ok (.imul, 1) := by decide +kernel
theorem dX11_matched_31 : decode cX11_matched 31 = .ok (.iload 5, 2) := by decide +kernel
theorem dX11_matched_33 : decode cX11_matched 33 = .ok (.iadd, 1) := by decide +kernel
theorem dX11_matched_34 : decode cX11_matched 34 = .ok (.iaload, 1) := by decide +kernel
theorem dX11_matched_35 : decode cX11_matched 35 = .ok (.istore 6, 2) := by decide +kernel
theorem dX11_matched_37 : decode cX11_matched 37 = .ok (.aload_n 0, 1) := by decide +kernel
theorem dX11_matched_38 : decode cX11_matched 38 = .ok (.iload_n 3, 1) := by decide +kernel
theorem dX11_matched_39 : decode cX11_matched 39 = .ok (.aload_n 0, 1) := by decide +kernel
theorem dX11_matched_40 : decode cX11_matched 40 = .ok (.getfield 62, 3) := by decide +kernel
theorem dX11_matched_43 : decode cX11_matched 43 = .ok (.iload_n 2, 1) := by decide +kernel
theorem dX11_matched_44 : decode cX11_matched 44 = .ok (.iaload, 1) := by decide +kernel
theorem dX11_matched_45 : decode cX11_matched 45 = .ok (.iload 6, 2) := by decide +kernel
theorem dX11_matched_47 : decode cX11_matched 47 = .ok (.aload_n 0, 1) := by decide +kernel
theorem dX11_matched_48 : decode cX11_matched 48 = .ok (.getfield 53, 3) := by decide +kernel
theorem dX11_matched_51 : decode cX11_matched 51 = .ok (.iconst 4, 1) := by decide +kernel
theorem dX11_matched_52 : decode cX11_matched 52 = .ok (.iload_n 1, 1) := by decide +kernel
theorem dX11_matched_53 : decode cX11_matched 53 = .ok (.imul, 1) := by decide +kernel
theorem dX11_matched_54 : decode cX11_matched 54 = .ok (.iload 6, 2) := by decide +kernel
theorem dX11_matched_56 : decode cX11_matched 56 = .ok (.iadd, 1) := by decide +kernel
theorem dX11_matched_57 : decode cX11_matched 57 = .ok (.iaload, 1) := by decide +kernel
theorem dX11_matched_58 : decode cX11_matched 58 = .ok (.aload_n 0, 1) := by decide +kernel
theorem dX11_matched_59 : decode cX11_matched 59 = .ok (.getfield 56, 3) := by decide +kernel
theorem dX11_matched_62 : decode cX11_matched 62 = .ok (.iconst 4, 1) := by decide +kernel
theorem dX11_matched_63 : decode cX11_matched 63 = .ok (.iload_n 1, 1) := by decide +kernel
theorem dX11_matched_64 : decode cX11_matched 64 = .ok (.imul, 1) := by decide +kernel
theorem dX11_matched_65 : decode cX11_matched 65 = .ok (.iload 6, 2) := by decide +kernel
theorem dX11_matched_67 : decode cX11_matched 67 = .ok (.iadd, 1) := by decide +kernel
theorem dX11_matched_68 : decode cX11_matched 68 = .ok (.iaload, 1) := by decide +kernel
theorem dX11_matched_69 : decode cX11_matched 69 = .ok (.invokevirtual 146, 3) := by decide +kernel
theorem dX11_matched_72 : decode cX11_matched 72 = .ok (.istore_n 3, 1) := by decide +kernel
theorem dX11_matched_73 : decode cX11_matched 73 = .ok (.iinc 5 1, 3) := by decide +kernel
theorem dX11_matched_76 : decode cX11_matched 76 = .ok (.goto (-59), 3) := by decide +kernel
theorem dX11_matched_79 : decode cX11_matched 79 = .ok (.iload_n 3, 1) := by decide +kernel
theorem dX11_matched_80 : decode cX11_matched 80 = .ok (.ireturn, 1) := by decide +kernel
theorem dX11_groups_0 : decode cX11_groups 0 = .ok (.aload_n 0, 1) := by decide +kernel
theorem dX11_groups_1 : decode cX11_groups 1 = .ok (.getfield 62, 3) := by decide +kernel
theorem dX11_groups_4 : decode cX11_groups 4 = .ok (.iload_n 1, 1) := by decide +kernel
theorem dX11_groups_5 : decode cX11_groups 5 = .ok (.iaload, 1) := by decide +kernel
theorem dX11_groups_6 : decode cX11_groups 6 = .ok (.istore_n 2, 1) := by decide +kernel
theorem dX11_groups_7 : decode cX11_groups 7 = .ok (.iconst 1, 1) := by decide +kernel
theorem dX11_groups_8 : decode cX11_groups 8 = .ok (.istore_n 3, 1) := by decide +kernel
theorem dX11_groups_9 : decode cX11_groups 9 = .ok (.iconst 0, 1) := by decide +kernel
theorem dX11_groups_10 : decode cX11_groups 10 = .ok (.istore 4, 2) := by decide +kernel
theorem dX11_groups_12 : decode cX11_groups 12 = .ok (.iload 4, 2) := by decide +kernel
theorem dX11_groups_14 : decode cX11_groups 14 = .ok (.aload_n 0, 1) := by decide +kernel
theorem dX11_groups_15 : decode cX11_groups 15 = .ok (.getfield 7, 3) := by decide +kernel
theorem dX11_groups_18 : decode cX11_groups 18 = .ok (.iload_n 2, 1) := by decide +kernel
theorem dX11_groups_19 : decode cX11_groups 19 = .ok (.iaload, 1) := by decide +kernel
theorem dX11_groups_20 : decode cX11_groups 20 = .ok (.if_icmp .ge 41, 3) := by decide +kernel
theorem dX11_groups_23 : decode cX11_groups 23 = .ok (.iload_n 3, 1) := by decide +kernel
theorem dX11_groups_24 : decode cX11_groups 24 = .ok (.aload_n 0, 1) := by decide +kernel
theorem dX11_groups_25 : decode cX11_groups 25 = .ok (.getfield 71, 3) := by decide +kernel
theorem dX11_groups_28 : decode cX11_groups 28 = .ok (.iload_n 1, 1) := by decide +kernel
theorem dX11_groups_29 : decode cX11_groups 29 = .ok (.iaload, 1) := by decide +kernel
theorem dX11_groups_30 : decode cX11_groups 30 = .ok (.iload 4, 2) := by decide +kernel
theorem dX11_groups_32 : decode cX11_groups 32 = .ok (.invokestatic 97, 3) := by decide +kernel
theorem dX11_groups_35 : decode cX11_groups 35 = .ok (.ifCond .eq 17, 3) := by decide +kernel
theorem dX11_groups_38 : decode cX11_groups 38 = .ok (.aload_n 0, 1) := by decide +kernel
theorem dX11_groups_39 : decode cX11_groups 39 = .ok (.getfield 25, 3) := by decide +kernel
theorem dX11_groups_42 : decode cX11_groups 42 = .ok (.iconst 4, 1) := by decide +kernel
theorem dX11_groups_43 : decode cX11_groups 43 = .ok (.iload_n 2, 1) := by decide +kernel
theorem dX11_groups_44 : decode cX11_groups 44 = .ok (.imul, 1) := by decide +kernel
theorem dX11_groups_45 : decode cX11_groups 45 = .ok (.iload 4, 2) := by decide +kernel
theorem dX11_groups_47 : decode cX11_groups 47 = .ok (.iadd, 1) := by decide +kernel
theorem dX11_groups_48 : decode cX11_groups 48 = .ok (.iaload, 1) := by decide +kernel
theorem dX11_groups_49 : decode cX11_groups 49 = .ok (.goto 4, 3) := by decide +kernel
theorem dX11_groups_52 : decode cX11_groups 52 = .ok (.iconst 1, 1) := by decide +kernel
theorem dX11_groups_53 : decode cX11_groups 53 = .ok (.imul, 1) := by decide +kernel
theorem dX11_groups_54 : decode cX11_groups 54 = .ok (.istore_n 3, 1) := by decide +kernel
theorem dX11_groups_55 : decode cX11_groups 55 = .ok (.iinc 4 1, 3) := by decide +kernel
theorem dX11_groups_58 : decode cX11_groups 58 = .ok (.goto (-46), 3) := by decide +kernel
theorem dX11_groups_61 : decode cX11_groups 61 = .ok (.iload_n 3, 1) := by decide +kernel
theorem dX11_groups_62 : decode cX11_groups 62 = .ok (.aload_n 0, 1) := by decide +kernel
theorem dX11_groups_63 : decode cX11_groups 63 = .ok (.getfield 22, 3) := by decide +kernel
theorem dX11_groups_66 : decode cX11_groups 66 = .ok (.iload_n 2, 1) := by decide +kernel
theorem dX11_groups_67 : decode cX11_groups 67 = .ok (.iaload, 1) := by decide +kernel
theorem dX11_groups_68 : decode cX11_groups 68 = .ok (.if_icmp .ge 7, 3) := by decide +kernel
theorem dX11_groups_71 : decode cX11_groups 71 = .ok (.iload_n 3, 1) := by decide +kernel
theorem dX11_groups_72 : decode cX11_groups 72 = .ok (.goto 9, 3) := by decide +kernel
theorem dX11_groups_75 : decode cX11_groups 75 = .ok (.aload_n 0, 1) := by decide +kernel
theorem dX11_groups_76 : decode cX11_groups 76 = .ok (.getfield 22, 3) := by decide +kernel
theorem dX11_groups_79 : decode cX11_groups 79 = .ok (.iload_n 2, 1) := by decide +kernel
theorem dX11_groups_80 : decode cX11_groups 80 = .ok (.iaload, 1) := by decide +kernel
theorem dX11_groups_81 : decode cX11_groups 81 = .ok (.ireturn, 1) := by decide +kernel
theorem dX11_roomOf_0 : decode cX11_roomOf 0 = .ok (.iconst 2, 1) := by decide +kernel
theorem dX11_roomOf_1 : decode cX11_roomOf 1 = .ok (.aload_n 0, 1) := by decide +kernel
theorem dX11_roomOf_2 : decode cX11_roomOf 2 = .ok (.getfield 13, 3) := by decide +kernel
theorem dX11_roomOf_5 : decode cX11_roomOf 5 = .ok (.aload_n 0, 1) := by decide +kernel
theorem dX11_roomOf_6 : decode cX11_roomOf 6 = .ok (.getfield 62, 3) := by decide +kernel
theorem dX11_roomOf_9 : decode cX11_roomOf 9 = .ok (.iload_n 1, 1) := by decide +kernel
theorem dX11_roomOf_10 : decode cX11_roomOf 10 = .ok (.iaload, 1) := by decide +kernel
theorem dX11_roomOf_11 : decode cX11_roomOf 11 = .ok (.iaload, 1) := by decide +kernel
theorem dX11_roomOf_12 : decode cX11_roomOf 12 = .ok (.imul, 1) := by decide +kernel
theorem dX11_roomOf_13 : decode cX11_roomOf 13 = .ok (.istore_n 2, 1) := by decide +kernel
theorem dX11_roomOf_14 : decode cX11_roomOf 14 = .ok (.aload_n 0, 1) := by decide +kernel
theorem dX11_roomOf_15 : decode cX11_roomOf 15 = .ok (.getfield 59, 3) := by decide +kernel
theorem dX11_roomOf_18 : decode cX11_roomOf 18 = .ok (.iload_n 1, 1) := by decide +kernel
theorem dX11_roomOf_19 : decode cX11_roomOf 19 = .ok (.iaload, 1) := by decide +kernel
theorem dX11_roomOf_20 : decode cX11_roomOf 20 = .ok (.tableswitch 79 1 4 #[32, 79, 67, 77], 32) := by decide +kernel
theorem dX11_roomOf_52 : decode cX11_roomOf 52 = .ok (.aload_n 0, 1) := by decide +kernel
theorem dX11_roomOf_53 : decode cX11_roomOf 53 = .ok (.getfield 22, 3) := by decide +kernel
theorem dX11_roomOf_56 : decode cX11_roomOf 56 = .ok (.aload_n 0, 1) := by decide +kernel
theorem dX11_roomOf_57 : decode cX11_roomOf 57 = .ok (.getfield 62, 3) := by decide +kernel
theorem dX11_roomOf_60 : decode cX11_roomOf 60 = .ok (.iload_n 1, 1) := by decide +kernel
theorem dX11_roomOf_61 : decode cX11_roomOf 61 = .ok (.iaload, 1) := by decide +kernel
theorem dX11_roomOf_62 : decode cX11_roomOf 62 = .ok (.iaload, 1) := by decide +kernel
theorem dX11_roomOf_63 : decode cX11_roomOf 63 = .ok (.iconst 1, 1) := by decide +kernel
theorem dX11_roomOf_64 : decode cX11_roomOf 64 = .ok (.aload_n 0, 1) := by decide +kernel
theorem dX11_roomOf_65 : decode cX11_roomOf 65 = .ok (.getfield 71, 3) := by decide +kernel
theorem dX11_roomOf_68 : decode cX11_roomOf 68 = .ok (.iload_n 1, 1) := by decide +kernel
theorem dX11_roomOf_69 : decode cX11_roomOf 69 = .ok (.iaload, 1) := by decide +kernel
theorem dX11_roomOf_70 : decode cX11_roomOf 70 = .ok (.invokestatic 134, 3) := by decide +kernel
theorem dX11_roomOf_73 : decode cX11_roomOf 73 = .ok (.iadd, 1) := by decide +kernel
theorem dX11_roomOf_74 : decode cX11_roomOf 74 = .ok (.aload_n 0, 1) := by decide +kernel
theorem dX11_roomOf_75 : decode cX11_roomOf 75 = .ok (.getfield 65, 3) := by decide +kernel
theorem dX11_roomOf_78 : decode cX11_roomOf 78 = .ok (.iload_n 1, 1) := by decide +kernel
theorem dX11_roomOf_79 : decode cX11_roomOf 79 = .ok (.iaload, 1) := by decide +kernel
theorem dX11_roomOf_80 : decode cX11_roomOf 80 = .ok (.isub, 1) := by decide +kernel
theorem dX11_roomOf_81 : decode cX11_roomOf 81 = .ok (.imul, 1) := by decide +kernel
theorem dX11_roomOf_82 : decode cX11_roomOf 82 = .ok (.iload_n 2, 1) := by decide +kernel
theorem dX11_roomOf_83 : decode cX11_roomOf 83 = .ok (.invokestatic 105, 3) := by decide +kernel
theorem dX11_roomOf_86 : decode cX11_roomOf 86 = .ok (.ireturn, 1) := by decide +kernel
theorem dX11_roomOf_87 : decode cX11_roomOf 87 = .ok (.aload_n 0, 1) := by decide +kernel
theorem dX11_roomOf_88 : decode cX11_roomOf 88 = .ok (.iload_n 1, 1) := by decide +kernel
theorem dX11_roomOf_89 : decode cX11_roomOf 89 = .ok (.invokevirtual 155, 3) := by decide +kernel
theorem dX11_roomOf_92 : decode cX11_roomOf 92 = .ok (.iload_n 2, 1) := by decide +kernel
theorem dX11_roomOf_93 : decode cX11_roomOf 93 = .ok (.invokestatic 105, 3) := by decide +kernel
theorem dX11_roomOf_96 : decode cX11_roomOf 96 = .ok (.ireturn, 1) := by decide +kernel
theorem dX11_roomOf_97 : decode cX11_roomOf 97 = .ok (.iconst 0, 1) := by decide +kernel
theorem dX11_roomOf_98 : decode cX11_roomOf 98 = .ok (.ireturn, 1) := by decide +kernel
theorem dX11_roomOf_99 : decode cX11_roomOf 99 = .ok (.aload_n 0, 1) := by decide +kernel
theorem dX11_roomOf_100 : decode cX11_roomOf 100 = .ok (.iload_n 1, 1) := by decide +kernel
theorem dX11_roomOf_101 : decode cX11_roomOf 101 = .ok (.invokevirtual 149, 3) := by decide +kernel
theorem dX11_roomOf_104 : decode cX11_roomOf 104 = .ok (.iload_n 2, 1) := by decide +kernel
theorem dX11_roomOf_105 : decode cX11_roomOf 105 = .ok (.invokestatic 105, 3) := by decide +kernel
theorem dX11_roomOf_108 : decode cX11_roomOf 108 = .ok (.ireturn, 1) := by decide +kernel
theorem dX11_keeping_0 : decode cX11_keeping 0 = .ok (.aload_n 0, 1) := by decide +kernel
theorem dX11_keeping_1 : decode cX11_keeping 1 = .ok (.getfield 59, 3) := by decide +kernel
theorem dX11_keeping_4 : decode cX11_keeping 4 = .ok (.iload_n 1, 1) := by decide +kernel
theorem dX11_keeping_5 : decode cX11_keeping 5 = .ok (.iaload, 1) := by decide +kernel
theorem dX11_keeping_6 : decode cX11_keeping 6 = .ok (.tableswitch 36 1 4 #[30, 32, 36, 34], 30) := by decide +kernel
theorem dX11_keeping_36 : decode cX11_keeping 36 = .ok (.iconst 3, 1) := by decide +kernel
theorem dX11_keeping_37 : decode cX11_keeping 37 = .ok (.ireturn, 1) := by decide +kernel
theorem dX11_keeping_38 : decode cX11_keeping 38 = .ok (.iconst 1, 1) := by decide +kernel
theorem dX11_keeping_39 : decode cX11_keeping 39 = .ok (.ireturn, 1) := by decide +kernel
theorem dX11_keeping_40 : decode cX11_keeping 40 = .ok (.iconst 4, 1) := by decide +kernel
theorem dX11_keeping_41 : decode cX11_keeping 41 = .ok (.ireturn, 1) := by decide +kernel
theorem dX11_keeping_42 : decode cX11_keeping 42 = .ok (.iconst 2, 1) := by decide +kernel
theorem dX11_keeping_43 : decode cX11_keeping 43 = .ok (.ireturn, 1) := by decide +kernel
theorem dX11_tested_0 : decode cX11_tested 0 = .ok (.iconst 0, 1) := by decide +kernel
theorem dX11_tested_1 : decode cX11_tested 1 = .ok (.istore_n 2, 1) := by decide +kernel
theorem dX11_tested_2 : decode cX11_tested 2 = .ok (.iconst 0, 1) := by decide +kernel
theorem dX11_tested_3 : decode cX11_tested 3 = .ok (.istore_n 3, 1) := by decide +kernel
theorem dX11_tested_4 : decode cX11_tested 4 = .ok (.iload_n 3, 1) := by decide +kernel
theorem dX11_tested_5 : decode cX11_tested 5 = .ok (.iconst 4, 1) := by decide +kernel
theorem dX11_tested_6 : decode cX11_tested 6 = .ok (.if_icmp .ge 32, 3) := by decide +kernel
theorem dX11_tested_9 : decode cX11_tested 9 = .ok (.iload_n 2, 1) := by decide +kernel
theorem dX11_tested_10 : decode cX11_tested 10 = .ok (.aload_n 0, 1) := by decide +kernel
theorem dX11_tested_11 : decode cX11_tested 11 = .ok (.getfield 49, 3) := by decide +kernel
theorem dX11_tested_14 : decode cX11_tested 14 = .ok (.iconst 4, 1) := by decide +kernel
theorem dX11_tested_15 : decode cX11_tested 15 = .ok (.iload_n 1, 1) := by decide +kernel
theorem dX11_tested_16 : decode cX11_tested 16 = .ok (.imul, 1) := by decide +kernel
theorem dX11_tested_17 : decode cX11_tested 17 = .ok (.iload_n 3, 1) := by decide +kernel
theorem dX11_tested_18 : decode cX11_tested 18 = .ok (.iadd, 1) := by decide +kernel
theorem dX11_tested_19 : decode cX11_tested 19 = .ok (.baload, 1) := by decide +kernel
theorem dX11_tested_20 : decode cX11_tested 20 = .ok (.ifCond .eq 9, 3) := by decide +kernel
theorem dX11_tested_23 : decode cX11_tested 23 = .ok (.iconst 1, 1) := by decide +kernel
theorem dX11_tested_24 : decode cX11_tested 24 = .ok (.iload_n 3, 1) := by decide +kernel
theorem dX11_tested_25 : decode cX11_tested 25 = .ok (.ishl, 1) := by decide +kernel
theorem dX11_tested_26 : decode cX11_tested 26 = .ok (.goto 4, 3) := by decide +kernel
theorem dX11_tested_29 : decode cX11_tested 29 = .ok (.iconst 0, 1) := by decide +kernel
theorem dX11_tested_30 : decode cX11_tested 30 = .ok (.ior, 1) := by decide +kernel
theorem dX11_tested_31 : decode cX11_tested 31 = .ok (.istore_n 2, 1) := by decide +kernel
theorem dX11_tested_32 : decode cX11_tested 32 = .ok (.iinc 3 1, 3) := by decide +kernel
theorem dX11_tested_35 : decode cX11_tested 35 = .ok (.goto (-31), 3) := by decide +kernel
theorem dX11_tested_38 : decode cX11_tested 38 = .ok (.iload_n 2, 1) := by decide +kernel
theorem dX11_tested_39 : decode cX11_tested 39 = .ok (.ireturn, 1) := by decide +kernel
theorem dX11_helps_0 : decode cX11_helps 0 = .ok (.aload_n 0, 1) := by decide +kernel
theorem dX11_helps_1 : decode cX11_helps 1 = .ok (.getfield 62, 3) := by decide +kernel
theorem dX11_helps_4 : decode cX11_helps 4 = .ok (.iload_n 2, 1) := by decide +kernel
theorem dX11_helps_5 : decode cX11_helps 5 = .ok (.iaload, 1) := by decide +kernel
theorem dX11_helps_6 : decode cX11_helps 6 = .ok (.aload_n 0, 1) := by decide +kernel
theorem dX11_helps_7 : decode cX11_helps 7 = .ok (.getfield 37, 3) := by decide +kernel
theorem dX11_helps_10 : decode cX11_helps 10 = .ok (.iload_n 1, 1) := by decide +kernel
theorem dX11_helps_11 : decode cX11_helps 11 = .ok (.iaload, 1) := by decide +kernel
theorem dX11_helps_12 : decode cX11_helps 12 = .ok (.if_icmp .eq 5, 3) := by decide +kernel
theorem dX11_helps_15 : decode cX11_helps 15 = .ok (.iconst 0, 1) := by decide +kernel
theorem dX11_helps_16 : decode cX11_helps 16 = .ok (.ireturn, 1) := by decide +kernel
theorem dX11_helps_17 : decode cX11_helps 17 = .ok (.aload_n 0, 1) := by decide +kernel
theorem dX11_helps_18 : decode cX11_helps 18 = .ok (.getfield 59, 3) := by decide +kernel
theorem dX11_helps_21 : decode cX11_helps 21 = .ok (.iload_n 2, 1) := by decide +kernel
theorem dX11_helps_22 : decode cX11_helps 22 = .ok (.iaload, 1) := by decide +kernel
theorem dX11_helps_23 : decode cX11_helps 23 = .ok (.iconst 2, 1) := by decide +kernel
theorem dX11_helps_24 : decode cX11_helps 24 = .ok (.if_icmp .ne 59, 3) := by decide +kernel
theorem dX11_helps_27 : decode cX11_helps 27 = .ok (.iconst 4, 1) := by decide +kernel
theorem dX11_helps_28 : decode cX11_helps 28 = .ok (.iload_n 1, 1) := by decide +kernel
theorem dX11_helps_29 : decode cX11_helps 29 = .ok (.imul, 1) := by decide +kernel
theorem dX11_helps_30 : decode cX11_helps 30 = .ok (.aload_n 0, 1) := by decide +kernel
theorem dX11_helps_31 : decode cX11_helps 31 = .ok (.getfield 74, 3) := by decide +kernel
theorem dX11_helps_34 : decode cX11_helps 34 = .ok (.iload_n 2, 1) := by decide +kernel
theorem dX11_helps_35 : decode cX11_helps 35 = .ok (.iaload, 1) := by decide +kernel
theorem dX11_helps_36 : decode cX11_helps 36 = .ok (.iadd, 1) := by decide +kernel
theorem dX11_helps_37 : decode cX11_helps 37 = .ok (.istore_n 3, 1) := by decide +kernel
theorem dX11_helps_38 : decode cX11_helps 38 = .ok (.aload_n 0, 1) := by decide +kernel
theorem dX11_helps_39 : decode cX11_helps 39 = .ok (.getfield 49, 3) := by decide +kernel
theorem dX11_helps_42 : decode cX11_helps 42 = .ok (.iload_n 3, 1) := by decide +kernel
theorem dX11_helps_43 : decode cX11_helps 43 = .ok (.baload, 1) := by decide +kernel
theorem dX11_helps_44 : decode cX11_helps 44 = .ok (.ifCond .eq 37, 3) := by decide +kernel
theorem dX11_helps_47 : decode cX11_helps 47 = .ok (.aload_n 0, 1) := by decide +kernel
theorem dX11_helps_48 : decode cX11_helps 48 = .ok (.getfield 53, 3) := by decide +kernel
theorem dX11_helps_51 : decode cX11_helps 51 = .ok (.iload_n 3, 1) := by decide +kernel
theorem dX11_helps_52 : decode cX11_helps 52 = .ok (.iaload, 1) := by decide +kernel
theorem dX11_helps_53 : decode cX11_helps 53 = .ok (.aload_n 0, 1) := by decide +kernel
theorem dX11_helps_54 : decode cX11_helps 54 = .ok (.getfield 77, 3) := by decide +kernel
theorem dX11_helps_57 : decode cX11_helps 57 = .ok (.iload_n 2, 1) := by decide +kernel
theorem dX11_helps_58 : decode cX11_helps 58 = .ok (.iaload, 1) := by decide +kernel
theorem dX11_helps_59 : decode cX11_helps 59 = .ok (.if_icmp .lt 22, 3) := by decide +kernel
theorem dX11_helps_62 : decode cX11_helps 62 = .ok (.aload_n 0, 1) := by decide +kernel
theorem dX11_helps_63 : decode cX11_helps 63 = .ok (.getfield 56, 3) := by decide +kernel
theorem dX11_helps_66 : decode cX11_helps 66 = .ok (.iload_n 3, 1) := by decide +kernel
theorem dX11_helps_67 : decode cX11_helps 67 = .ok (.iaload, 1) := by decide +kernel
theorem dX11_helps_68 : decode cX11_helps 68 = .ok (.aload_n 0, 1) := by decide +kernel
theorem dX11_helps_69 : decode cX11_helps 69 = .ok (.getfield 80, 3) := by decide +kernel
theorem dX11_helps_72 : decode cX11_helps 72 = .ok (.iload_n 2, 1) := by decide +kernel
theorem dX11_helps_73 : decode cX11_helps 73 = .ok (.iaload, 1) := by decide +kernel
theorem dX11_helps_74 : decode cX11_helps 74 = .ok (.if_icmp .gt 7, 3) := by decide +kernel
theorem dX11_helps_77 : decode cX11_helps 77 = .ok (.iconst 1, 1) := by decide +kernel
theorem dX11_helps_78 : decode cX11_helps 78 = .ok (.goto 4, 3) := by decide +kernel
theorem dX11_helps_81 : decode cX11_helps 81 = .ok (.iconst 0, 1) := by decide +kernel
theorem dX11_helps_82 : decode cX11_helps 82 = .ok (.ireturn, 1) := by decide +kernel
theorem dX11_helps_83 : decode cX11_helps 83 = .ok (.aload_n 0, 1) := by decide +kernel
theorem dX11_helps_84 : decode cX11_helps 84 = .ok (.getfield 59, 3) := by decide +kernel
theorem dX11_helps_87 : decode cX11_helps 87 = .ok (.iload_n 2, 1) := by decide +kernel
theorem dX11_helps_88 : decode cX11_helps 88 = .ok (.iaload, 1) := by decide +kernel
theorem dX11_helps_89 : decode cX11_helps 89 = .ok (.iconst 3, 1) := by decide +kernel
theorem dX11_helps_90 : decode cX11_helps 90 = .ok (.if_icmp .ne 50, 3) := by decide +kernel
theorem dX11_helps_93 : decode cX11_helps 93 = .ok (.aload_n 0, 1) := by decide +kernel
theorem dX11_helps_94 : decode cX11_helps 94 = .ok (.getfield 40, 3) := by decide +kernel
theorem dX11_helps_97 : decode cX11_helps 97 = .ok (.iload_n 1, 1) := by decide +kernel
theorem dX11_helps_98 : decode cX11_helps 98 = .ok (.iaload, 1) := by decide +kernel
theorem dX11_helps_99 : decode cX11_helps 99 = .ok (.ifCond .ne 39, 3) := by decide +kernel
theorem dX11_helps_102 : decode cX11_helps 102 = .ok (.aload_n 0, 1) := by decide +kernel
theorem dX11_helps_103 : decode cX11_helps 103 = .ok (.getfield 43, 3) := by decide +kernel
theorem dX11_helps_106 : decode cX11_helps 106 = .ok (.iload_n 1, 1) := by decide +kernel
theorem dX11_helps_107 : decode cX11_helps 107 = .ok (.iaload, 1) := by decide +kernel
theorem dX11_helps_108 : decode cX11_helps 108 = .ok (.aload_n 0, 1) := by decide +kernel
theorem dX11_helps_109 : decode cX11_helps 109 = .ok (.getfield 74, 3) := by decide +kernel
theorem dX11_helps_112 : decode cX11_helps 112 = .ok (.iload_n 2, 1) := by decide +kernel
theorem dX11_helps_113 : decode cX11_helps 113 = .ok (.iaload, 1) := by decide +kernel
theorem dX11_helps_114 : decode cX11_helps 114 = .ok (.if_icmp .ne 24, 3) := by decide +kernel
theorem dX11_helps_117 : decode cX11_helps 117 = .ok (.aload_n 0, 1) := by decide +kernel
theorem dX11_helps_118 : decode cX11_helps 118 = .ok (.iload_n 1, 1) := by decide +kernel
theorem dX11_helps_119 : decode cX11_helps 119 = .ok (.invokevirtual 158, 3) := by decide +kernel
theorem dX11_helps_122 : decode cX11_helps 122 = .ok (.aload_n 0, 1) := by decide +kernel
theorem dX11_helps_123 : decode cX11_helps 123 = .ok (.getfield 71, 3) := by decide +kernel
theorem dX11_helps_126 : decode cX11_helps 126 = .ok (.iload_n 2, 1) := by decide +kernel
theorem dX11_helps_127 : decode cX11_helps 127 = .ok (.iaload, 1) := by decide +kernel
theorem dX11_helps_128 : decode cX11_helps 128 = .ok (.iconst (-1), 1) := by decide +kernel
theorem dX11_helps_129 : decode cX11_helps 129 = .ok (.ixor, 1) := by decide +kernel
theorem dX11_helps_130 : decode cX11_helps 130 = .ok (.iand, 1) := by decide +kernel
theorem dX11_helps_131 : decode cX11_helps 131 = .ok (.ifCond .ne 7, 3) := by decide +kernel
theorem dX11_helps_134 : decode cX11_helps 134 = .ok (.iconst 1, 1) := by decide +kernel
theorem dX11_helps_135 : decode cX11_helps 135 = .ok (.goto 4, 3) := by decide +kernel
theorem dX11_helps_138 : decode cX11_helps 138 = .ok (.iconst 0, 1) := by decide +kernel
theorem dX11_helps_139 : decode cX11_helps 139 = .ok (.ireturn, 1) := by decide +kernel
theorem dX11_helps_140 : decode cX11_helps 140 = .ok (.aload_n 0, 1) := by decide +kernel
theorem dX11_helps_141 : decode cX11_helps 141 = .ok (.iload_n 1, 1) := by decide +kernel
theorem dX11_helps_142 : decode cX11_helps 142 = .ok (.iload_n 2, 1) := by decide +kernel
theorem dX11_helps_143 : decode cX11_helps 143 = .ok (.invokevirtual 152, 3) := by decide +kernel
theorem dX11_helps_146 : decode cX11_helps 146 = .ok (.ifCond .le 7, 3) := by decide +kernel
theorem dX11_helps_149 : decode cX11_helps 149 = .ok (.iconst 1, 1) := by decide +kernel
theorem dX11_helps_150 : decode cX11_helps 150 = .ok (.goto 4, 3) := by decide +kernel
theorem dX11_helps_153 : decode cX11_helps 153 = .ok (.iconst 0, 1) := by decide +kernel
theorem dX11_helps_154 : decode cX11_helps 154 = .ok (.ireturn, 1) := by decide +kernel
theorem dX11_covers_0 : decode cX11_covers 0 = .ok (.aload_n 0, 1) := by decide +kernel
theorem dX11_covers_1 : decode cX11_covers 1 = .ok (.getfield 59, 3) := by decide +kernel
theorem dX11_covers_4 : decode cX11_covers 4 = .ok (.iload_n 2, 1) := by decide +kernel
theorem dX11_covers_5 : decode cX11_covers 5 = .ok (.iaload, 1) := by decide +kernel
theorem dX11_covers_6 : decode cX11_covers 6 = .ok (.iconst 1, 1) := by decide +kernel
theorem dX11_covers_7 : decode cX11_covers 7 = .ok (.if_icmp .ne 54, 3) := by decide +kernel
theorem dX11_covers_10 : decode cX11_covers 10 = .ok (.aload_n 0, 1) := by decide +kernel
theorem dX11_covers_11 : decode cX11_covers 11 = .ok (.getfield 40, 3) := by decide +kernel
theorem dX11_covers_14 : decode cX11_covers 14 = .ok (.iload_n 1, 1) := by decide +kernel
theorem dX11_covers_15 : decode cX11_covers 15 = .ok (.iaload, 1) := by decide +kernel
theorem dX11_covers_16 : decode cX11_covers 16 = .ok (.aload_n 0, 1) := by decide +kernel
theorem dX11_covers_17 : decode cX11_covers 17 = .ok (.iload_n 1, 1) := by decide +kernel
theorem dX11_covers_18 : decode cX11_covers 18 = .ok (.invokevirtual 158, 3) := by decide +kernel
theorem dX11_covers_21 : decode cX11_covers 21 = .ok (.ior, 1) := by decide +kernel
theorem dX11_covers_22 : decode cX11_covers 22 = .ok (.aload_n 0, 1) := by decide +kernel
theorem dX11_covers_23 : decode cX11_covers 23 = .ok (.getfield 43, 3) := by decide +kernel
theorem dX11_covers_26 : decode cX11_covers 26 = .ok (.iload_n 1, 1) := by decide +kernel
theorem dX11_covers_27 : decode cX11_covers 27 = .ok (.iaload, 1) := by decide +kernel
theorem dX11_covers_28 : decode cX11_covers 28 = .ok (.iconst (-1), 1) := by decide +kernel
theorem dX11_covers_29 : decode cX11_covers 29 = .ok (.if_icmp .ne 7, 3) := by decide +kernel
theorem dX11_covers_32 : decode cX11_covers 32 = .ok (.iconst 0, 1) := by decide +kernel
theorem dX11_covers_33 : decode cX11_covers 33 = .ok (.goto 11, 3) := by decide +kernel
theorem dX11_covers_36 : decode cX11_covers 36 = .ok (.iconst 1, 1) := by decide +kernel
theorem dX11_covers_37 : decode cX11_covers 37 = .ok (.aload_n 0, 1) := by decide +kernel
theorem dX11_covers_38 : decode cX11_covers 38 = .ok (.getfield 43, 3) := by decide +kernel
theorem dX11_covers_41 : decode cX11_covers 41 = .ok (.iload_n 1, 1) := by decide +kernel
theorem dX11_covers_42 : decode cX11_covers 42 = .ok (.iaload, 1) := by decide +kernel
theorem dX11_covers_43 : decode cX11_covers 43 = .ok (.ishl, 1) := by decide +kernel
theorem dX11_covers_44 : decode cX11_covers 44 = .ok (.ior, 1) := by decide +kernel
theorem dX11_covers_45 : decode cX11_covers 45 = .ok (.aload_n 0, 1) := by decide +kernel
theorem dX11_covers_46 : decode cX11_covers 46 = .ok (.getfield 71, 3) := by decide +kernel
theorem dX11_covers_49 : decode cX11_covers 49 = .ok (.iload_n 2, 1) := by decide +kernel
theorem dX11_covers_50 : decode cX11_covers 50 = .ok (.iaload, 1) := by decide +kernel
theorem dX11_covers_51 : decode cX11_covers 51 = .ok (.iconst (-1), 1) := by decide +kernel
theorem dX11_covers_52 : decode cX11_covers 52 = .ok (.ixor, 1) := by decide +kernel
theorem dX11_covers_53 : decode cX11_covers 53 = .ok (.iand, 1) := by decide +kernel
theorem dX11_covers_54 : decode cX11_covers 54 = .ok (.ifCond .ne 7, 3) := by decide +kernel
theorem dX11_covers_57 : decode cX11_covers 57 = .ok (.iconst 1, 1) := by decide +kernel
theorem dX11_covers_58 : decode cX11_covers 58 = .ok (.goto 4, 3) := by decide +kernel
theorem dX11_covers_61 : decode cX11_covers 61 = .ok (.iconst 0, 1) := by decide +kernel
theorem dX11_covers_62 : decode cX11_covers 62 = .ok (.ireturn, 1) := by decide +kernel
theorem dX11_costOf_0 : decode cX11_costOf 0 = .ok (.aload_n 0, 1) := by decide +kernel
theorem dX11_costOf_1 : decode cX11_costOf 1 = .ok (.getfield 62, 3) := by decide +kernel
theorem dX11_costOf_4 : decode cX11_costOf 4 = .ok (.iload_n 2, 1) := by decide +kernel
theorem dX11_costOf_5 : decode cX11_costOf 5 = .ok (.iaload, 1) := by decide +kernel
theorem dX11_costOf_6 : decode cX11_costOf 6 = .ok (.istore_n 3, 1) := by decide +kernel
theorem dX11_costOf_7 : decode cX11_costOf 7 = .ok (.aload_n 0, 1) := by decide +kernel
theorem dX11_costOf_8 : decode cX11_costOf 8 = .ok (.getfield 59, 3) := by decide +kernel
theorem dX11_costOf_11 : decode cX11_costOf 11 = .ok (.iload_n 2, 1) := by decide +kernel
theorem dX11_costOf_12 : decode cX11_costOf 12 = .ok (.iaload, 1) := by decide +kernel
theorem dX11_costOf_13 : decode cX11_costOf 13 = .ok (.iconst 3, 1) := by decide +kernel
theorem dX11_costOf_14 : decode cX11_costOf 14 = .ok (.if_icmp .ne 22, 3) := by decide +kernel
theorem dX11_costOf_17 : decode cX11_costOf 17 = .ok (.iconst 1, 1) := by decide +kernel
theorem dX11_costOf_18 : decode cX11_costOf 18 = .ok (.aload_n 0, 1) := by decide +kernel
theorem dX11_costOf_19 : decode cX11_costOf 19 = .ok (.iload_n 2, 1) := by decide +kernel
theorem dX11_costOf_20 : decode cX11_costOf 20 = .ok (.invokevirtual 155, 3) := by decide +kernel
theorem dX11_costOf_23 : decode cX11_costOf 23 = .ok (.iconst 2, 1) := by decide +kernel
theorem dX11_costOf_24 : decode cX11_costOf 24 = .ok (.aload_n 0, 1) := by decide +kernel
theorem dX11_costOf_25 : decode cX11_costOf 25 = .ok (.getfield 13, 3) := by decide +kernel
theorem dX11_costOf_28 : decode cX11_costOf 28 = .ok (.iload_n 3, 1) := by decide +kernel
theorem dX11_costOf_29 : decode cX11_costOf 29 = .ok (.iaload, 1) := by decide +kernel
theorem dX11_costOf_30 : decode cX11_costOf 30 = .ok (.imul, 1) := by decide +kernel
theorem dX11_costOf_31 : decode cX11_costOf 31 = .ok (.invokestatic 105, 3) := by decide +kernel
theorem dX11_costOf_34 : decode cX11_costOf 34 = .ok (.iadd, 1) := by decide +kernel
theorem dX11_costOf_35 : decode cX11_costOf 35 = .ok (.ireturn, 1) := by decide +kernel
theorem dX11_costOf_36 : decode cX11_costOf 36 = .ok (.aload_n 0, 1) := by decide +kernel
theorem dX11_costOf_37 : decode cX11_costOf 37 = .ok (.iload_n 1, 1) := by decide +kernel
theorem dX11_costOf_38 : decode cX11_costOf 38 = .ok (.iload_n 2, 1) := by decide +kernel
theorem dX11_costOf_39 : decode cX11_costOf 39 = .ok (.invokevirtual 161, 3) := by decide +kernel
theorem dX11_costOf_42 : decode cX11_costOf 42 = .ok (.istore 4, 2) := by decide +kernel
theorem dX11_costOf_44 : decode cX11_costOf 44 = .ok (.aload_n 0, 1) := by decide +kernel
theorem dX11_costOf_45 : decode cX11_costOf 45 = .ok (.getfield 59, 3) := by decide +kernel
theorem dX11_costOf_48 : decode cX11_costOf 48 = .ok (.iload_n 2, 1) := by decide +kernel
theorem dX11_costOf_49 : decode cX11_costOf 49 = .ok (.iaload, 1) := by decide +kernel
theorem dX11_costOf_50 : decode cX11_costOf 50 = .ok (.iconst 4, 1) := by decide +kernel
theorem dX11_costOf_51 : decode cX11_costOf 51 = .ok (.if_icmp .ne 17, 3) := by decide +kernel
theorem dX11_costOf_54 : decode cX11_costOf 54 = .ok (.iconst 1, 1) := by decide +kernel
theorem dX11_costOf_55 : decode cX11_costOf 55 = .ok (.iload 4, 2) := by decide +kernel
theorem dX11_costOf_57 : decode cX11_costOf 57 = .ok (.aload_n 0, 1) := by decide +kernel
theorem dX11_costOf_58 : decode cX11_costOf 58 = .ok (.getfield 13, 3) := by decide +kernel
theorem dX11_costOf_61 : decode cX11_costOf 61 = .ok (.iload_n 3, 1) := by decide +kernel
theorem dX11_costOf_62 : decode cX11_costOf 62 = .ok (.iaload, 1) := by decide +kernel
theorem dX11_costOf_63 : decode cX11_costOf 63 = .ok (.invokestatic 105, 3) := by decide +kernel
theorem dX11_costOf_66 : decode cX11_costOf 66 = .ok (.iadd, 1) := by decide +kernel
theorem dX11_costOf_67 : decode cX11_costOf 67 = .ok (.ireturn, 1) := by decide +kernel
theorem dX11_costOf_68 : decode cX11_costOf 68 = .ok (.aload_n 0, 1) := by decide +kernel
theorem dX11_costOf_69 : decode cX11_costOf 69 = .ok (.iload_n 1, 1) := by decide +kernel
theorem dX11_costOf_70 : decode cX11_costOf 70 = .ok (.iload_n 2, 1) := by decide +kernel
theorem dX11_costOf_71 : decode cX11_costOf 71 = .ok (.invokevirtual 164, 3) := by decide +kernel
theorem dX11_costOf_74 : decode cX11_costOf 74 = .ok (.ifCond .eq 7, 3) := by decide +kernel
theorem dX11_costOf_77 : decode cX11_costOf 77 = .ok (.iconst 0, 1) := by decide +kernel
theorem dX11_costOf_78 : decode cX11_costOf 78 = .ok (.goto 23, 3) := by decide +kernel
theorem dX11_costOf_81 : decode cX11_costOf 81 = .ok (.iload 4, 2) := by decide +kernel
theorem dX11_costOf_83 : decode cX11_costOf 83 = .ok (.aload_n 0, 1) := by decide +kernel
theorem dX11_costOf_84 : decode cX11_costOf 84 = .ok (.iload_n 3, 1) := by decide +kernel
theorem dX11_costOf_85 : decode cX11_costOf 85 = .ok (.invokevirtual 109, 3) := by decide +kernel
theorem dX11_costOf_88 : decode cX11_costOf 88 = .ok (.if_icmp .ge 8, 3) := by decide +kernel
theorem dX11_costOf_91 : decode cX11_costOf 91 = .ok (.iload 4, 2) := by decide +kernel
theorem dX11_costOf_93 : decode cX11_costOf 93 = .ok (.goto 8, 3) := by decide +kernel
theorem dX11_costOf_96 : decode cX11_costOf 96 = .ok (.aload_n 0, 1) := by decide +kernel
theorem dX11_costOf_97 : decode cX11_costOf 97 = .ok (.iload_n 3, 1) := by decide +kernel
theorem dX11_costOf_98 : decode cX11_costOf 98 = .ok (.invokevirtual 109, 3) := by decide +kernel
theorem dX11_costOf_101 : decode cX11_costOf 101 = .ok (.istore 5, 2) := by decide +kernel
theorem dX11_costOf_103 : decode cX11_costOf 103 = .ok (.iconst 1, 1) := by decide +kernel
theorem dX11_costOf_104 : decode cX11_costOf 104 = .ok (.iload 4, 2) := by decide +kernel
theorem dX11_costOf_106 : decode cX11_costOf 106 = .ok (.iconst 2, 1) := by decide +kernel
theorem dX11_costOf_107 : decode cX11_costOf 107 = .ok (.aload_n 0, 1) := by decide +kernel
theorem dX11_costOf_108 : decode cX11_costOf 108 = .ok (.getfield 13, 3) := by decide +kernel
theorem dX11_costOf_111 : decode cX11_costOf 111 = .ok (.iload_n 3, 1) := by decide +kernel
theorem dX11_costOf_112 : decode cX11_costOf 112 = .ok (.iaload, 1) := by decide +kernel
theorem dX11_costOf_113 : decode cX11_costOf 113 = .ok (.imul, 1) := by decide +kernel
theorem dX11_costOf_114 : decode cX11_costOf 114 = .ok (.invokestatic 105, 3) := by decide +kernel
theorem dX11_costOf_117 : decode cX11_costOf 117 = .ok (.iadd, 1) := by decide +kernel
theorem dX11_costOf_118 : decode cX11_costOf 118 = .ok (.iload 5, 2) := by decide +kernel
theorem dX11_costOf_120 : decode cX11_costOf 120 = .ok (.iadd, 1) := by decide +kernel
theorem dX11_costOf_121 : decode cX11_costOf 121 = .ok (.ireturn, 1) := by decide +kernel
theorem dX11_cost_0 : decode cX11_cost 0 = .ok (.aload_n 0, 1) := by decide +kernel
theorem dX11_cost_1 : decode cX11_cost 1 = .ok (.iload_n 1, 1) := by decide +kernel
theorem dX11_cost_2 : decode cX11_cost 2 = .ok (.invokevirtual 120, 3) := by decide +kernel
theorem dX11_cost_5 : decode cX11_cost 5 = .ok (.ifCond .ne 5, 3) := by decide +kernel
theorem dX11_cost_8 : decode cX11_cost 8 = .ok (.iconst (-1), 1) := by decide +kernel
theorem dX11_cost_9 : decode cX11_cost 9 = .ok (.ireturn, 1) := by decide +kernel
theorem dX11_cost_10 : decode cX11_cost 10 = .ok (.iload_n 2, 1) := by decide +kernel
theorem dX11_cost_11 : decode cX11_cost 11 = .ok (.iconst (-1), 1) := by decide +kernel
theorem dX11_cost_12 : decode cX11_cost 12 = .ok (.if_icmp .ne 14, 3) := by decide +kernel
theorem dX11_cost_15 : decode cX11_cost 15 = .ok (.aload_n 0, 1) := by decide +kernel
theorem dX11_cost_16 : decode cX11_cost 16 = .ok (.aload_n 0, 1) := by decide +kernel
theorem dX11_cost_17 : decode cX11_cost 17 = .ok (.getfield 37, 3) := by decide +kernel
theorem dX11_cost_20 : decode cX11_cost 20 = .ok (.iload_n 1, 1) := by decide +kernel
theorem dX11_cost_21 : decode cX11_cost 21 = .ok (.iaload, 1) := by decide +kernel
theorem dX11_cost_22 : decode cX11_cost 22 = .ok (.invokevirtual 109, 3) := by decide +kernel
theorem dX11_cost_25 : decode cX11_cost 25 = .ok (.ireturn, 1) := by decide +kernel
theorem dX11_cost_26 : decode cX11_cost 26 = .ok (.aload_n 0, 1) := by decide +kernel
theorem dX11_cost_27 : decode cX11_cost 27 = .ok (.iload_n 2, 1) := by decide +kernel
theorem dX11_cost_28 : decode cX11_cost 28 = .ok (.invokevirtual 137, 3) := by decide +kernel
theorem dX11_cost_31 : decode cX11_cost 31 = .ok (.ifCond .eq 21, 3) := by decide +kernel
theorem dX11_cost_34 : decode cX11_cost 34 = .ok (.aload_n 0, 1) := by decide +kernel
theorem dX11_cost_35 : decode cX11_cost 35 = .ok (.iload_n 1, 1) := by decide +kernel
theorem dX11_cost_36 : decode cX11_cost 36 = .ok (.iload_n 2, 1) := by decide +kernel
theorem dX11_cost_37 : decode cX11_cost 37 = .ok (.invokevirtual 167, 3) := by decide +kernel
theorem dX11_cost_40 : decode cX11_cost 40 = .ok (.ifCond .eq 12, 3) := by decide +kernel
theorem dX11_cost_43 : decode cX11_cost 43 = .ok (.aload_n 0, 1) := by decide +kernel
theorem dX11_cost_44 : decode cX11_cost 44 = .ok (.iload_n 1, 1) := by decide +kernel
theorem dX11_cost_45 : decode cX11_cost 45 = .ok (.iload_n 2, 1) := by decide +kernel
theorem dX11_cost_46 : decode cX11_cost 46 = .ok (.invokevirtual 170, 3) := by decide +kernel
theorem dX11_cost_49 : decode cX11_cost 49 = .ok (.goto 4, 3) := by decide +kernel
theorem dX11_cost_52 : decode cX11_cost 52 = .ok (.iconst (-1), 1) := by decide +kernel
theorem dX11_cost_53 : decode cX11_cost 53 = .ok (.ireturn, 1) := by decide +kernel
theorem dX11_planOf_0 : decode cX11_planOf 0 = .ok (.iconst (-1), 1) := by decide +kernel
theorem dX11_planOf_1 : decode cX11_planOf 1 = .ok (.istore_n 3, 1) := by decide +kernel
theorem dX11_planOf_2 : decode cX11_planOf 2 = .ok (.iconst 0, 1) := by decide +kernel
theorem dX11_planOf_3 : decode cX11_planOf 3 = .ok (.istore 4, 2) := by decide +kernel
theorem dX11_planOf_5 : decode cX11_planOf 5 = .ok (.iload 4, 2) := by decide +kernel
theorem dX11_planOf_7 : decode cX11_planOf 7 = .ok (.aload_n 0, 1) := by decide +kernel
theorem dX11_planOf_8 : decode cX11_planOf 8 = .ok (.getfield 123, 3) := by decide +kernel
theorem dX11_planOf_11 : decode cX11_planOf 11 = .ok (.if_icmp .ge 47, 3) := by decide +kernel
theorem dX11_planOf_14 : decode cX11_planOf 14 = .ok (.iload_n 2, 1) := by decide +kernel
theorem dX11_planOf_15 : decode cX11_planOf 15 = .ok (.iload 4, 2) := by decide +kernel
theorem dX11_planOf_17 : decode cX11_planOf 17 = .ok (.invokestatic 97, 3) := by decide +kernel
theorem dX11_planOf_20 : decode cX11_planOf 20 = .ok (.ifCond .eq 32, 3) := by decide +kernel
theorem dX11_planOf_23 : decode cX11_planOf 23 = .ok (.aload_n 0, 1) := by decide +kernel
theorem dX11_planOf_24 : decode cX11_planOf 24 = .ok (.iload_n 1, 1) := by decide +kernel
theorem dX11_planOf_25 : decode cX11_planOf 25 = .ok (.iload 4, 2) := by decide +kernel
theorem dX11_planOf_27 : decode cX11_planOf 27 = .ok (.invokevirtual 167, 3) := by decide +kernel
theorem dX11_planOf_30 : decode cX11_planOf 30 = .ok (.ifCond .eq 22, 3) := by decide +kernel
theorem dX11_planOf_33 : decode cX11_planOf 33 = .ok (.aload_n 0, 1) := by decide +kernel
theorem dX11_planOf_34 : decode cX11_planOf 34 = .ok (.iload_n 1, 1) := by decide +kernel
theorem dX11_planOf_35 : decode cX11_planOf 35 = .ok (.iload 4, 2) := by decide +kernel
theorem dX11_planOf_37 : decode cX11_planOf 37 = .ok (.invokevirtual 170, 3) := by decide +kernel
theorem dX11_planOf_40 : decode cX11_planOf 40 = .ok (.aload_n 0, 1) := by decide +kernel
theorem dX11_planOf_41 : decode cX11_planOf 41 = .ok (.iload_n 1, 1) := by decide +kernel
theorem dX11_planOf_42 : decode cX11_planOf 42 = .ok (.iload_n 3, 1) := by decide +kernel
theorem dX11_planOf_43 : decode cX11_planOf 43 = .ok (.invokevirtual 173, 3) := by decide +kernel
theorem dX11_planOf_46 : decode cX11_planOf 46 = .ok (.if_icmp .ge 6, 3) := by decide +kernel
theorem dX11_planOf_49 : decode cX11_planOf 49 = .ok (.iload 4, 2) := by decide +kernel
theorem dX11_planOf_51 : decode cX11_planOf 51 = .ok (.istore_n 3, 1) := by decide +kernel
theorem dX11_planOf_52 : decode cX11_planOf 52 = .ok (.iinc 4 1, 3) := by decide +kernel
theorem dX11_planOf_55 : decode cX11_planOf 55 = .ok (.goto (-50), 3) := by decide +kernel
theorem dX11_planOf_58 : decode cX11_planOf 58 = .ok (.iload_n 3, 1) := by decide +kernel
theorem dX11_planOf_59 : decode cX11_planOf 59 = .ok (.ireturn, 1) := by decide +kernel
theorem dX11_plan_0 : decode cX11_plan 0 = .ok (.aload_n 0, 1) := by decide +kernel
theorem dX11_plan_1 : decode cX11_plan 1 = .ok (.iload_n 1, 1) := by decide +kernel
theorem dX11_plan_2 : decode cX11_plan 2 = .ok (.invokevirtual 120, 3) := by decide +kernel
theorem dX11_plan_5 : decode cX11_plan 5 = .ok (.ifCond .eq 15, 3) := by decide +kernel
theorem dX11_plan_8 : decode cX11_plan 8 = .ok (.aload_n 0, 1) := by decide +kernel
theorem dX11_plan_9 : decode cX11_plan 9 = .ok (.iload_n 1, 1) := by decide +kernel
theorem dX11_plan_10 : decode cX11_plan 10 = .ok (.aload_n 0, 1) := by decide +kernel
theorem dX11_plan_11 : decode cX11_plan 11 = .ok (.getfield 140, 3) := by decide +kernel
theorem dX11_plan_14 : decode cX11_plan 14 = .ok (.invokevirtual 176, 3) := by decide +kernel
theorem dX11_plan_17 : decode cX11_plan 17 = .ok (.goto 5, 3) := by decide +kernel
theorem dX11_plan_20 : decode cX11_plan 20 = .ok (.bipush (-2), 2) := by decide +kernel
theorem dX11_plan_22 : decode cX11_plan 22 = .ok (.ireturn, 1) := by decide +kernel
theorem dX11_passesNow_0 : decode cX11_passesNow 0 = .ok (.aload_n 0, 1) := by decide +kernel
theorem dX11_passesNow_1 : decode cX11_passesNow 1 = .ok (.iload_n 1, 1) := by decide +kernel
theorem dX11_passesNow_2 : decode cX11_passesNow 2 = .ok (.iload_n 2, 1) := by decide +kernel
theorem dX11_passesNow_3 : decode cX11_passesNow 3 = .ok (.iload_n 3, 1) := by decide +kernel
theorem dX11_passesNow_4 : decode cX11_passesNow 4 = .ok (.invokevirtual 101, 3) := by decide +kernel
theorem dX11_passesNow_7 : decode cX11_passesNow 7 = .ok (.iload 4, 2) := by decide +kernel
theorem dX11_passesNow_9 : decode cX11_passesNow 9 = .ok (.iload 5, 2) := by decide +kernel
theorem dX11_passesNow_11 : decode cX11_passesNow 11 = .ok (.invokestatic 89, 3) := by decide +kernel
theorem dX11_passesNow_14 : decode cX11_passesNow 14 = .ok (.ireturn, 1) := by decide +kernel
theorem dX11_answers_0 : decode cX11_answers 0 = .ok (.iconst 0, 1) := by decide +kernel
theorem dX11_answers_1 : decode cX11_answers 1 = .ok (.istore_n 3, 1) := by decide +kernel
theorem dX11_answers_2 : decode cX11_answers 2 = .ok (.iload_n 3, 1) := by decide +kernel
theorem dX11_answers_3 : decode cX11_answers 3 = .ok (.iconst 4, 1) := by decide +kernel
theorem dX11_answers_4 : decode cX11_answers 4 = .ok (.if_icmp .ge 59, 3) := by decide +kernel
theorem dX11_answers_7 : decode cX11_answers 7 = .ok (.aload_n 0, 1) := by decide +kernel
theorem dX11_answers_8 : decode cX11_answers 8 = .ok (.getfield 49, 3) := by decide +kernel
theorem dX11_answers_11 : decode cX11_answers 11 = .ok (.iconst 4, 1) := by decide +kernel
theorem dX11_answers_12 : decode cX11_answers 12 = .ok (.iload_n 1, 1) := by decide +kernel
theorem dX11_answers_13 : decode cX11_answers 13 = .ok (.imul, 1) := by decide +kernel
theorem dX11_answers_14 : decode cX11_answers 14 = .ok (.iload_n 3, 1) := by decide +kernel
theorem dX11_answers_15 : decode cX11_answers 15 = .ok (.iadd, 1) := by decide +kernel
theorem dX11_answers_16 : decode cX11_answers 16 = .ok (.baload, 1) := by decide +kernel
theorem dX11_answers_17 : decode cX11_answers 17 = .ok (.ifCond .eq 40, 3) := by decide +kernel
theorem dX11_answers_20 : decode cX11_answers 20 = .ok (.aload_n 0, 1) := by decide +kernel
theorem dX11_answers_21 : decode cX11_answers 21 = .ok (.aload_n 0, 1) := by decide +kernel
theorem dX11_answers_22 : decode cX11_answers 22 = .ok (.getfield 37, 3) := by decide +kernel
theorem dX11_answers_25 : decode cX11_answers 25 = .ok (.iload_n 1, 1) := by decide +kernel
theorem dX11_answers_26 : decode cX11_answers 26 = .ok (.iaload, 1) := by decide +kernel
theorem dX11_answers_27 : decode cX11_answers 27 = .ok (.iload_n 2, 1) := by decide +kernel
theorem dX11_answers_28 : decode cX11_answers 28 = .ok (.iload_n 3, 1) := by decide +kernel
theorem dX11_answers_29 : decode cX11_answers 29 = .ok (.aload_n 0, 1) := by decide +kernel
theorem dX11_answers_30 : decode cX11_answers 30 = .ok (.getfield 53, 3) := by decide +kernel
theorem dX11_answers_33 : decode cX11_answers 33 = .ok (.iconst 4, 1) := by decide +kernel
theorem dX11_answers_34 : decode cX11_answers 34 = .ok (.iload_n 1, 1) := by decide +kernel
theorem dX11_answers_35 : decode cX11_answers 35 = .ok (.imul, 1) := by decide +kernel
theorem dX11_answers_36 : decode cX11_answers 36 = .ok (.iload_n 3, 1) := by decide +kernel
theorem dX11_answers_37 : decode cX11_answers 37 = .ok (.iadd, 1) := by decide +kernel
theorem dX11_answers_38 : decode cX11_answers 38 = .ok (.iaload, 1) := by decide +kernel
theorem dX11_answers_39 : decode cX11_answers 39 = .ok (.aload_n 0, 1) := by decide +kernel
theorem dX11_answers_40 : decode cX11_answers 40 = .ok (.getfield 56, 3) := by decide +kernel
theorem dX11_answers_43 : decode cX11_answers 43 = .ok (.iconst 4, 1) := by decide +kernel
theorem dX11_answers_44 : decode cX11_answers 44 = .ok (.iload_n 1, 1) := by decide +kernel
theorem dX11_answers_45 : decode cX11_answers 45 = .ok (.imul, 1) := by decide +kernel
theorem dX11_answers_46 : decode cX11_answers 46 = .ok (.iload_n 3, 1) := by decide +kernel
theorem dX11_answers_47 : decode cX11_answers 47 = .ok (.iadd, 1) := by decide +kernel
theorem dX11_answers_48 : decode cX11_answers 48 = .ok (.iaload, 1) := by decide +kernel
theorem dX11_answers_49 : decode cX11_answers 49 = .ok (.invokevirtual 179, 3) := by decide +kernel
theorem dX11_answers_52 : decode cX11_answers 52 = .ok (.ifCond .ne 5, 3) := by decide +kernel
theorem dX11_answers_55 : decode cX11_answers 55 = .ok (.iconst 0, 1) := by decide +kernel
theorem dX11_answers_56 : decode cX11_answers 56 = .ok (.ireturn, 1) := by decide +kernel
theorem dX11_answers_57 : decode cX11_answers 57 = .ok (.iinc 3 1, 3) := by decide +kernel
theorem dX11_answers_60 : decode cX11_answers 60 = .ok (.goto (-58), 3) := by decide +kernel
theorem dX11_answers_63 : decode cX11_answers 63 = .ok (.iconst 1, 1) := by decide +kernel
theorem dX11_answers_64 : decode cX11_answers 64 = .ok (.ireturn, 1) := by decide +kernel
theorem dX11_matchesNow_0 : decode cX11_matchesNow 0 = .ok (.aload_n 0, 1) := by decide +kernel
theorem dX11_matchesNow_1 : decode cX11_matchesNow 1 = .ok (.getfield 37, 3) := by decide +kernel
theorem dX11_matchesNow_4 : decode cX11_matchesNow 4 = .ok (.iload_n 1, 1) := by decide +kernel
theorem dX11_matchesNow_5 : decode cX11_matchesNow 5 = .ok (.iaload, 1) := by decide +kernel
theorem dX11_matchesNow_6 : decode cX11_matchesNow 6 = .ok (.istore 4, 2) := by decide +kernel
theorem dX11_matchesNow_8 : decode cX11_matchesNow 8 = .ok (.aload_n 0, 1) := by decide +kernel
theorem dX11_matchesNow_9 : decode cX11_matchesNow 9 = .ok (.getfield 59, 3) := by decide +kernel
theorem dX11_matchesNow_12 : decode cX11_matchesNow 12 = .ok (.iload_n 2, 1) := by decide +kernel
theorem dX11_matchesNow_13 : decode cX11_matchesNow 13 = .ok (.iaload, 1) := by decide +kernel
theorem dX11_matchesNow_14 : decode cX11_matchesNow 14 = .ok (.iconst 2, 1) := by decide +kernel
theorem dX11_matchesNow_15 : decode cX11_matchesNow 15 = .ok (.if_icmp .ne 33, 3) := by decide +kernel
theorem dX11_matchesNow_18 : decode cX11_matchesNow 18 = .ok (.aload_n 0, 1) := by decide +kernel
theorem dX11_matchesNow_19 : decode cX11_matchesNow 19 = .ok (.iload 4, 2) := by decide +kernel
theorem dX11_matchesNow_21 : decode cX11_matchesNow 21 = .ok (.iload_n 3, 1) := by decide +kernel
theorem dX11_matchesNow_22 : decode cX11_matchesNow 22 = .ok (.aload_n 0, 1) := by decide +kernel
theorem dX11_matchesNow_23 : decode cX11_matchesNow 23 = .ok (.getfield 74, 3) := by decide +kernel
theorem dX11_matchesNow_26 : decode cX11_matchesNow 26 = .ok (.iload_n 2, 1) := by decide +kernel
theorem dX11_matchesNow_27 : decode cX11_matchesNow 27 = .ok (.iaload, 1) := by decide +kernel
theorem dX11_matchesNow_28 : decode cX11_matchesNow 28 = .ok (.aload_n 0, 1) := by decide +kernel
theorem dX11_matchesNow_29 : decode cX11_matchesNow 29 = .ok (.getfield 77, 3) := by decide +kernel
theorem dX11_matchesNow_32 : decode cX11_matchesNow 32 = .ok (.iload_n 2, 1) := by decide +kernel
theorem dX11_matchesNow_33 : decode cX11_matchesNow 33 = .ok (.iaload, 1) := by decide +kernel
theorem dX11_matchesNow_34 : decode cX11_matchesNow 34 = .ok (.aload_n 0, 1) := by decide +kernel
theorem dX11_matchesNow_35 : decode cX11_matchesNow 35 = .ok (.getfield 80, 3) := by decide +kernel
theorem dX11_matchesNow_38 : decode cX11_matchesNow 38 = .ok (.iload_n 2, 1) := by decide +kernel
theorem dX11_matchesNow_39 : decode cX11_matchesNow 39 = .ok (.iaload, 1) := by decide +kernel
theorem dX11_matchesNow_40 : decode cX11_matchesNow 40 = .ok (.invokevirtual 179, 3) := by decide +kernel
theorem dX11_matchesNow_43 : decode cX11_matchesNow 43 = .ok (.ifCond .ne 5, 3) := by decide +kernel
theorem dX11_matchesNow_46 : decode cX11_matchesNow 46 = .ok (.iconst 0, 1) := by decide +kernel
theorem dX11_matchesNow_47 : decode cX11_matchesNow 47 = .ok (.ireturn, 1) := by decide +kernel
theorem dX11_matchesNow_48 : decode cX11_matchesNow 48 = .ok (.aload_n 0, 1) := by decide +kernel
theorem dX11_matchesNow_49 : decode cX11_matchesNow 49 = .ok (.iload_n 1, 1) := by decide +kernel
theorem dX11_matchesNow_50 : decode cX11_matchesNow 50 = .ok (.iload_n 2, 1) := by decide +kernel
theorem dX11_matchesNow_51 : decode cX11_matchesNow 51 = .ok (.invokevirtual 152, 3) := by decide +kernel
theorem dX11_matchesNow_54 : decode cX11_matchesNow 54 = .ok (.istore 5, 2) := by decide +kernel
theorem dX11_matchesNow_56 : decode cX11_matchesNow 56 = .ok (.iconst 0, 1) := by decide +kernel
theorem dX11_matchesNow_57 : decode cX11_matchesNow 57 = .ok (.istore 6, 2) := by decide +kernel
theorem dX11_matchesNow_59 : decode cX11_matchesNow 59 = .ok (.iload 6, 2) := by decide +kernel
theorem dX11_matchesNow_61 : decode cX11_matchesNow 61 = .ok (.iload 5, 2) := by decide +kernel
theorem dX11_matchesNow_63 : decode cX11_matchesNow 63 = .ok (.if_icmp .ge 58, 3) := by decide +kernel
theorem dX11_matchesNow_66 : decode cX11_matchesNow 66 = .ok (.aload_n 0, 1) := by decide +kernel
theorem dX11_matchesNow_67 : decode cX11_matchesNow 67 = .ok (.getfield 68, 3) := by decide +kernel
theorem dX11_matchesNow_70 : decode cX11_matchesNow 70 = .ok (.iconst 3, 1) := by decide +kernel
theorem dX11_matchesNow_71 : decode cX11_matchesNow 71 = .ok (.iload_n 2, 1) := by decide +kernel
theorem dX11_matchesNow_72 : decode cX11_matchesNow 72 = .ok (.imul, 1) := by decide +kernel
theorem dX11_matchesNow_73 : decode cX11_matchesNow 73 = .ok (.iload 6, 2) := by decide +kernel
theorem dX11_matchesNow_75 : decode cX11_matchesNow 75 = .ok (.iadd, 1) := by decide +kernel
theorem dX11_matchesNow_76 : decode cX11_matchesNow 76 = .ok (.iaload, 1) := by decide +kernel
theorem dX11_matchesNow_77 : decode cX11_matchesNow 77 = .ok (.istore 7, 2) := by decide +kernel
theorem dX11_matchesNow_79 : decode cX11_matchesNow 79 = .ok (.aload_n 0, 1) := by decide +kernel
theorem dX11_matchesNow_80 : decode cX11_matchesNow 80 = .ok (.iload 4, 2) := by decide +kernel
theorem dX11_matchesNow_82 : decode cX11_matchesNow 82 = .ok (.iload_n 3, 1) := by decide +kernel
theorem dX11_matchesNow_83 : decode cX11_matchesNow 83 = .ok (.iload 7, 2) := by decide +kernel
theorem dX11_matchesNow_85 : decode cX11_matchesNow 85 = .ok (.aload_n 0, 1) := by decide +kernel
theorem dX11_matchesNow_86 : decode cX11_matchesNow 86 = .ok (.getfield 53, 3) := by decide +kernel
theorem dX11_matchesNow_89 : decode cX11_matchesNow 89 = .ok (.iconst 4, 1) := by decide +kernel
theorem dX11_matchesNow_90 : decode cX11_matchesNow 90 = .ok (.iload_n 1, 1) := by decide +kernel
theorem dX11_matchesNow_91 : decode cX11_matchesNow 91 = .ok (.imul, 1) := by decide +kernel
theorem dX11_matchesNow_92 : decode cX11_matchesNow 92 = .ok (.iload 7, 2) := by decide +kernel
theorem dX11_matchesNow_94 : decode cX11_matchesNow 94 = .ok (.iadd, 1) := by decide +kernel
theorem dX11_matchesNow_95 : decode cX11_matchesNow 95 = .ok (.iaload, 1) := by decide +kernel
theorem dX11_matchesNow_96 : decode cX11_matchesNow 96 = .ok (.aload_n 0, 1) := by decide +kernel
theorem dX11_matchesNow_97 : decode cX11_matchesNow 97 = .ok (.getfield 56, 3) := by decide +kernel
theorem dX11_matchesNow_100 : decode cX11_matchesNow 100 = .ok (.iconst 4, 1) := by decide +kernel
theorem dX11_matchesNow_101 : decode cX11_matchesNow 101 = .ok (.iload_n 1, 1) := by decide +kernel
theorem dX11_matchesNow_102 : decode cX11_matchesNow 102 = .ok (.imul, 1) := by decide +kernel
theorem dX11_matchesNow_103 : decode cX11_matchesNow 103 = .ok (.iload 7, 2) := by decide +kernel
theorem dX11_matchesNow_105 : decode cX11_matchesNow 105 = .ok (.iadd, 1) := by decide +kernel
theorem dX11_matchesNow_106 : decode cX11_matchesNow 106 = .ok (.iaload, 1) := by decide +kernel
theorem dX11_matchesNow_107 : decode cX11_matchesNow 107 = .ok (.invokevirtual 179, 3) := by decide +kernel
theorem dX11_matchesNow_110 : decode cX11_matchesNow 110 = .ok (.ifCond .ne 5, 3) := by decide +kernel
theorem dX11_matchesNow_113 : decode cX11_matchesNow 113 = .ok (.iconst 0, 1) := by decide +kernel
theorem dX11_matchesNow_114 : decode cX11_matchesNow 114 = .ok (.ireturn, 1) := by decide +kernel
theorem dX11_matchesNow_115 : decode cX11_matchesNow 115 = .ok (.iinc 6 1, 3) := by decide +kernel
theorem dX11_matchesNow_118 : decode cX11_matchesNow 118 = .ok (.goto (-59), 3) := by decide +kernel
theorem dX11_matchesNow_121 : decode cX11_matchesNow 121 = .ok (.iconst 1, 1) := by decide +kernel
theorem dX11_matchesNow_122 : decode cX11_matchesNow 122 = .ok (.ireturn, 1) := by decide +kernel
theorem dX11_alike_0 : decode cX11_alike 0 = .ok (.iconst 0, 1) := by decide +kernel
theorem dX11_alike_1 : decode cX11_alike 1 = .ok (.istore 5, 2) := by decide +kernel
theorem dX11_alike_3 : decode cX11_alike 3 = .ok (.iload 5, 2) := by decide +kernel
theorem dX11_alike_5 : decode cX11_alike 5 = .ok (.aload_n 0, 1) := by decide +kernel
theorem dX11_alike_6 : decode cX11_alike 6 = .ok (.getfield 7, 3) := by decide +kernel
theorem dX11_alike_9 : decode cX11_alike 9 = .ok (.iload_n 1, 1) := by decide +kernel
theorem dX11_alike_10 : decode cX11_alike 10 = .ok (.iaload, 1) := by decide +kernel
theorem dX11_alike_11 : decode cX11_alike 11 = .ok (.if_icmp .ge 40, 3) := by decide +kernel
theorem dX11_alike_14 : decode cX11_alike 14 = .ok (.iload 4, 2) := by decide +kernel
theorem dX11_alike_16 : decode cX11_alike 16 = .ok (.iload 5, 2) := by decide +kernel
theorem dX11_alike_18 : decode cX11_alike 18 = .ok (.invokestatic 97, 3) := by decide +kernel
theorem dX11_alike_21 : decode cX11_alike 21 = .ok (.ifCond .eq 24, 3) := by decide +kernel
theorem dX11_alike_24 : decode cX11_alike 24 = .ok (.aload_n 0, 1) := by decide +kernel
theorem dX11_alike_25 : decode cX11_alike 25 = .ok (.iload_n 1, 1) := by decide +kernel
theorem dX11_alike_26 : decode cX11_alike 26 = .ok (.iload_n 2, 1) := by decide +kernel
theorem dX11_alike_27 : decode cX11_alike 27 = .ok (.iload 5, 2) := by decide +kernel
theorem dX11_alike_29 : decode cX11_alike 29 = .ok (.invokevirtual 101, 3) := by decide +kernel
theorem dX11_alike_32 : decode cX11_alike 32 = .ok (.aload_n 0, 1) := by decide +kernel
theorem dX11_alike_33 : decode cX11_alike 33 = .ok (.iload_n 1, 1) := by decide +kernel
theorem dX11_alike_34 : decode cX11_alike 34 = .ok (.iload_n 3, 1) := by decide +kernel
theorem dX11_alike_35 : decode cX11_alike 35 = .ok (.iload 5, 2) := by decide +kernel
theorem dX11_alike_37 : decode cX11_alike 37 = .ok (.invokevirtual 101, 3) := by decide +kernel
theorem dX11_alike_40 : decode cX11_alike 40 = .ok (.if_icmp .eq 5, 3) := by decide +kernel
theorem dX11_alike_43 : decode cX11_alike 43 = .ok (.iconst 0, 1) := by decide +kernel
theorem dX11_alike_44 : decode cX11_alike 44 = .ok (.ireturn, 1) := by decide +kernel
theorem dX11_alike_45 : decode cX11_alike 45 = .ok (.iinc 5 1, 3) := by decide +kernel
theorem dX11_alike_48 : decode cX11_alike 48 = .ok (.goto (-45), 3) := by decide +kernel
theorem dX11_alike_51 : decode cX11_alike 51 = .ok (.iconst 1, 1) := by decide +kernel
theorem dX11_alike_52 : decode cX11_alike 52 = .ok (.ireturn, 1) := by decide +kernel
theorem dX11_fetched_0 : decode cX11_fetched 0 = .ok (.aload_n 0, 1) := by decide +kernel
theorem dX11_fetched_1 : decode cX11_fetched 1 = .ok (.getfield 37, 3) := by decide +kernel
theorem dX11_fetched_4 : decode cX11_fetched 4 = .ok (.iload_n 1, 1) := by decide +kernel
theorem dX11_fetched_5 : decode cX11_fetched 5 = .ok (.iaload, 1) := by decide +kernel
theorem dX11_fetched_6 : decode cX11_fetched 6 = .ok (.istore_n 2, 1) := by decide +kernel
theorem dX11_fetched_7 : decode cX11_fetched 7 = .ok (.aload_n 0, 1) := by decide +kernel
theorem dX11_fetched_8 : decode cX11_fetched 8 = .ok (.iload_n 1, 1) := by decide +kernel
theorem dX11_fetched_9 : decode cX11_fetched 9 = .ok (.aload_n 0, 1) := by decide +kernel
theorem dX11_fetched_10 : decode cX11_fetched 10 = .ok (.getfield 140, 3) := by decide +kernel
theorem dX11_fetched_13 : decode cX11_fetched 13 = .ok (.invokevirtual 176, 3) := by decide +kernel
theorem dX11_fetched_16 : decode cX11_fetched 16 = .ok (.istore_n 3, 1) := by decide +kernel
theorem dX11_fetched_17 : decode cX11_fetched 17 = .ok (.iload_n 3, 1) := by decide +kernel
theorem dX11_fetched_18 : decode cX11_fetched 18 = .ok (.iconst (-1), 1) := by decide +kernel
theorem dX11_fetched_19 : decode cX11_fetched 19 = .ok (.if_icmp .ne 19, 3) := by decide +kernel
theorem dX11_fetched_22 : decode cX11_fetched 22 = .ok (.aload_n 0, 1) := by decide +kernel
theorem dX11_fetched_23 : decode cX11_fetched 23 = .ok (.getfield 16, 3) := by decide +kernel
theorem dX11_fetched_26 : decode cX11_fetched 26 = .ok (.iload_n 2, 1) := by decide +kernel
theorem dX11_fetched_27 : decode cX11_fetched 27 = .ok (.iaload, 1) := by decide +kernel
theorem dX11_fetched_28 : decode cX11_fetched 28 = .ok (.aload_n 0, 1) := by decide +kernel
theorem dX11_fetched_29 : decode cX11_fetched 29 = .ok (.getfield 13, 3) := by decide +kernel
theorem dX11_fetched_32 : decode cX11_fetched 32 = .ok (.iload_n 2, 1) := by decide +kernel
theorem dX11_fetched_33 : decode cX11_fetched 33 = .ok (.iaload, 1) := by decide +kernel
theorem dX11_fetched_34 : decode cX11_fetched 34 = .ok (.invokestatic 105, 3) := by decide +kernel
theorem dX11_fetched_37 : decode cX11_fetched 37 = .ok (.ireturn, 1) := by decide +kernel
theorem dX11_fetched_38 : decode cX11_fetched 38 = .ok (.iconst 0, 1) := by decide +kernel
theorem dX11_fetched_39 : decode cX11_fetched 39 = .ok (.istore 4, 2) := by decide +kernel
theorem dX11_fetched_41 : decode cX11_fetched 41 = .ok (.aload_n 0, 1) := by decide +kernel
theorem dX11_fetched_42 : decode cX11_fetched 42 = .ok (.getfield 59, 3) := by decide +kernel
theorem dX11_fetched_45 : decode cX11_fetched 45 = .ok (.iload_n 3, 1) := by decide +kernel
theorem dX11_fetched_46 : decode cX11_fetched 46 = .ok (.iaload, 1) := by decide +kernel
theorem dX11_fetched_47 : decode cX11_fetched 47 = .ok (.iconst 3, 1) := by decide +kernel
theorem dX11_fetched_48 : decode cX11_fetched 48 = .ok (.if_icmp .ne 103, 3) := by decide +kernel
theorem dX11_fetched_51 : decode cX11_fetched 51 = .ok (.iconst 0, 1) := by decide +kernel
theorem dX11_fetched_52 : decode cX11_fetched 52 = .ok (.istore 5, 2) := by decide +kernel
theorem dX11_fetched_54 : decode cX11_fetched 54 = .ok (.iload 5, 2) := by decide +kernel
theorem dX11_fetched_56 : decode cX11_fetched 56 = .ok (.aload_n 0, 1) := by decide +kernel
theorem dX11_fetched_57 : decode cX11_fetched 57 = .ok (.getfield 16, 3) := by decide +kernel
theorem dX11_fetched_60 : decode cX11_fetched 60 = .ok (.iload_n 2, 1) := by decide +kernel
theorem dX11_fetched_61 : decode cX11_fetched 61 = .ok (.iaload, 1) := by decide +kernel
theorem dX11_fetched_62 : decode cX11_fetched 62 = .ok (.if_icmp .ge 73, 3) := by decide +kernel
theorem dX11_fetched_65 : decode cX11_fetched 65 = .ok (.iconst 1, 1) := by decide +kernel
theorem dX11_fetched_66 : decode cX11_fetched 66 = .ok (.istore 6, 2) := by decide +kernel
theorem dX11_fetched_68 : decode cX11_fetched 68 = .ok (.iconst 0, 1) := by decide +kernel
theorem dX11_fetched_69 : decode cX11_fetched 69 = .ok (.istore 7, 2) := by decide +kernel
theorem dX11_fetched_71 : decode cX11_fetched 71 = .ok (.iload 7, 2) := by decide +kernel
theorem dX11_fetched_73 : decode cX11_fetched 73 = .ok (.iload 5, 2) := by decide +kernel
theorem dX11_fetched_75 : decode cX11_fetched 75 = .ok (.if_icmp .ge 39, 3) := by decide +kernel
theorem dX11_fetched_78 : decode cX11_fetched 78 = .ok (.iload 6, 2) := by decide +kernel
theorem dX11_fetched_80 : decode cX11_fetched 80 = .ok (.ifCond .eq 25, 3) := by decide +kernel
theorem dX11_fetched_83 : decode cX11_fetched 83 = .ok (.aload_n 0, 1) := by decide +kernel
theorem dX11_fetched_84 : decode cX11_fetched 84 = .ok (.iload_n 2, 1) := by decide +kernel
theorem dX11_fetched_85 : decode cX11_fetched 85 = .ok (.iload 5, 2) := by decide +kernel
theorem dX11_fetched_87 : decode cX11_fetched 87 = .ok (.iload 7, 2) := by decide +kernel
theorem dX11_fetched_89 : decode cX11_fetched 89 = .ok (.aload_n 0, 1) := by decide +kernel
theorem dX11_fetched_90 : decode cX11_fetched 90 = .ok (.getfield 71, 3) := by decide +kernel
theorem dX11_fetched_93 : decode cX11_fetched 93 = .ok (.iload_n 3, 1) := by decide +kernel
theorem dX11_fetched_94 : decode cX11_fetched 94 = .ok (.iaload, 1) := by decide +kernel
theorem dX11_fetched_95 : decode cX11_fetched 95 = .ok (.invokevirtual 183, 3) := by decide +kernel
theorem dX11_fetched_98 : decode cX11_fetched 98 = .ok (.ifCond .ne 7, 3) := by decide +kernel
theorem dX11_fetched_101 : decode cX11_fetched 101 = .ok (.iconst 1, 1) := by decide +kernel
theorem dX11_fetched_102 : decode cX11_fetched 102 = .ok (.goto 4, 3) := by decide +kernel
theorem dX11_fetched_105 : decode cX11_fetched 105 = .ok (.iconst 0, 1) := by decide +kernel
theorem dX11_fetched_106 : decode cX11_fetched 106 = .ok (.istore 6, 2) := by decide +kernel
theorem dX11_fetched_108 : decode cX11_fetched 108 = .ok (.iinc 7 1, 3) := by decide +kernel
theorem dX11_fetched_111 : decode cX11_fetched 111 = .ok (.goto (-40), 3) := by decide +kernel
theorem dX11_fetched_114 : decode cX11_fetched 114 = .ok (.iload 4, 2) := by decide +kernel
theorem dX11_fetched_116 : decode cX11_fetched 116 = .ok (.iload 6, 2) := by decide +kernel
theorem dX11_fetched_118 : decode cX11_fetched 118 = .ok (.ifCond .eq 7, 3) := by decide +kernel
theorem dX11_fetched_121 : decode cX11_fetched 121 = .ok (.iconst 1, 1) := by decide +kernel
theorem dX11_fetched_122 : decode cX11_fetched 122 = .ok (.goto 4, 3) := by decide +kernel
theorem dX11_fetched_125 : decode cX11_fetched 125 = .ok (.iconst 0, 1) := by decide +kernel
theorem dX11_fetched_126 : decode cX11_fetched 126 = .ok (.iadd, 1) := by decide +kernel
theorem dX11_fetched_127 : decode cX11_fetched 127 = .ok (.istore 4, 2) := by decide +kernel
theorem dX11_fetched_129 : decode cX11_fetched 129 = .ok (.iinc 5 1, 3) := by decide +kernel
theorem dX11_fetched_132 : decode cX11_fetched 132 = .ok (.goto (-78), 3) := by decide +kernel
theorem dX11_fetched_135 : decode cX11_fetched 135 = .ok (.iconst 1, 1) := by decide +kernel
theorem dX11_fetched_136 : decode cX11_fetched 136 = .ok (.iload 4, 2) := by decide +kernel
theorem dX11_fetched_138 : decode cX11_fetched 138 = .ok (.iconst 2, 1) := by decide +kernel
theorem dX11_fetched_139 : decode cX11_fetched 139 = .ok (.aload_n 0, 1) := by decide +kernel
theorem dX11_fetched_140 : decode cX11_fetched 140 = .ok (.getfield 13, 3) := by decide +kernel
theorem dX11_fetched_143 : decode cX11_fetched 143 = .ok (.iload_n 2, 1) := by decide +kernel
theorem dX11_fetched_144 : decode cX11_fetched 144 = .ok (.iaload, 1) := by decide +kernel
theorem dX11_fetched_145 : decode cX11_fetched 145 = .ok (.imul, 1) := by decide +kernel
theorem dX11_fetched_146 : decode cX11_fetched 146 = .ok (.invokestatic 105, 3) := by decide +kernel
theorem dX11_fetched_149 : decode cX11_fetched 149 = .ok (.iadd, 1) := by decide +kernel
theorem dX11_fetched_150 : decode cX11_fetched 150 = .ok (.ireturn, 1) := by decide +kernel
theorem dX11_fetched_151 : decode cX11_fetched 151 = .ok (.iconst (-1), 1) := by decide +kernel
theorem dX11_fetched_152 : decode cX11_fetched 152 = .ok (.istore 5, 2) := by decide +kernel
theorem dX11_fetched_154 : decode cX11_fetched 154 = .ok (.iconst 0, 1) := by decide +kernel
theorem dX11_fetched_155 : decode cX11_fetched 155 = .ok (.istore 6, 2) := by decide +kernel
theorem dX11_fetched_157 : decode cX11_fetched 157 = .ok (.iconst 0, 1) := by decide +kernel
theorem dX11_fetched_158 : decode cX11_fetched 158 = .ok (.istore 7, 2) := by decide +kernel
theorem dX11_fetched_160 : decode cX11_fetched 160 = .ok (.iload 7, 2) := by decide +kernel
theorem dX11_fetched_162 : decode cX11_fetched 162 = .ok (.aload_n 0, 1) := by decide +kernel
theorem dX11_fetched_163 : decode cX11_fetched 163 = .ok (.getfield 16, 3) := by decide +kernel
theorem dX11_fetched_166 : decode cX11_fetched 166 = .ok (.iload_n 2, 1) := by decide +kernel
theorem dX11_fetched_167 : decode cX11_fetched 167 = .ok (.iaload, 1) := by decide +kernel
theorem dX11_fetched_168 : decode cX11_fetched 168 = .ok (.if_icmp .ge 61, 3) := by decide +kernel
theorem dX11_fetched_171 : decode cX11_fetched 171 = .ok (.aload_n 0, 1) := by decide +kernel
theorem dX11_fetched_172 : decode cX11_fetched 172 = .ok (.iload_n 1, 1) := by decide +kernel
theorem dX11_fetched_173 : decode cX11_fetched 173 = .ok (.iload_n 3, 1) := by decide +kernel
theorem dX11_fetched_174 : decode cX11_fetched 174 = .ok (.iload 7, 2) := by decide +kernel
theorem dX11_fetched_176 : decode cX11_fetched 176 = .ok (.invokevirtual 187, 3) := by decide +kernel
theorem dX11_fetched_179 : decode cX11_fetched 179 = .ok (.ifCond .ne 6, 3) := by decide +kernel
theorem dX11_fetched_182 : decode cX11_fetched 182 = .ok (.goto 41, 3) := by decide +kernel
theorem dX11_fetched_185 : decode cX11_fetched 185 = .ok (.iinc 4 1, 3) := by decide +kernel
theorem dX11_fetched_188 : decode cX11_fetched 188 = .ok (.iload 6, 2) := by decide +kernel
theorem dX11_fetched_190 : decode cX11_fetched 190 = .ok (.iload 7, 2) := by decide +kernel
theorem dX11_fetched_192 : decode cX11_fetched 192 = .ok (.aload_n 0, 1) := by decide +kernel
theorem dX11_fetched_193 : decode cX11_fetched 193 = .ok (.getfield 13, 3) := by decide +kernel
theorem dX11_fetched_196 : decode cX11_fetched 196 = .ok (.iload_n 2, 1) := by decide +kernel
theorem dX11_fetched_197 : decode cX11_fetched 197 = .ok (.iaload, 1) := by decide +kernel
theorem dX11_fetched_198 : decode cX11_fetched 198 = .ok (.idiv, 1) := by decide +kernel
theorem dX11_fetched_199 : decode cX11_fetched 199 = .ok (.iload 5, 2) := by decide +kernel
theorem dX11_fetched_201 : decode cX11_fetched 201 = .ok (.if_icmp .eq 7, 3) := by decide +kernel
theorem dX11_fetched_204 : decode cX11_fetched 204 = .ok (.iconst 1, 1) := by decide +kernel
theorem dX11_fetched_205 : decode cX11_fetched 205 = .ok (.goto 4, 3) := by decide +kernel
theorem dX11_fetched_208 : decode cX11_fetched 208 = .ok (.iconst 0, 1) := by decide +kernel
theorem dX11_fetched_209 : decode cX11_fetched 209 = .ok (.iadd, 1) := by decide +kernel
theorem dX11_fetched_210 : decode cX11_fetched 210 = .ok (.istore 6, 2) := by decide +kernel
theorem dX11_fetched_212 : decode cX11_fetched 212 = .ok (.iload 7, 2) := by decide +kernel
theorem dX11_fetched_214 : decode cX11_fetched 214 = .ok (.aload_n 0, 1) := by decide +kernel
theorem dX11_fetched_215 : decode cX11_fetched 215 = .ok (.getfield 13, 3) := by decide +kernel
theorem dX11_fetched_218 : decode cX11_fetched 218 = .ok (.iload_n 2, 1) := by decide +kernel
theorem dX11_fetched_219 : decode cX11_fetched 219 = .ok (.iaload, 1) := by decide +kernel
theorem dX11_fetched_220 : decode cX11_fetched 220 = .ok (.idiv, 1) := by decide +kernel
theorem dX11_fetched_221 : decode cX11_fetched 221 = .ok (.istore 5, 2) := by decide +kernel
theorem dX11_fetched_223 : decode cX11_fetched 223 = .ok (.iinc 7 1, 3) := by decide +kernel
theorem dX11_fetched_226 : decode cX11_fetched 226 = .ok (.goto (-66), 3) := by decide +kernel
theorem dX11_fetched_229 : decode cX11_fetched 229 = .ok (.aload_n 0, 1) := by decide +kernel
theorem dX11_fetched_230 : decode cX11_fetched 230 = .ok (.getfield 59, 3) := by decide +kernel
theorem dX11_fetched_233 : decode cX11_fetched 233 = .ok (.iload_n 3, 1) := by decide +kernel
theorem dX11_fetched_234 : decode cX11_fetched 234 = .ok (.iaload, 1) := by decide +kernel
theorem dX11_fetched_235 : decode cX11_fetched 235 = .ok (.iconst 4, 1) := by decide +kernel
theorem dX11_fetched_236 : decode cX11_fetched 236 = .ok (.if_icmp .ne 17, 3) := by decide +kernel
theorem dX11_fetched_239 : decode cX11_fetched 239 = .ok (.iconst 1, 1) := by decide +kernel
theorem dX11_fetched_240 : decode cX11_fetched 240 = .ok (.iload 4, 2) := by decide +kernel
theorem dX11_fetched_242 : decode cX11_fetched 242 = .ok (.aload_n 0, 1) := by decide +kernel
theorem dX11_fetched_243 : decode cX11_fetched 243 = .ok (.getfield 13, 3) := by decide +kernel
theorem dX11_fetched_246 : decode cX11_fetched 246 = .ok (.iload_n 2, 1) := by decide +kernel
theorem dX11_fetched_247 : decode cX11_fetched 247 = .ok (.iaload, 1) := by decide +kernel
theorem dX11_fetched_248 : decode cX11_fetched 248 = .ok (.invokestatic 105, 3) := by decide +kernel
theorem dX11_fetched_251 : decode cX11_fetched 251 = .ok (.iadd, 1) := by decide +kernel
theorem dX11_fetched_252 : decode cX11_fetched 252 = .ok (.ireturn, 1) := by decide +kernel
theorem dX11_fetched_253 : decode cX11_fetched 253 = .ok (.iconst 1, 1) := by decide +kernel
theorem dX11_fetched_254 : decode cX11_fetched 254 = .ok (.iload 4, 2) := by decide +kernel
theorem dX11_fetched_256 : decode cX11_fetched 256 = .ok (.iconst 2, 1) := by decide +kernel
theorem dX11_fetched_257 : decode cX11_fetched 257 = .ok (.aload_n 0, 1) := by decide +kernel
theorem dX11_fetched_258 : decode cX11_fetched 258 = .ok (.getfield 13, 3) := by decide +kernel
theorem dX11_fetched_261 : decode cX11_fetched 261 = .ok (.iload_n 2, 1) := by decide +kernel
theorem dX11_fetched_262 : decode cX11_fetched 262 = .ok (.iaload, 1) := by decide +kernel
theorem dX11_fetched_263 : decode cX11_fetched 263 = .ok (.imul, 1) := by decide +kernel
theorem dX11_fetched_264 : decode cX11_fetched 264 = .ok (.invokestatic 105, 3) := by decide +kernel
theorem dX11_fetched_267 : decode cX11_fetched 267 = .ok (.iadd, 1) := by decide +kernel
theorem dX11_fetched_268 : decode cX11_fetched 268 = .ok (.aload_n 0, 1) := by decide +kernel
theorem dX11_fetched_269 : decode cX11_fetched 269 = .ok (.iload_n 1, 1) := by decide +kernel
theorem dX11_fetched_270 : decode cX11_fetched 270 = .ok (.iload_n 3, 1) := by decide +kernel
theorem dX11_fetched_271 : decode cX11_fetched 271 = .ok (.invokevirtual 164, 3) := by decide +kernel
theorem dX11_fetched_274 : decode cX11_fetched 274 = .ok (.ifCond .eq 7, 3) := by decide +kernel
theorem dX11_fetched_277 : decode cX11_fetched 277 = .ok (.iconst 0, 1) := by decide +kernel
theorem dX11_fetched_278 : decode cX11_fetched 278 = .ok (.goto 5, 3) := by decide +kernel
theorem dX11_fetched_281 : decode cX11_fetched 281 = .ok (.iload 6, 2) := by decide +kernel
theorem dX11_fetched_283 : decode cX11_fetched 283 = .ok (.iadd, 1) := by decide +kernel
theorem dX11_fetched_284 : decode cX11_fetched 284 = .ok (.ireturn, 1) := by decide +kernel
theorem dX11_run_0 : decode cX11_run 0 = .ok (.aload_n 0, 1) := by decide +kernel
theorem dX11_run_1 : decode cX11_run 1 = .ok (.iload_n 1, 1) := by decide +kernel
theorem dX11_run_2 : decode cX11_run 2 = .ok (.invokevirtual 120, 3) := by decide +kernel
theorem dX11_run_5 : decode cX11_run 5 = .ok (.ifCond .ne 5, 3) := by decide +kernel
theorem dX11_run_8 : decode cX11_run 8 = .ok (.iconst (-1), 1) := by decide +kernel
theorem dX11_run_9 : decode cX11_run 9 = .ok (.ireturn, 1) := by decide +kernel
theorem dX11_run_10 : decode cX11_run 10 = .ok (.aload_n 0, 1) := by decide +kernel
theorem dX11_run_11 : decode cX11_run 11 = .ok (.getfield 37, 3) := by decide +kernel
theorem dX11_run_14 : decode cX11_run 14 = .ok (.iload_n 1, 1) := by decide +kernel
theorem dX11_run_15 : decode cX11_run 15 = .ok (.iaload, 1) := by decide +kernel
theorem dX11_run_16 : decode cX11_run 16 = .ok (.istore_n 3, 1) := by decide +kernel
theorem dX11_run_17 : decode cX11_run 17 = .ok (.iconst 0, 1) := by decide +kernel
theorem dX11_run_18 : decode cX11_run 18 = .ok (.istore 4, 2) := by decide +kernel
theorem dX11_run_20 : decode cX11_run 20 = .ok (.iconst 0, 1) := by decide +kernel
