theorem dX6_plan_88 : decode cX6_plan 88 = .ok (.iload_n 3, 1) := by decide +kernel
theorem dX6_plan_89 : decode cX6_plan 89 = .ok (.ireturn, 1) := by decide +kernel
theorem dX6_best_0 : decode cX6_best 0 = .ok (.aload_n 0, 1) := by decide +kernel
theorem dX6_best_1 : decode cX6_best 1 = .ok (.getfield 19, 3) := by decide +kernel
theorem dX6_best_4 : decode cX6_best 4 = .ok (.getfield 95, 3) := by decide +kernel
theorem dX6_best_7 : decode cX6_best 7 = .ok (.iconst 1, 1) := by decide +kernel
theorem dX6_best_8 : decode cX6_best 8 = .ok (.if_icmp .lt 37, 3) := by decide +kernel
theorem dX6_best_11 : decode cX6_best 11 = .ok (.aload_n 0, 1) := by decide +kernel
theorem dX6_best_12 : decode cX6_best 12 = .ok (.getfield 19, 3) := by decide +kernel
theorem dX6_best_15 : decode cX6_best 15 = .ok (.getfield 95, 3) := by decide +kernel
theorem dX6_best_18 : decode cX6_best 18 = .ok (.bipush 6, 2) := by decide +kernel
theorem dX6_best_20 : decode cX6_best 20 = .ok (.if_icmp .gt 25, 3) := by decide +kernel
theorem dX6_best_23 : decode cX6_best 23 = .ok (.aload_n 0, 1) := by decide +kernel
theorem dX6_best_24 : decode cX6_best 24 = .ok (.getfield 26, 3) := by decide +kernel
theorem dX6_best_27 : decode cX6_best 27 = .ok (.getfield 138, 3) := by decide +kernel
theorem dX6_best_30 : decode cX6_best 30 = .ok (.ifCond .ne 15, 3) := by decide +kernel
theorem dX6_best_33 : decode cX6_best 33 = .ok (.aload_n 0, 1) := by decide +kernel
theorem dX6_best_34 : decode cX6_best 34 = .ok (.getfield 19, 3) := by decide +kernel
theorem dX6_best_37 : decode cX6_best 37 = .ok (.invokevirtual 231, 3) := by decide +kernel
theorem dX6_best_40 : decode cX6_best 40 = .ok (.lconst 0, 1) := by decide +kernel
theorem dX6_best_41 : decode cX6_best 41 = .ok (.lcmp, 1) := by decide +kernel
theorem dX6_best_42 : decode cX6_best 42 = .ok (.ifCond .eq 5, 3) := by decide +kernel
theorem dX6_best_45 : decode cX6_best 45 = .ok (.iconst (-1), 1) := by decide +kernel
theorem dX6_best_46 : decode cX6_best 46 = .ok (.ireturn, 1) := by decide +kernel
theorem dX6_best_47 : decode cX6_best 47 = .ok (.aload_n 0, 1) := by decide +kernel
theorem dX6_best_48 : decode cX6_best 48 = .ok (.getfield 44, 3) := by decide +kernel
theorem dX6_best_51 : decode cX6_best 51 = .ok (.invokevirtual 235, 3) := by decide +kernel
theorem dX6_best_54 : decode cX6_best 54 = .ok (.ireturn, 1) := by decide +kernel
theorem dX6_end_0 : decode cX6_end 0 = .ok (.iconst 0, 1) := by decide +kernel
theorem dX6_end_1 : decode cX6_end 1 = .ok (.istore_n 1, 1) := by decide +kernel
theorem dX6_end_2 : decode cX6_end 2 = .ok (.iconst 0, 1) := by decide +kernel
theorem dX6_end_3 : decode cX6_end 3 = .ok (.istore_n 2, 1) := by decide +kernel
theorem dX6_end_4 : decode cX6_end 4 = .ok (.iload_n 2, 1) := by decide +kernel
theorem dX6_end_5 : decode cX6_end 5 = .ok (.aload_n 0, 1) := by decide +kernel
theorem dX6_end_6 : decode cX6_end 6 = .ok (.getfield 19, 3) := by decide +kernel
theorem dX6_end_9 : decode cX6_end 9 = .ok (.getfield 95, 3) := by decide +kernel
theorem dX6_end_12 : decode cX6_end 12 = .ok (.if_icmp .ge 35, 3) := by decide +kernel
theorem dX6_end_15 : decode cX6_end 15 = .ok (.aload_n 0, 1) := by decide +kernel
theorem dX6_end_16 : decode cX6_end 16 = .ok (.getfield 19, 3) := by decide +kernel
theorem dX6_end_19 : decode cX6_end 19 = .ok (.getfield 166, 3) := by decide +kernel
theorem dX6_end_22 : decode cX6_end 22 = .ok (.iload_n 2, 1) := by decide +kernel
theorem dX6_end_23 : decode cX6_end 23 = .ok (.aaload, 1) := by decide +kernel
theorem dX6_end_24 : decode cX6_end 24 = .ok (.astore_n 3, 1) := by decide +kernel
theorem dX6_end_25 : decode cX6_end 25 = .ok (.aload_n 3, 1) := by decide +kernel
theorem dX6_end_26 : decode cX6_end 26 = .ok (.invokevirtual 154, 3) := by decide +kernel
theorem dX6_end_29 : decode cX6_end 29 = .ok (.ifCond .ne 12, 3) := by decide +kernel
theorem dX6_end_32 : decode cX6_end 32 = .ok (.iload_n 1, 1) := by decide +kernel
theorem dX6_end_33 : decode cX6_end 33 = .ok (.aload_n 3, 1) := by decide +kernel
theorem dX6_end_34 : decode cX6_end 34 = .ok (.invokevirtual 239, 3) := by decide +kernel
theorem dX6_end_37 : decode cX6_end 37 = .ok (.invokestatic 242, 3) := by decide +kernel
theorem dX6_end_40 : decode cX6_end 40 = .ok (.istore_n 1, 1) := by decide +kernel
theorem dX6_end_41 : decode cX6_end 41 = .ok (.iinc 2 1, 3) := by decide +kernel
theorem dX6_end_44 : decode cX6_end 44 = .ok (.goto (-40), 3) := by decide +kernel
theorem dX6_end_47 : decode cX6_end 47 = .ok (.iload_n 1, 1) := by decide +kernel
theorem dX6_end_48 : decode cX6_end 48 = .ok (.ireturn, 1) := by decide +kernel
theorem dX6_bound_0 : decode cX6_bound 0 = .ok (.aload_n 0, 1) := by decide +kernel
theorem dX6_bound_1 : decode cX6_bound 1 = .ok (.getfield 19, 3) := by decide +kernel
theorem dX6_bound_4 : decode cX6_bound 4 = .ok (.getfield 247, 3) := by decide +kernel
theorem dX6_bound_7 : decode cX6_bound 7 = .ok (.istore_n 1, 1) := by decide +kernel
theorem dX6_bound_8 : decode cX6_bound 8 = .ok (.iconst 0, 1) := by decide +kernel
theorem dX6_bound_9 : decode cX6_bound 9 = .ok (.istore_n 2, 1) := by decide +kernel
theorem dX6_bound_10 : decode cX6_bound 10 = .ok (.iload_n 2, 1) := by decide +kernel
theorem dX6_bound_11 : decode cX6_bound 11 = .ok (.iconst 4, 1) := by decide +kernel
theorem dX6_bound_12 : decode cX6_bound 12 = .ok (.if_icmp .ge 34, 3) := by decide +kernel
theorem dX6_bound_15 : decode cX6_bound 15 = .ok (.iload_n 1, 1) := by decide +kernel
theorem dX6_bound_16 : decode cX6_bound 16 = .ok (.aload_n 0, 1) := by decide +kernel
theorem dX6_bound_17 : decode cX6_bound 17 = .ok (.getfield 19, 3) := by decide +kernel
theorem dX6_bound_20 : decode cX6_bound 20 = .ok (.iload_n 2, 1) := by decide +kernel
theorem dX6_bound_21 : decode cX6_bound 21 = .ok (.invokevirtual 250, 3) := by decide +kernel
theorem dX6_bound_24 : decode cX6_bound 24 = .ok (.aload_n 0, 1) := by decide +kernel
theorem dX6_bound_25 : decode cX6_bound 25 = .ok (.getfield 35, 3) := by decide +kernel
theorem dX6_bound_28 : decode cX6_bound 28 = .ok (.getfield 74, 3) := by decide +kernel
theorem dX6_bound_31 : decode cX6_bound 31 = .ok (.iload_n 2, 1) := by decide +kernel
theorem dX6_bound_32 : decode cX6_bound 32 = .ok (.iaload, 1) := by decide +kernel
theorem dX6_bound_33 : decode cX6_bound 33 = .ok (.invokestatic 253, 3) := by decide +kernel
theorem dX6_bound_36 : decode cX6_bound 36 = .ok (.invokestatic 256, 3) := by decide +kernel
theorem dX6_bound_39 : decode cX6_bound 39 = .ok (.istore_n 1, 1) := by decide +kernel
theorem dX6_bound_40 : decode cX6_bound 40 = .ok (.iinc 2 1, 3) := by decide +kernel
theorem dX6_bound_43 : decode cX6_bound 43 = .ok (.goto (-33), 3) := by decide +kernel
theorem dX6_bound_46 : decode cX6_bound 46 = .ok (.iconst 0, 1) := by decide +kernel
theorem dX6_bound_47 : decode cX6_bound 47 = .ok (.istore_n 2, 1) := by decide +kernel
theorem dX6_bound_48 : decode cX6_bound 48 = .ok (.iload_n 2, 1) := by decide +kernel
theorem dX6_bound_49 : decode cX6_bound 49 = .ok (.iconst 4, 1) := by decide +kernel
theorem dX6_bound_50 : decode cX6_bound 50 = .ok (.if_icmp .ge 34, 3) := by decide +kernel
theorem dX6_bound_53 : decode cX6_bound 53 = .ok (.iload_n 1, 1) := by decide +kernel
theorem dX6_bound_54 : decode cX6_bound 54 = .ok (.aload_n 0, 1) := by decide +kernel
theorem dX6_bound_55 : decode cX6_bound 55 = .ok (.getfield 19, 3) := by decide +kernel
theorem dX6_bound_58 : decode cX6_bound 58 = .ok (.iload_n 2, 1) := by decide +kernel
theorem dX6_bound_59 : decode cX6_bound 59 = .ok (.invokevirtual 259, 3) := by decide +kernel
theorem dX6_bound_62 : decode cX6_bound 62 = .ok (.aload_n 0, 1) := by decide +kernel
theorem dX6_bound_63 : decode cX6_bound 63 = .ok (.getfield 35, 3) := by decide +kernel
theorem dX6_bound_66 : decode cX6_bound 66 = .ok (.getfield 81, 3) := by decide +kernel
theorem dX6_bound_69 : decode cX6_bound 69 = .ok (.iload_n 2, 1) := by decide +kernel
theorem dX6_bound_70 : decode cX6_bound 70 = .ok (.iaload, 1) := by decide +kernel
theorem dX6_bound_71 : decode cX6_bound 71 = .ok (.invokestatic 253, 3) := by decide +kernel
theorem dX6_bound_74 : decode cX6_bound 74 = .ok (.invokestatic 256, 3) := by decide +kernel
theorem dX6_bound_77 : decode cX6_bound 77 = .ok (.istore_n 1, 1) := by decide +kernel
theorem dX6_bound_78 : decode cX6_bound 78 = .ok (.iinc 2 1, 3) := by decide +kernel
theorem dX6_bound_81 : decode cX6_bound 81 = .ok (.goto (-33), 3) := by decide +kernel
theorem dX6_bound_84 : decode cX6_bound 84 = .ok (.iconst 0, 1) := by decide +kernel
theorem dX6_bound_85 : decode cX6_bound 85 = .ok (.istore_n 2, 1) := by decide +kernel
theorem dX6_bound_86 : decode cX6_bound 86 = .ok (.iload_n 2, 1) := by decide +kernel
theorem dX6_bound_87 : decode cX6_bound 87 = .ok (.aload_n 0, 1) := by decide +kernel
theorem dX6_bound_88 : decode cX6_bound 88 = .ok (.getfield 10, 3) := by decide +kernel
theorem dX6_bound_91 : decode cX6_bound 91 = .ok (.getfield 48, 3) := by decide +kernel
theorem dX6_bound_94 : decode cX6_bound 94 = .ok (.if_icmp .ge 34, 3) := by decide +kernel
theorem dX6_bound_97 : decode cX6_bound 97 = .ok (.iload_n 1, 1) := by decide +kernel
theorem dX6_bound_98 : decode cX6_bound 98 = .ok (.aload_n 0, 1) := by decide +kernel
theorem dX6_bound_99 : decode cX6_bound 99 = .ok (.getfield 19, 3) := by decide +kernel
theorem dX6_bound_102 : decode cX6_bound 102 = .ok (.iload_n 2, 1) := by decide +kernel
theorem dX6_bound_103 : decode cX6_bound 103 = .ok (.invokevirtual 262, 3) := by decide +kernel
theorem dX6_bound_106 : decode cX6_bound 106 = .ok (.aload_n 0, 1) := by decide +kernel
theorem dX6_bound_107 : decode cX6_bound 107 = .ok (.getfield 10, 3) := by decide +kernel
theorem dX6_bound_110 : decode cX6_bound 110 = .ok (.getfield 265, 3) := by decide +kernel
theorem dX6_bound_113 : decode cX6_bound 113 = .ok (.iload_n 2, 1) := by decide +kernel
theorem dX6_bound_114 : decode cX6_bound 114 = .ok (.iaload, 1) := by decide +kernel
theorem dX6_bound_115 : decode cX6_bound 115 = .ok (.invokestatic 253, 3) := by decide +kernel
theorem dX6_bound_118 : decode cX6_bound 118 = .ok (.invokestatic 256, 3) := by decide +kernel
theorem dX6_bound_121 : decode cX6_bound 121 = .ok (.istore_n 1, 1) := by decide +kernel
theorem dX6_bound_122 : decode cX6_bound 122 = .ok (.iinc 2 1, 3) := by decide +kernel
theorem dX6_bound_125 : decode cX6_bound 125 = .ok (.goto (-39), 3) := by decide +kernel
theorem dX6_bound_128 : decode cX6_bound 128 = .ok (.iload_n 1, 1) := by decide +kernel
theorem dX6_bound_129 : decode cX6_bound 129 = .ok (.ireturn, 1) := by decide +kernel
theorem dX6_go_0 : decode cX6_go 0 = .ok (.iload_n 1, 1) := by decide +kernel
theorem dX6_go_1 : decode cX6_go 1 = .ok (.ifCond .lt 10, 3) := by decide +kernel
theorem dX6_go_4 : decode cX6_go 4 = .ok (.iload_n 1, 1) := by decide +kernel
theorem dX6_go_5 : decode cX6_go 5 = .ok (.sipush 400, 3) := by decide +kernel
theorem dX6_go_8 : decode cX6_go 8 = .ok (.if_icmp .le 5, 3) := by decide +kernel
theorem dX6_go_11 : decode cX6_go 11 = .ok (.iconst (-1), 1) := by decide +kernel
theorem dX6_go_12 : decode cX6_go 12 = .ok (.ireturn, 1) := by decide +kernel
theorem dX6_go_13 : decode cX6_go 13 = .ok (.aload_n 0, 1) := by decide +kernel
theorem dX6_go_14 : decode cX6_go 14 = .ok (.getfield 26, 3) := by decide +kernel
theorem dX6_go_17 : decode cX6_go 17 = .ok (.sipush 400, 3) := by decide +kernel
theorem dX6_go_20 : decode cX6_go 20 = .ok (.aload_n 0, 1) := by decide +kernel
theorem dX6_go_21 : decode cX6_go 21 = .ok (.getfield 26, 3) := by decide +kernel
theorem dX6_go_24 : decode cX6_go 24 = .ok (.getfield 138, 3) := by decide +kernel
theorem dX6_go_27 : decode cX6_go 27 = .ok (.iload_n 1, 1) := by decide +kernel
theorem dX6_go_28 : decode cX6_go 28 = .ok (.iadd, 1) := by decide +kernel
theorem dX6_go_29 : decode cX6_go 29 = .ok (.invokestatic 268, 3) := by decide +kernel
theorem dX6_go_32 : decode cX6_go 32 = .ok (.putfield 138, 3) := by decide +kernel
theorem dX6_go_35 : decode cX6_go 35 = .ok (.aload_n 0, 1) := by decide +kernel
theorem dX6_go_36 : decode cX6_go 36 = .ok (.getfield 26, 3) := by decide +kernel
theorem dX6_go_39 : decode cX6_go 39 = .ok (.getfield 138, 3) := by decide +kernel
theorem dX6_go_42 : decode cX6_go 42 = .ok (.ireturn, 1) := by decide +kernel
theorem dX6_fail_0 : decode cX6_fail 0 = .ok (.aload_n 0, 1) := by decide +kernel
theorem dX6_fail_1 : decode cX6_fail 1 = .ok (.getfield 19, 3) := by decide +kernel
theorem dX6_fail_4 : decode cX6_fail 4 = .ok (.iload_n 1, 1) := by decide +kernel
theorem dX6_fail_5 : decode cX6_fail 5 = .ok (.invokevirtual 113, 3) := by decide +kernel
theorem dX6_fail_8 : decode cX6_fail 8 = .ok (.astore_n 2, 1) := by decide +kernel
theorem dX6_fail_9 : decode cX6_fail 9 = .ok (.aload_n 2, 1) := by decide +kernel
theorem dX6_fail_10 : decode cX6_fail 10 = .ok (.ifnull 25, 3) := by decide +kernel
theorem dX6_fail_13 : decode cX6_fail 13 = .ok (.aload_n 2, 1) := by decide +kernel
theorem dX6_fail_14 : decode cX6_fail 14 = .ok (.getfield 128, 3) := by decide +kernel
theorem dX6_fail_17 : decode cX6_fail 17 = .ok (.iconst 4, 1) := by decide +kernel
theorem dX6_fail_18 : decode cX6_fail 18 = .ok (.if_icmp .ne 17, 3) := by decide +kernel
theorem dX6_fail_21 : decode cX6_fail 21 = .ok (.aload_n 2, 1) := by decide +kernel
theorem dX6_fail_22 : decode cX6_fail 22 = .ok (.aload_n 0, 1) := by decide +kernel
theorem dX6_fail_23 : decode cX6_fail 23 = .ok (.getfield 26, 3) := by decide +kernel
theorem dX6_fail_26 : decode cX6_fail 26 = .ok (.getfield 138, 3) := by decide +kernel
theorem dX6_fail_29 : decode cX6_fail 29 = .ok (.invokevirtual 271, 3) := by decide +kernel
theorem dX6_fail_32 : decode cX6_fail 32 = .ok (.ifCond .ne 5, 3) := by decide +kernel
theorem dX6_fail_35 : decode cX6_fail 35 = .ok (.iconst (-1), 1) := by decide +kernel
theorem dX6_fail_36 : decode cX6_fail 36 = .ok (.ireturn, 1) := by decide +kernel
theorem dX6_fail_37 : decode cX6_fail 37 = .ok (.aload_n 0, 1) := by decide +kernel
theorem dX6_fail_38 : decode cX6_fail 38 = .ok (.getfield 19, 3) := by decide +kernel
theorem dX6_fail_41 : decode cX6_fail 41 = .ok (.aload_n 2, 1) := by decide +kernel
theorem dX6_fail_42 : decode cX6_fail 42 = .ok (.aload_n 0, 1) := by decide +kernel
theorem dX6_fail_43 : decode cX6_fail 43 = .ok (.getfield 26, 3) := by decide +kernel
theorem dX6_fail_46 : decode cX6_fail 46 = .ok (.getfield 138, 3) := by decide +kernel
theorem dX6_fail_49 : decode cX6_fail 49 = .ok (.invokevirtual 274, 3) := by decide +kernel
theorem dX6_fail_52 : decode cX6_fail 52 = .ok (.lstore_n 3, 1) := by decide +kernel
theorem dX6_fail_53 : decode cX6_fail 53 = .ok (.iconst 0, 1) := by decide +kernel
theorem dX6_fail_54 : decode cX6_fail 54 = .ok (.istore 5, 2) := by decide +kernel
theorem dX6_fail_56 : decode cX6_fail 56 = .ok (.iload 5, 2) := by decide +kernel
theorem dX6_fail_58 : decode cX6_fail 58 = .ok (.aload_n 0, 1) := by decide +kernel
theorem dX6_fail_59 : decode cX6_fail 59 = .ok (.getfield 19, 3) := by decide +kernel
theorem dX6_fail_62 : decode cX6_fail 62 = .ok (.getfield 95, 3) := by decide +kernel
theorem dX6_fail_65 : decode cX6_fail 65 = .ok (.if_icmp .ge 53, 3) := by decide +kernel
theorem dX6_fail_68 : decode cX6_fail 68 = .ok (.aload_n 0, 1) := by decide +kernel
theorem dX6_fail_69 : decode cX6_fail 69 = .ok (.getfield 19, 3) := by decide +kernel
theorem dX6_fail_72 : decode cX6_fail 72 = .ok (.getfield 166, 3) := by decide +kernel
theorem dX6_fail_75 : decode cX6_fail 75 = .ok (.iload 5, 2) := by decide +kernel
theorem dX6_fail_77 : decode cX6_fail 77 = .ok (.aaload, 1) := by decide +kernel
theorem dX6_fail_78 : decode cX6_fail 78 = .ok (.astore 6, 2) := by decide +kernel
theorem dX6_fail_80 : decode cX6_fail 80 = .ok (.lload_n 3, 1) := by decide +kernel
theorem dX6_fail_81 : decode cX6_fail 81 = .ok (.aload 6, 2) := by decide +kernel
theorem dX6_fail_83 : decode cX6_fail 83 = .ok (.getfield 135, 3) := by decide +kernel
theorem dX6_fail_86 : decode cX6_fail 86 = .ok (.land, 1) := by decide +kernel
theorem dX6_fail_87 : decode cX6_fail 87 = .ok (.lconst 0, 1) := by decide +kernel
theorem dX6_fail_88 : decode cX6_fail 88 = .ok (.lcmp, 1) := by decide +kernel
theorem dX6_fail_89 : decode cX6_fail 89 = .ok (.ifCond .eq 23, 3) := by decide +kernel
theorem dX6_fail_92 : decode cX6_fail 92 = .ok (.aload_n 0, 1) := by decide +kernel
theorem dX6_fail_93 : decode cX6_fail 93 = .ok (.getfield 26, 3) := by decide +kernel
theorem dX6_fail_96 : decode cX6_fail 96 = .ok (.aload 6, 2) := by decide +kernel
theorem dX6_fail_98 : decode cX6_fail 98 = .ok (.invokevirtual 147, 3) := by decide +kernel
theorem dX6_fail_101 : decode cX6_fail 101 = .ok (.aload 6, 2) := by decide +kernel
theorem dX6_fail_103 : decode cX6_fail 103 = .ok (.dup, 1) := by decide +kernel
theorem dX6_fail_104 : decode cX6_fail 104 = .ok (.getfield 214, 3) := by decide +kernel
theorem dX6_fail_107 : decode cX6_fail 107 = .ok (.iconst 1, 1) := by decide +kernel
theorem dX6_fail_108 : decode cX6_fail 108 = .ok (.iadd, 1) := by decide +kernel
theorem dX6_fail_109 : decode cX6_fail 109 = .ok (.putfield 214, 3) := by decide +kernel
theorem dX6_fail_112 : decode cX6_fail 112 = .ok (.iinc 5 1, 3) := by decide +kernel
theorem dX6_fail_115 : decode cX6_fail 115 = .ok (.goto (-59), 3) := by decide +kernel
theorem dX6_fail_118 : decode cX6_fail 118 = .ok (.lload_n 3, 1) := by decide +kernel
theorem dX6_fail_119 : decode cX6_fail 119 = .ok (.invokestatic 208, 3) := by decide +kernel
theorem dX6_fail_122 : decode cX6_fail 122 = .ok (.ireturn, 1) := by decide +kernel
theorem dX6_more_0 : decode cX6_more 0 = .ok (.aload_n 0, 1) := by decide +kernel
theorem dX6_more_1 : decode cX6_more 1 = .ok (.getfield 19, 3) := by decide +kernel
theorem dX6_more_4 : decode cX6_more 4 = .ok (.iload_n 1, 1) := by decide +kernel
theorem dX6_more_5 : decode cX6_more 5 = .ok (.invokevirtual 113, 3) := by decide +kernel
theorem dX6_more_8 : decode cX6_more 8 = .ok (.astore_n 3, 1) := by decide +kernel
theorem dX6_more_9 : decode cX6_more 9 = .ok (.aload_n 3, 1) := by decide +kernel
theorem dX6_more_10 : decode cX6_more 10 = .ok (.ifnull 33, 3) := by decide +kernel
theorem dX6_more_13 : decode cX6_more 13 = .ok (.aload_n 3, 1) := by decide +kernel
theorem dX6_more_14 : decode cX6_more 14 = .ok (.aload_n 0, 1) := by decide +kernel
theorem dX6_more_15 : decode cX6_more 15 = .ok (.getfield 26, 3) := by decide +kernel
theorem dX6_more_18 : decode cX6_more 18 = .ok (.getfield 138, 3) := by decide +kernel
theorem dX6_more_21 : decode cX6_more 21 = .ok (.invokevirtual 271, 3) := by decide +kernel
theorem dX6_more_24 : decode cX6_more 24 = .ok (.ifCond .ne 19, 3) := by decide +kernel
theorem dX6_more_27 : decode cX6_more 27 = .ok (.iload_n 2, 1) := by decide +kernel
theorem dX6_more_28 : decode cX6_more 28 = .ok (.iconst 1, 1) := by decide +kernel
theorem dX6_more_29 : decode cX6_more 29 = .ok (.if_icmp .lt 14, 3) := by decide +kernel
theorem dX6_more_32 : decode cX6_more 32 = .ok (.iload_n 2, 1) := by decide +kernel
theorem dX6_more_33 : decode cX6_more 33 = .ok (.bipush 40, 2) := by decide +kernel
theorem dX6_more_35 : decode cX6_more 35 = .ok (.aload_n 3, 1) := by decide +kernel
theorem dX6_more_36 : decode cX6_more 36 = .ok (.getfield 144, 3) := by decide +kernel
theorem dX6_more_39 : decode cX6_more 39 = .ok (.isub, 1) := by decide +kernel
theorem dX6_more_40 : decode cX6_more 40 = .ok (.if_icmp .le 5, 3) := by decide +kernel
theorem dX6_more_43 : decode cX6_more 43 = .ok (.iconst (-1), 1) := by decide +kernel
theorem dX6_more_44 : decode cX6_more 44 = .ok (.ireturn, 1) := by decide +kernel
theorem dX6_more_45 : decode cX6_more 45 = .ok (.aload_n 3, 1) := by decide +kernel
theorem dX6_more_46 : decode cX6_more 46 = .ok (.invokevirtual 154, 3) := by decide +kernel
theorem dX6_more_49 : decode cX6_more 49 = .ok (.ifCond .ne 17, 3) := by decide +kernel
theorem dX6_more_52 : decode cX6_more 52 = .ok (.aload_n 3, 1) := by decide +kernel
theorem dX6_more_53 : decode cX6_more 53 = .ok (.invokevirtual 239, 3) := by decide +kernel
theorem dX6_more_56 : decode cX6_more 56 = .ok (.iload_n 2, 1) := by decide +kernel
theorem dX6_more_57 : decode cX6_more 57 = .ok (.iadd, 1) := by decide +kernel
theorem dX6_more_58 : decode cX6_more 58 = .ok (.sipush 400, 3) := by decide +kernel
theorem dX6_more_61 : decode cX6_more 61 = .ok (.if_icmp .le 5, 3) := by decide +kernel
theorem dX6_more_64 : decode cX6_more 64 = .ok (.iconst (-1), 1) := by decide +kernel
theorem dX6_more_65 : decode cX6_more 65 = .ok (.ireturn, 1) := by decide +kernel
theorem dX6_more_66 : decode cX6_more 66 = .ok (.aload_n 0, 1) := by decide +kernel
theorem dX6_more_67 : decode cX6_more 67 = .ok (.getfield 26, 3) := by decide +kernel
theorem dX6_more_70 : decode cX6_more 70 = .ok (.aload_n 3, 1) := by decide +kernel
theorem dX6_more_71 : decode cX6_more 71 = .ok (.iload_n 2, 1) := by decide +kernel
theorem dX6_more_72 : decode cX6_more 72 = .ok (.invokevirtual 278, 3) := by decide +kernel
theorem dX6_more_75 : decode cX6_more 75 = .ok (.aload_n 0, 1) := by decide +kernel
theorem dX6_more_76 : decode cX6_more 76 = .ok (.getfield 19, 3) := by decide +kernel
theorem dX6_more_79 : decode cX6_more 79 = .ok (.invokevirtual 281, 3) := by decide +kernel
theorem dX6_more_82 : decode cX6_more 82 = .ok (.aload_n 3, 1) := by decide +kernel
theorem dX6_more_83 : decode cX6_more 83 = .ok (.getfield 144, 3) := by decide +kernel
theorem dX6_more_86 : decode cX6_more 86 = .ok (.ireturn, 1) := by decide +kernel
theorem dX6_count_0 : decode cX6_count 0 = .ok (.iload_n 1, 1) := by decide +kernel
theorem dX6_count_1 : decode cX6_count 1 = .ok (.tableswitch 120 0 6 #[43, 51, 59, 67, 86, 104, 112], 43) := by decide +kernel
theorem dX6_count_44 : decode cX6_count 44 = .ok (.aload_n 0, 1) := by decide +kernel
theorem dX6_count_45 : decode cX6_count 45 = .ok (.getfield 26, 3) := by decide +kernel
theorem dX6_count_48 : decode cX6_count 48 = .ok (.getfield 138, 3) := by decide +kernel
theorem dX6_count_51 : decode cX6_count 51 = .ok (.ireturn, 1) := by decide +kernel
theorem dX6_count_52 : decode cX6_count 52 = .ok (.aload_n 0, 1) := by decide +kernel
theorem dX6_count_53 : decode cX6_count 53 = .ok (.getfield 10, 3) := by decide +kernel
theorem dX6_count_56 : decode cX6_count 56 = .ok (.getfield 48, 3) := by decide +kernel
theorem dX6_count_59 : decode cX6_count 59 = .ok (.ireturn, 1) := by decide +kernel
theorem dX6_count_60 : decode cX6_count 60 = .ok (.aload_n 0, 1) := by decide +kernel
theorem dX6_count_61 : decode cX6_count 61 = .ok (.getfield 19, 3) := by decide +kernel
theorem dX6_count_64 : decode cX6_count 64 = .ok (.getfield 95, 3) := by decide +kernel
theorem dX6_count_67 : decode cX6_count 67 = .ok (.ireturn, 1) := by decide +kernel
theorem dX6_count_68 : decode cX6_count 68 = .ok (.aload_n 0, 1) := by decide +kernel
theorem dX6_count_69 : decode cX6_count 69 = .ok (.getfield 19, 3) := by decide +kernel
theorem dX6_count_72 : decode cX6_count 72 = .ok (.getfield 95, 3) := by decide +kernel
theorem dX6_count_75 : decode cX6_count 75 = .ok (.aload_n 0, 1) := by decide +kernel
theorem dX6_count_76 : decode cX6_count 76 = .ok (.getfield 19, 3) := by decide +kernel
theorem dX6_count_79 : decode cX6_count 79 = .ok (.invokevirtual 231, 3) := by decide +kernel
theorem dX6_count_82 : decode cX6_count 82 = .ok (.invokestatic 208, 3) := by decide +kernel
theorem dX6_count_85 : decode cX6_count 85 = .ok (.isub, 1) := by decide +kernel
theorem dX6_count_86 : decode cX6_count 86 = .ok (.ireturn, 1) := by decide +kernel
theorem dX6_count_87 : decode cX6_count 87 = .ok (.aload_n 0, 1) := by decide +kernel
theorem dX6_count_88 : decode cX6_count 88 = .ok (.getfield 19, 3) := by decide +kernel
theorem dX6_count_91 : decode cX6_count 91 = .ok (.aload_n 0, 1) := by decide +kernel
theorem dX6_count_92 : decode cX6_count 92 = .ok (.getfield 26, 3) := by decide +kernel
theorem dX6_count_95 : decode cX6_count 95 = .ok (.getfield 138, 3) := by decide +kernel
theorem dX6_count_98 : decode cX6_count 98 = .ok (.invokevirtual 284, 3) := by decide +kernel
theorem dX6_count_101 : decode cX6_count 101 = .ok (.invokestatic 208, 3) := by decide +kernel
theorem dX6_count_104 : decode cX6_count 104 = .ok (.ireturn, 1) := by decide +kernel
theorem dX6_count_105 : decode cX6_count 105 = .ok (.aload_n 0, 1) := by decide +kernel
theorem dX6_count_106 : decode cX6_count 106 = .ok (.getfield 10, 3) := by decide +kernel
theorem dX6_count_109 : decode cX6_count 109 = .ok (.getfield 288, 3) := by decide +kernel
theorem dX6_count_112 : decode cX6_count 112 = .ok (.ireturn, 1) := by decide +kernel
theorem dX6_count_113 : decode cX6_count 113 = .ok (.aload_n 0, 1) := by decide +kernel
theorem dX6_count_114 : decode cX6_count 114 = .ok (.getfield 19, 3) := by decide +kernel
theorem dX6_count_117 : decode cX6_count 117 = .ok (.getfield 247, 3) := by decide +kernel
theorem dX6_count_120 : decode cX6_count 120 = .ok (.ireturn, 1) := by decide +kernel
theorem dX6_count_121 : decode cX6_count 121 = .ok (.iconst (-1), 1) := by decide +kernel
theorem dX6_count_122 : decode cX6_count 122 = .ok (.ireturn, 1) := by decide +kernel
theorem dX6_isTrade_0 : decode cX6_isTrade 0 = .ok (.iload_n 0, 1) := by decide +kernel
theorem dX6_isTrade_1 : decode cX6_isTrade 1 = .ok (.ifCond .lt 12, 3) := by decide +kernel
theorem dX6_isTrade_4 : decode cX6_isTrade 4 = .ok (.iload_n 0, 1) := by decide +kernel
theorem dX6_isTrade_5 : decode cX6_isTrade 5 = .ok (.iconst 4, 1) := by decide +kernel
theorem dX6_isTrade_6 : decode cX6_isTrade 6 = .ok (.if_icmp .ge 7, 3) := by decide +kernel
theorem dX6_isTrade_9 : decode cX6_isTrade 9 = .ok (.iconst 1, 1) := by decide +kernel
theorem dX6_isTrade_10 : decode cX6_isTrade 10 = .ok (.goto 4, 3) := by decide +kernel
theorem dX6_isTrade_13 : decode cX6_isTrade 13 = .ok (.iconst 0, 1) := by decide +kernel
theorem dX6_isTrade_14 : decode cX6_isTrade 14 = .ok (.ireturn, 1) := by decide +kernel
theorem dX6_isGood_0 : decode cX6_isGood 0 = .ok (.iload_n 0, 1) := by decide +kernel
theorem dX6_isGood_1 : decode cX6_isGood 1 = .ok (.ifCond .lt 12, 3) := by decide +kernel
theorem dX6_isGood_4 : decode cX6_isGood 4 = .ok (.iload_n 0, 1) := by decide +kernel
theorem dX6_isGood_5 : decode cX6_isGood 5 = .ok (.iconst 4, 1) := by decide +kernel
theorem dX6_isGood_6 : decode cX6_isGood 6 = .ok (.if_icmp .ge 7, 3) := by decide +kernel
theorem dX6_isGood_9 : decode cX6_isGood 9 = .ok (.iconst 1, 1) := by decide +kernel
theorem dX6_isGood_10 : decode cX6_isGood 10 = .ok (.goto 4, 3) := by decide +kernel
theorem dX6_isGood_13 : decode cX6_isGood 13 = .ok (.iconst 0, 1) := by decide +kernel
theorem dX6_isGood_14 : decode cX6_isGood 14 = .ok (.ireturn, 1) := by decide +kernel
theorem dX6_isKind_0 : decode cX6_isKind 0 = .ok (.iload_n 0, 1) := by decide +kernel
theorem dX6_isKind_1 : decode cX6_isKind 1 = .ok (.ifCond .lt 12, 3) := by decide +kernel
theorem dX6_isKind_4 : decode cX6_isKind 4 = .ok (.iload_n 0, 1) := by decide +kernel
theorem dX6_isKind_5 : decode cX6_isKind 5 = .ok (.iconst 5, 1) := by decide +kernel
theorem dX6_isKind_6 : decode cX6_isKind 6 = .ok (.if_icmp .ge 7, 3) := by decide +kernel
theorem dX6_isKind_9 : decode cX6_isKind 9 = .ok (.iconst 1, 1) := by decide +kernel
theorem dX6_isKind_10 : decode cX6_isKind 10 = .ok (.goto 4, 3) := by decide +kernel
theorem dX6_isKind_13 : decode cX6_isKind 13 = .ok (.iconst 0, 1) := by decide +kernel
theorem dX6_isKind_14 : decode cX6_isKind 14 = .ok (.ireturn, 1) := by decide +kernel
theorem dX6_canBe_0 : decode cX6_canBe 0 = .ok (.aload_n 1, 1) := by decide +kernel
theorem dX6_canBe_1 : decode cX6_canBe 1 = .ok (.getfield 144, 3) := by decide +kernel
theorem dX6_canBe_4 : decode cX6_canBe 4 = .ok (.iconst 1, 1) := by decide +kernel
theorem dX6_canBe_5 : decode cX6_canBe 5 = .ok (.if_icmp .lt 58, 3) := by decide +kernel
theorem dX6_canBe_8 : decode cX6_canBe 8 = .ok (.aload_n 1, 1) := by decide +kernel
theorem dX6_canBe_9 : decode cX6_canBe 9 = .ok (.getfield 144, 3) := by decide +kernel
theorem dX6_canBe_12 : decode cX6_canBe 12 = .ok (.bipush 40, 2) := by decide +kernel
theorem dX6_canBe_14 : decode cX6_canBe 14 = .ok (.if_icmp .gt 49, 3) := by decide +kernel
theorem dX6_canBe_17 : decode cX6_canBe 17 = .ok (.aload_n 1, 1) := by decide +kernel
theorem dX6_canBe_18 : decode cX6_canBe 18 = .ok (.getfield 181, 3) := by decide +kernel
theorem dX6_canBe_21 : decode cX6_canBe 21 = .ok (.iconst 1, 1) := by decide +kernel
theorem dX6_canBe_22 : decode cX6_canBe 22 = .ok (.if_icmp .lt 41, 3) := by decide +kernel
theorem dX6_canBe_25 : decode cX6_canBe 25 = .ok (.aload_n 1, 1) := by decide +kernel
theorem dX6_canBe_26 : decode cX6_canBe 26 = .ok (.getfield 178, 3) := by decide +kernel
theorem dX6_canBe_29 : decode cX6_canBe 29 = .ok (.invokestatic 71, 3) := by decide +kernel
theorem dX6_canBe_32 : decode cX6_canBe 32 = .ok (.ifCond .eq 31, 3) := by decide +kernel
theorem dX6_canBe_35 : decode cX6_canBe 35 = .ok (.aload_n 1, 1) := by decide +kernel
theorem dX6_canBe_36 : decode cX6_canBe 36 = .ok (.getfield 128, 3) := by decide +kernel
theorem dX6_canBe_39 : decode cX6_canBe 39 = .ok (.invokestatic 84, 3) := by decide +kernel
theorem dX6_canBe_42 : decode cX6_canBe 42 = .ok (.ifCond .eq 21, 3) := by decide +kernel
theorem dX6_canBe_45 : decode cX6_canBe 45 = .ok (.aload_n 0, 1) := by decide +kernel
theorem dX6_canBe_46 : decode cX6_canBe 46 = .ok (.getfield 10, 3) := by decide +kernel
theorem dX6_canBe_49 : decode cX6_canBe 49 = .ok (.aload_n 1, 1) := by decide +kernel
theorem dX6_canBe_50 : decode cX6_canBe 50 = .ok (.getfield 184, 3) := by decide +kernel
theorem dX6_canBe_53 : decode cX6_canBe 53 = .ok (.invokevirtual 56, 3) := by decide +kernel
theorem dX6_canBe_56 : decode cX6_canBe 56 = .ok (.ifCond .eq 7, 3) := by decide +kernel
theorem dX6_canBe_59 : decode cX6_canBe 59 = .ok (.iconst 1, 1) := by decide +kernel
theorem dX6_canBe_60 : decode cX6_canBe 60 = .ok (.goto 4, 3) := by decide +kernel
theorem dX6_canBe_63 : decode cX6_canBe 63 = .ok (.iconst 0, 1) := by decide +kernel
theorem dX6_canBe_64 : decode cX6_canBe 64 = .ok (.ireturn, 1) := by decide +kernel
theorem dX6_mayLean_0 : decode cX6_mayLean 0 = .ok (.aload_n 1, 1) := by decide +kernel
theorem dX6_mayLean_1 : decode cX6_mayLean 1 = .ok (.aload_n 2, 1) := by decide +kernel
theorem dX6_mayLean_2 : decode cX6_mayLean 2 = .ok (.if_acmp .eq 29, 3) := by decide +kernel
theorem dX6_mayLean_5 : decode cX6_mayLean 5 = .ok (.aload_n 2, 1) := by decide +kernel
theorem dX6_mayLean_6 : decode cX6_mayLean 6 = .ok (.aload_n 1, 1) := by decide +kernel
theorem dX6_mayLean_7 : decode cX6_mayLean 7 = .ok (.invokevirtual 291, 3) := by decide +kernel
theorem dX6_mayLean_10 : decode cX6_mayLean 10 = .ok (.ifCond .ne 21, 3) := by decide +kernel
theorem dX6_mayLean_13 : decode cX6_mayLean 13 = .ok (.aload_n 1, 1) := by decide +kernel
theorem dX6_mayLean_14 : decode cX6_mayLean 14 = .ok (.aload_n 0, 1) := by decide +kernel
theorem dX6_mayLean_15 : decode cX6_mayLean 15 = .ok (.getfield 26, 3) := by decide +kernel
theorem dX6_mayLean_18 : decode cX6_mayLean 18 = .ok (.getfield 138, 3) := by decide +kernel
theorem dX6_mayLean_21 : decode cX6_mayLean 21 = .ok (.invokevirtual 141, 3) := by decide +kernel
theorem dX6_mayLean_24 : decode cX6_mayLean 24 = .ok (.ifCond .ne 7, 3) := by decide +kernel
theorem dX6_mayLean_27 : decode cX6_mayLean 27 = .ok (.iconst 1, 1) := by decide +kernel
theorem dX6_mayLean_28 : decode cX6_mayLean 28 = .ok (.goto 4, 3) := by decide +kernel
theorem dX6_mayLean_31 : decode cX6_mayLean 31 = .ok (.iconst 0, 1) := by decide +kernel
theorem dX6_mayLean_32 : decode cX6_mayLean 32 = .ok (.ireturn, 1) := by decide +kernel
theorem dX6_partOfBreak_0 : decode cX6_partOfBreak 0 = .ok (.iload_n 3, 1) := by decide +kernel
theorem dX6_partOfBreak_1 : decode cX6_partOfBreak 1 = .ok (.tableswitch 44 0 2 #[27, 32, 34], 27) := by decide +kernel
theorem dX6_partOfBreak_28 : decode cX6_partOfBreak 28 = .ok (.aload_n 1, 1) := by decide +kernel
theorem dX6_partOfBreak_29 : decode cX6_partOfBreak 29 = .ok (.getfield 110, 3) := by decide +kernel
theorem dX6_partOfBreak_32 : decode cX6_partOfBreak 32 = .ok (.ireturn, 1) := by decide +kernel
theorem dX6_partOfBreak_33 : decode cX6_partOfBreak 33 = .ok (.iload_n 2, 1) := by decide +kernel
theorem dX6_partOfBreak_34 : decode cX6_partOfBreak 34 = .ok (.ireturn, 1) := by decide +kernel
theorem dX6_partOfBreak_35 : decode cX6_partOfBreak 35 = .ok (.aload_n 0, 1) := by decide +kernel
theorem dX6_partOfBreak_36 : decode cX6_partOfBreak 36 = .ok (.getfield 35, 3) := by decide +kernel
theorem dX6_partOfBreak_39 : decode cX6_partOfBreak 39 = .ok (.aload_n 1, 1) := by decide +kernel
theorem dX6_partOfBreak_40 : decode cX6_partOfBreak 40 = .ok (.iload_n 2, 1) := by decide +kernel
theorem dX6_partOfBreak_41 : decode cX6_partOfBreak 41 = .ok (.invokevirtual 294, 3) := by decide +kernel
theorem dX6_partOfBreak_44 : decode cX6_partOfBreak 44 = .ok (.ireturn, 1) := by decide +kernel
theorem dX6_partOfBreak_45 : decode cX6_partOfBreak 45 = .ok (.iconst (-1), 1) := by decide +kernel
theorem dX6_partOfBreak_46 : decode cX6_partOfBreak 46 = .ok (.ireturn, 1) := by decide +kernel
theorem dX6_stateOf_0 : decode cX6_stateOf 0 = .ok (.aload_n 1, 1) := by decide +kernel
theorem dX6_stateOf_1 : decode cX6_stateOf 1 = .ok (.invokevirtual 154, 3) := by decide +kernel
theorem dX6_stateOf_4 : decode cX6_stateOf 4 = .ok (.ifCond .eq 5, 3) := by decide +kernel
theorem dX6_stateOf_7 : decode cX6_stateOf 7 = .ok (.iconst 0, 1) := by decide +kernel
theorem dX6_stateOf_8 : decode cX6_stateOf 8 = .ok (.ireturn, 1) := by decide +kernel
theorem dX6_stateOf_9 : decode cX6_stateOf 9 = .ok (.aload_n 1, 1) := by decide +kernel
theorem dX6_stateOf_10 : decode cX6_stateOf 10 = .ok (.aload_n 0, 1) := by decide +kernel
theorem dX6_stateOf_11 : decode cX6_stateOf 11 = .ok (.getfield 26, 3) := by decide +kernel
theorem dX6_stateOf_14 : decode cX6_stateOf 14 = .ok (.getfield 138, 3) := by decide +kernel
theorem dX6_stateOf_17 : decode cX6_stateOf 17 = .ok (.invokevirtual 271, 3) := by decide +kernel
theorem dX6_stateOf_20 : decode cX6_stateOf 20 = .ok (.ifCond .eq 5, 3) := by decide +kernel
theorem dX6_stateOf_23 : decode cX6_stateOf 23 = .ok (.iconst 3, 1) := by decide +kernel
theorem dX6_stateOf_24 : decode cX6_stateOf 24 = .ok (.ireturn, 1) := by decide +kernel
theorem dX6_stateOf_25 : decode cX6_stateOf 25 = .ok (.aload_n 1, 1) := by decide +kernel
theorem dX6_stateOf_26 : decode cX6_stateOf 26 = .ok (.aload_n 0, 1) := by decide +kernel
theorem dX6_stateOf_27 : decode cX6_stateOf 27 = .ok (.getfield 26, 3) := by decide +kernel
theorem dX6_stateOf_30 : decode cX6_stateOf 30 = .ok (.getfield 138, 3) := by decide +kernel
theorem dX6_stateOf_33 : decode cX6_stateOf 33 = .ok (.invokevirtual 141, 3) := by decide +kernel
theorem dX6_stateOf_36 : decode cX6_stateOf 36 = .ok (.ifCond .eq 7, 3) := by decide +kernel
theorem dX6_stateOf_39 : decode cX6_stateOf 39 = .ok (.iconst 2, 1) := by decide +kernel
theorem dX6_stateOf_40 : decode cX6_stateOf 40 = .ok (.goto 4, 3) := by decide +kernel
theorem dX6_stateOf_43 : decode cX6_stateOf 43 = .ok (.iconst 1, 1) := by decide +kernel
theorem dX6_stateOf_44 : decode cX6_stateOf 44 = .ok (.ireturn, 1) := by decide +kernel
theorem dX6_shiftsFor_0 : decode cX6_shiftsFor 0 = .ok (.iload_n 0, 1) := by decide +kernel
theorem dX6_shiftsFor_1 : decode cX6_shiftsFor 1 = .ok (.ifCond .ne 5, 3) := by decide +kernel
theorem dX6_shiftsFor_4 : decode cX6_shiftsFor 4 = .ok (.iconst 0, 1) := by decide +kernel
theorem dX6_shiftsFor_5 : decode cX6_shiftsFor 5 = .ok (.ireturn, 1) := by decide +kernel
theorem dX6_shiftsFor_6 : decode cX6_shiftsFor 6 = .ok (.iload_n 1, 1) := by decide +kernel
theorem dX6_shiftsFor_7 : decode cX6_shiftsFor 7 = .ok (.iconst 1, 1) := by decide +kernel
theorem dX6_shiftsFor_8 : decode cX6_shiftsFor 8 = .ok (.if_icmp .ge 7, 3) := by decide +kernel
theorem dX6_shiftsFor_11 : decode cX6_shiftsFor 11 = .ok (.iconst (-1), 1) := by decide +kernel
theorem dX6_shiftsFor_12 : decode cX6_shiftsFor 12 = .ok (.goto 10, 3) := by decide +kernel
theorem dX6_shiftsFor_15 : decode cX6_shiftsFor 15 = .ok (.iload_n 0, 1) := by decide +kernel
theorem dX6_shiftsFor_16 : decode cX6_shiftsFor 16 = .ok (.iload_n 1, 1) := by decide +kernel
theorem dX6_shiftsFor_17 : decode cX6_shiftsFor 17 = .ok (.iadd, 1) := by decide +kernel
theorem dX6_shiftsFor_18 : decode cX6_shiftsFor 18 = .ok (.iconst 1, 1) := by decide +kernel
theorem dX6_shiftsFor_19 : decode cX6_shiftsFor 19 = .ok (.isub, 1) := by decide +kernel
theorem dX6_shiftsFor_20 : decode cX6_shiftsFor 20 = .ok (.iload_n 1, 1) := by decide +kernel
theorem dX6_shiftsFor_21 : decode cX6_shiftsFor 21 = .ok (.idiv, 1) := by decide +kernel
theorem dX6_shiftsFor_22 : decode cX6_shiftsFor 22 = .ok (.ireturn, 1) := by decide +kernel
theorem dX6_greater_0 : decode cX6_greater 0 = .ok (.iload_n 0, 1) := by decide +kernel
theorem dX6_greater_1 : decode cX6_greater 1 = .ok (.iconst (-1), 1) := by decide +kernel
theorem dX6_greater_2 : decode cX6_greater 2 = .ok (.if_icmp .eq 8, 3) := by decide +kernel
theorem dX6_greater_5 : decode cX6_greater 5 = .ok (.iload_n 1, 1) := by decide +kernel
theorem dX6_greater_6 : decode cX6_greater 6 = .ok (.iconst (-1), 1) := by decide +kernel
theorem dX6_greater_7 : decode cX6_greater 7 = .ok (.if_icmp .ne 7, 3) := by decide +kernel
theorem dX6_greater_10 : decode cX6_greater 10 = .ok (.iconst (-1), 1) := by decide +kernel
theorem dX6_greater_11 : decode cX6_greater 11 = .ok (.goto 8, 3) := by decide +kernel
theorem dX6_greater_14 : decode cX6_greater 14 = .ok (.iload_n 0, 1) := by decide +kernel
theorem dX6_greater_15 : decode cX6_greater 15 = .ok (.iload_n 1, 1) := by decide +kernel
theorem dX6_greater_16 : decode cX6_greater 16 = .ok (.invokestatic 242, 3) := by decide +kernel
theorem dX6_greater_19 : decode cX6_greater 19 = .ok (.ireturn, 1) := by decide +kernel
theorem dX7_init_0 : decode cX7_init 0 = .ok (.aload_n 0, 1) := by decide +kernel
theorem dX7_init_1 : decode cX7_init 1 = .ok (.invokespecial 1, 3) := by decide +kernel
theorem dX7_init_4 : decode cX7_init 4 = .ok (.aload_n 0, 1) := by decide +kernel
theorem dX7_init_5 : decode cX7_init 5 = .ok (.bipush 20, 2) := by decide +kernel
theorem dX7_init_7 : decode cX7_init 7 = .ok (.newarray .int, 2) := by decide +kernel
theorem dX7_init_9 : decode cX7_init 9 = .ok (.putfield 9, 3) := by decide +kernel
theorem dX7_init_12 : decode cX7_init 12 = .ok (.aload_n 0, 1) := by decide +kernel
theorem dX7_init_13 : decode cX7_init 13 = .ok (.sipush 400, 3) := by decide +kernel
theorem dX7_init_16 : decode cX7_init 16 = .ok (.newarray .boolean, 2) := by decide +kernel
theorem dX7_init_18 : decode cX7_init 18 = .ok (.putfield 13, 3) := by decide +kernel
theorem dX7_init_21 : decode cX7_init 21 = .ok (.aload_n 0, 1) := by decide +kernel
theorem dX7_init_22 : decode cX7_init 22 = .ok (.iconst 4, 1) := by decide +kernel
theorem dX7_init_23 : decode cX7_init 23 = .ok (.newarray .int, 2) := by decide +kernel
theorem dX7_init_25 : decode cX7_init 25 = .ok (.dup, 1) := by decide +kernel
theorem dX7_init_26 : decode cX7_init 26 = .ok (.iconst 0, 1) := by decide +kernel
theorem dX7_init_27 : decode cX7_init 27 = .ok (.iconst 4, 1) := by decide +kernel
theorem dX7_init_28 : decode cX7_init 28 = .ok (.iastore, 1) := by decide +kernel
theorem dX7_init_29 : decode cX7_init 29 = .ok (.dup, 1) := by decide +kernel
theorem dX7_init_30 : decode cX7_init 30 = .ok (.iconst 1, 1) := by decide +kernel
theorem dX7_init_31 : decode cX7_init 31 = .ok (.iconst 4, 1) := by decide +kernel
theorem dX7_init_32 : decode cX7_init 32 = .ok (.iastore, 1) := by decide +kernel
theorem dX7_init_33 : decode cX7_init 33 = .ok (.dup, 1) := by decide +kernel
theorem dX7_init_34 : decode cX7_init 34 = .ok (.iconst 2, 1) := by decide +kernel
theorem dX7_init_35 : decode cX7_init 35 = .ok (.iconst 4, 1) := by decide +kernel
theorem dX7_init_36 : decode cX7_init 36 = .ok (.iastore, 1) := by decide +kernel
theorem dX7_init_37 : decode cX7_init 37 = .ok (.dup, 1) := by decide +kernel
theorem dX7_init_38 : decode cX7_init 38 = .ok (.iconst 3, 1) := by decide +kernel
theorem dX7_init_39 : decode cX7_init 39 = .ok (.iconst 4, 1) := by decide +kernel
theorem dX7_init_40 : decode cX7_init 40 = .ok (.iastore, 1) := by decide +kernel
theorem dX7_init_41 : decode cX7_init 41 = .ok (.putfield 17, 3) := by decide +kernel
theorem dX7_init_44 : decode cX7_init 44 = .ok (.aload_n 0, 1) := by decide +kernel
theorem dX7_init_45 : decode cX7_init 45 = .ok (.iconst 4, 1) := by decide +kernel
theorem dX7_init_46 : decode cX7_init 46 = .ok (.newarray .int, 2) := by decide +kernel
theorem dX7_init_48 : decode cX7_init 48 = .ok (.dup, 1) := by decide +kernel
theorem dX7_init_49 : decode cX7_init 49 = .ok (.iconst 0, 1) := by decide +kernel
theorem dX7_init_50 : decode cX7_init 50 = .ok (.iconst 1, 1) := by decide +kernel
theorem dX7_init_51 : decode cX7_init 51 = .ok (.iastore, 1) := by decide +kernel
theorem dX7_init_52 : decode cX7_init 52 = .ok (.dup, 1) := by decide +kernel
theorem dX7_init_53 : decode cX7_init 53 = .ok (.iconst 1, 1) := by decide +kernel
theorem dX7_init_54 : decode cX7_init 54 = .ok (.iconst 1, 1) := by decide +kernel
theorem dX7_init_55 : decode cX7_init 55 = .ok (.iastore, 1) := by decide +kernel
theorem dX7_init_56 : decode cX7_init 56 = .ok (.dup, 1) := by decide +kernel
theorem dX7_init_57 : decode cX7_init 57 = .ok (.iconst 2, 1) := by decide +kernel
theorem dX7_init_58 : decode cX7_init 58 = .ok (.iconst 1, 1) := by decide +kernel
theorem dX7_init_59 : decode cX7_init 59 = .ok (.iastore, 1) := by decide +kernel
theorem dX7_init_60 : decode cX7_init 60 = .ok (.dup, 1) := by decide +kernel
theorem dX7_init_61 : decode cX7_init 61 = .ok (.iconst 3, 1) := by decide +kernel
theorem dX7_init_62 : decode cX7_init 62 = .ok (.iconst 1, 1) := by decide +kernel
theorem dX7_init_63 : decode cX7_init 63 = .ok (.iastore, 1) := by decide +kernel
theorem dX7_init_64 : decode cX7_init 64 = .ok (.putfield 20, 3) := by decide +kernel
theorem dX7_init_67 : decode cX7_init 67 = .ok (.aload_n 0, 1) := by decide +kernel
theorem dX7_init_68 : decode cX7_init 68 = .ok (.bipush 25, 2) := by decide +kernel
theorem dX7_init_70 : decode cX7_init 70 = .ok (.newarray .int, 2) := by decide +kernel
theorem dX7_init_72 : decode cX7_init 72 = .ok (.putfield 23, 3) := by decide +kernel
theorem dX7_init_75 : decode cX7_init 75 = .ok (.aload_n 0, 1) := by decide +kernel
theorem dX7_init_76 : decode cX7_init 76 = .ok (.bipush 40, 2) := by decide +kernel
theorem dX7_init_78 : decode cX7_init 78 = .ok (.newarray .int, 2) := by decide +kernel
theorem dX7_init_80 : decode cX7_init 80 = .ok (.putfield 26, 3) := by decide +kernel
theorem dX7_init_83 : decode cX7_init 83 = .ok (.aload_n 0, 1) := by decide +kernel
theorem dX7_init_84 : decode cX7_init 84 = .ok (.bipush 40, 2) := by decide +kernel
theorem dX7_init_86 : decode cX7_init 86 = .ok (.newarray .int, 2) := by decide +kernel
theorem dX7_init_88 : decode cX7_init 88 = .ok (.putfield 29, 3) := by decide +kernel
theorem dX7_init_91 : decode cX7_init 91 = .ok (.aload_n 0, 1) := by decide +kernel
theorem dX7_init_92 : decode cX7_init 92 = .ok (.bipush 40, 2) := by decide +kernel
theorem dX7_init_94 : decode cX7_init 94 = .ok (.newarray .int, 2) := by decide +kernel
theorem dX7_init_96 : decode cX7_init 96 = .ok (.putfield 32, 3) := by decide +kernel
theorem dX7_init_99 : decode cX7_init 99 = .ok (.aload_n 0, 1) := by decide +kernel
theorem dX7_init_100 : decode cX7_init 100 = .ok (.bipush 40, 2) := by decide +kernel
theorem dX7_init_102 : decode cX7_init 102 = .ok (.newarray .int, 2) := by decide +kernel
theorem dX7_init_104 : decode cX7_init 104 = .ok (.putfield 35, 3) := by decide +kernel
theorem dX7_init_107 : decode cX7_init 107 = .ok (.aload_n 0, 1) := by decide +kernel
theorem dX7_init_108 : decode cX7_init 108 = .ok (.bipush 40, 2) := by decide +kernel
theorem dX7_init_110 : decode cX7_init 110 = .ok (.newarray .int, 2) := by decide +kernel
theorem dX7_init_112 : decode cX7_init 112 = .ok (.putfield 38, 3) := by decide +kernel
theorem dX7_init_115 : decode cX7_init 115 = .ok (.aload_n 0, 1) := by decide +kernel
theorem dX7_init_116 : decode cX7_init 116 = .ok (.bipush 40, 2) := by decide +kernel
theorem dX7_init_118 : decode cX7_init 118 = .ok (.newarray .int, 2) := by decide +kernel
theorem dX7_init_120 : decode cX7_init 120 = .ok (.putfield 41, 3) := by decide +kernel
theorem dX7_init_123 : decode cX7_init 123 = .ok (.aload_n 0, 1) := by decide +kernel
theorem dX7_init_124 : decode cX7_init 124 = .ok (.bipush 40, 2) := by decide +kernel
theorem dX7_init_126 : decode cX7_init 126 = .ok (.newarray .int, 2) := by decide +kernel
theorem dX7_init_128 : decode cX7_init 128 = .ok (.putfield 44, 3) := by decide +kernel
theorem dX7_init_131 : decode cX7_init 131 = .ok (.aload_n 0, 1) := by decide +kernel
theorem dX7_init_132 : decode cX7_init 132 = .ok (.bipush 40, 2) := by decide +kernel
theorem dX7_init_134 : decode cX7_init 134 = .ok (.newarray .int, 2) := by decide +kernel
theorem dX7_init_136 : decode cX7_init 136 = .ok (.putfield 47, 3) := by decide +kernel
theorem dX7_init_139 : decode cX7_init 139 = .ok (.aload_n 0, 1) := by decide +kernel
theorem dX7_init_140 : decode cX7_init 140 = .ok (.sipush 1600, 3) := by decide +kernel
theorem dX7_init_143 : decode cX7_init 143 = .ok (.newarray .boolean, 2) := by decide +kernel
theorem dX7_init_145 : decode cX7_init 145 = .ok (.putfield 50, 3) := by decide +kernel
theorem dX7_init_148 : decode cX7_init 148 = .ok (.aload_n 0, 1) := by decide +kernel
theorem dX7_init_149 : decode cX7_init 149 = .ok (.sipush 1600, 3) := by decide +kernel
theorem dX7_init_152 : decode cX7_init 152 = .ok (.newarray .boolean, 2) := by decide +kernel
theorem dX7_init_154 : decode cX7_init 154 = .ok (.putfield 53, 3) := by decide +kernel
theorem dX7_init_157 : decode cX7_init 157 = .ok (.aload_n 0, 1) := by decide +kernel
theorem dX7_init_158 : decode cX7_init 158 = .ok (.bipush 40, 2) := by decide +kernel
theorem dX7_init_160 : decode cX7_init 160 = .ok (.newarray .boolean, 2) := by decide +kernel
theorem dX7_init_162 : decode cX7_init 162 = .ok (.putfield 56, 3) := by decide +kernel
theorem dX7_init_165 : decode cX7_init 165 = .ok (.aload_n 0, 1) := by decide +kernel
theorem dX7_init_166 : decode cX7_init 166 = .ok (.bipush 40, 2) := by decide +kernel
theorem dX7_init_168 : decode cX7_init 168 = .ok (.newarray .int, 2) := by decide +kernel
theorem dX7_init_170 : decode cX7_init 170 = .ok (.putfield 59, 3) := by decide +kernel
theorem dX7_init_173 : decode cX7_init 173 = .ok (.aload_n 0, 1) := by decide +kernel
theorem dX7_init_174 : decode cX7_init 174 = .ok (.bipush 40, 2) := by decide +kernel
theorem dX7_init_176 : decode cX7_init 176 = .ok (.newarray .int, 2) := by decide +kernel
theorem dX7_init_178 : decode cX7_init 178 = .ok (.putfield 62, 3) := by decide +kernel
theorem dX7_init_181 : decode cX7_init 181 = .ok (.aload_n 0, 1) := by decide +kernel
theorem dX7_init_182 : decode cX7_init 182 = .ok (.bipush 6, 2) := by decide +kernel
theorem dX7_init_184 : decode cX7_init 184 = .ok (.newarray .int, 2) := by decide +kernel
theorem dX7_init_186 : decode cX7_init 186 = .ok (.putfield 65, 3) := by decide +kernel
theorem dX7_init_189 : decode cX7_init 189 = .ok (.aload_n 0, 1) := by decide +kernel
theorem dX7_init_190 : decode cX7_init 190 = .ok (.bipush 7, 2) := by decide +kernel
theorem dX7_init_192 : decode cX7_init 192 = .ok (.newarray .int, 2) := by decide +kernel
theorem dX7_init_194 : decode cX7_init 194 = .ok (.putfield 68, 3) := by decide +kernel
theorem dX7_init_197 : decode cX7_init 197 = .ok (.aload_n 0, 1) := by decide +kernel
theorem dX7_init_198 : decode cX7_init 198 = .ok (.bipush 6, 2) := by decide +kernel
theorem dX7_init_200 : decode cX7_init 200 = .ok (.newarray .int, 2) := by decide +kernel
theorem dX7_init_202 : decode cX7_init 202 = .ok (.putfield 71, 3) := by decide +kernel
theorem dX7_init_205 : decode cX7_init 205 = .ok (.return_, 1) := by decide +kernel
theorem dX7_in_0 : decode cX7_in 0 = .ok (.iload_n 0, 1) := by decide +kernel
theorem dX7_in_1 : decode cX7_in 1 = .ok (.iload_n 1, 1) := by decide +kernel
theorem dX7_in_2 : decode cX7_in 2 = .ok (.if_icmp .lt 12, 3) := by decide +kernel
theorem dX7_in_5 : decode cX7_in 5 = .ok (.iload_n 0, 1) := by decide +kernel
theorem dX7_in_6 : decode cX7_in 6 = .ok (.iload_n 2, 1) := by decide +kernel
theorem dX7_in_7 : decode cX7_in 7 = .ok (.if_icmp .gt 7, 3) := by decide +kernel
theorem dX7_in_10 : decode cX7_in 10 = .ok (.iconst 1, 1) := by decide +kernel
theorem dX7_in_11 : decode cX7_in 11 = .ok (.goto 4, 3) := by decide +kernel
theorem dX7_in_14 : decode cX7_in 14 = .ok (.iconst 0, 1) := by decide +kernel
theorem dX7_in_15 : decode cX7_in 15 = .ok (.ireturn, 1) := by decide +kernel
theorem dX7_isWork_0 : decode cX7_isWork 0 = .ok (.iload_n 1, 1) := by decide +kernel
theorem dX7_isWork_1 : decode cX7_isWork 1 = .ok (.iconst 0, 1) := by decide +kernel
theorem dX7_isWork_2 : decode cX7_isWork 2 = .ok (.aload_n 0, 1) := by decide +kernel
theorem dX7_isWork_3 : decode cX7_isWork 3 = .ok (.getfield 74, 3) := by decide +kernel
theorem dX7_isWork_6 : decode cX7_isWork 6 = .ok (.iconst 1, 1) := by decide +kernel
theorem dX7_isWork_7 : decode cX7_isWork 7 = .ok (.isub, 1) := by decide +kernel
theorem dX7_isWork_8 : decode cX7_isWork 8 = .ok (.invokestatic 78, 3) := by decide +kernel
theorem dX7_isWork_11 : decode cX7_isWork 11 = .ok (.ireturn, 1) := by decide +kernel
theorem dX7_space_0 : decode cX7_space 0 = .ok (.iload_n 1, 1) := by decide +kernel
theorem dX7_space_1 : decode cX7_space 1 = .ok (.iconst 1, 1) := by decide +kernel
theorem dX7_space_2 : decode cX7_space 2 = .ok (.bipush 9, 2) := by decide +kernel
theorem dX7_space_4 : decode cX7_space 4 = .ok (.invokestatic 78, 3) := by decide +kernel
theorem dX7_space_7 : decode cX7_space 7 = .ok (.ifCond .eq 12, 3) := by decide +kernel
theorem dX7_space_10 : decode cX7_space 10 = .ok (.aload_n 0, 1) := by decide +kernel
theorem dX7_space_11 : decode cX7_space 11 = .ok (.getfield 82, 3) := by decide +kernel
theorem dX7_space_14 : decode cX7_space 14 = .ok (.bipush 20, 2) := by decide +kernel
theorem dX7_space_16 : decode cX7_space 16 = .ok (.if_icmp .ne 5, 3) := by decide +kernel
theorem dX7_space_19 : decode cX7_space 19 = .ok (.iconst (-1), 1) := by decide +kernel
theorem dX7_space_20 : decode cX7_space 20 = .ok (.ireturn, 1) := by decide +kernel
theorem dX7_space_21 : decode cX7_space 21 = .ok (.aload_n 0, 1) := by decide +kernel
theorem dX7_space_22 : decode cX7_space 22 = .ok (.getfield 9, 3) := by decide +kernel
theorem dX7_space_25 : decode cX7_space 25 = .ok (.aload_n 0, 1) := by decide +kernel
theorem dX7_space_26 : decode cX7_space 26 = .ok (.getfield 82, 3) := by decide +kernel
theorem dX7_space_29 : decode cX7_space 29 = .ok (.iload_n 1, 1) := by decide +kernel
theorem dX7_space_30 : decode cX7_space 30 = .ok (.iastore, 1) := by decide +kernel
theorem dX7_space_31 : decode cX7_space 31 = .ok (.aload_n 0, 1) := by decide +kernel
theorem dX7_space_32 : decode cX7_space 32 = .ok (.dup, 1) := by decide +kernel
theorem dX7_space_33 : decode cX7_space 33 = .ok (.getfield 82, 3) := by decide +kernel
theorem dX7_space_36 : decode cX7_space 36 = .ok (.iconst 1, 1) := by decide +kernel
theorem dX7_space_37 : decode cX7_space 37 = .ok (.iadd, 1) := by decide +kernel
theorem dX7_space_38 : decode cX7_space 38 = .ok (.putfield 82, 3) := by decide +kernel
theorem dX7_space_41 : decode cX7_space 41 = .ok (.aload_n 0, 1) := by decide +kernel
theorem dX7_space_42 : decode cX7_space 42 = .ok (.getfield 82, 3) := by decide +kernel
theorem dX7_space_45 : decode cX7_space 45 = .ok (.iconst 1, 1) := by decide +kernel
theorem dX7_space_46 : decode cX7_space 46 = .ok (.isub, 1) := by decide +kernel
theorem dX7_space_47 : decode cX7_space 47 = .ok (.ireturn, 1) := by decide +kernel
theorem dX7_near_0 : decode cX7_near 0 = .ok (.iload_n 1, 1) := by decide +kernel
theorem dX7_near_1 : decode cX7_near 1 = .ok (.iconst 0, 1) := by decide +kernel
theorem dX7_near_2 : decode cX7_near 2 = .ok (.aload_n 0, 1) := by decide +kernel
theorem dX7_near_3 : decode cX7_near 3 = .ok (.getfield 82, 3) := by decide +kernel
theorem dX7_near_6 : decode cX7_near 6 = .ok (.iconst 1, 1) := by decide +kernel
theorem dX7_near_7 : decode cX7_near 7 = .ok (.isub, 1) := by decide +kernel
theorem dX7_near_8 : decode cX7_near 8 = .ok (.invokestatic 78, 3) := by decide +kernel
theorem dX7_near_11 : decode cX7_near 11 = .ok (.ifCond .eq 36, 3) := by decide +kernel
theorem dX7_near_14 : decode cX7_near 14 = .ok (.iload_n 2, 1) := by decide +kernel
theorem dX7_near_15 : decode cX7_near 15 = .ok (.iconst 0, 1) := by decide +kernel
theorem dX7_near_16 : decode cX7_near 16 = .ok (.aload_n 0, 1) := by decide +kernel
theorem dX7_near_17 : decode cX7_near 17 = .ok (.getfield 82, 3) := by decide +kernel
theorem dX7_near_20 : decode cX7_near 20 = .ok (.iconst 1, 1) := by decide +kernel
theorem dX7_near_21 : decode cX7_near 21 = .ok (.isub, 1) := by decide +kernel
theorem dX7_near_22 : decode cX7_near 22 = .ok (.invokestatic 78, 3) := by decide +kernel
theorem dX7_near_25 : decode cX7_near 25 = .ok (.ifCond .eq 22, 3) := by decide +kernel
theorem dX7_near_28 : decode cX7_near 28 = .ok (.iload_n 1, 1) := by decide +kernel
theorem dX7_near_29 : decode cX7_near 29 = .ok (.iload_n 2, 1) := by decide +kernel
theorem dX7_near_30 : decode cX7_near 30 = .ok (.if_icmp .eq 17, 3) := by decide +kernel
theorem dX7_near_33 : decode cX7_near 33 = .ok (.aload_n 0, 1) := by decide +kernel
theorem dX7_near_34 : decode cX7_near 34 = .ok (.getfield 13, 3) := by decide +kernel
theorem dX7_near_37 : decode cX7_near 37 = .ok (.bipush 20, 2) := by decide +kernel
theorem dX7_near_39 : decode cX7_near 39 = .ok (.iload_n 1, 1) := by decide +kernel
theorem dX7_near_40 : decode cX7_near 40 = .ok (.imul, 1) := by decide +kernel
theorem dX7_near_41 : decode cX7_near 41 = .ok (.iload_n 2, 1) := by decide +kernel
theorem dX7_near_42 : decode cX7_near 42 = .ok (.iadd, 1) := by decide +kernel
theorem dX7_near_43 : decode cX7_near 43 = .ok (.baload, 1) := by decide +kernel
theorem dX7_near_44 : decode cX7_near 44 = .ok (.ifCond .eq 5, 3) := by decide +kernel
theorem dX7_near_47 : decode cX7_near 47 = .ok (.iconst 0, 1) := by decide +kernel
theorem dX7_near_48 : decode cX7_near 48 = .ok (.ireturn, 1) := by decide +kernel
theorem dX7_near_49 : decode cX7_near 49 = .ok (.aload_n 0, 1) := by decide +kernel
theorem dX7_near_50 : decode cX7_near 50 = .ok (.getfield 13, 3) := by decide +kernel
theorem dX7_near_53 : decode cX7_near 53 = .ok (.bipush 20, 2) := by decide +kernel
theorem dX7_near_55 : decode cX7_near 55 = .ok (.iload_n 1, 1) := by decide +kernel
theorem dX7_near_56 : decode cX7_near 56 = .ok (.imul, 1) := by decide +kernel
theorem dX7_near_57 : decode cX7_near 57 = .ok (.iload_n 2, 1) := by decide +kernel
theorem dX7_near_58 : decode cX7_near 58 = .ok (.iadd, 1) := by decide +kernel
theorem dX7_near_59 : decode cX7_near 59 = .ok (.iconst 1, 1) := by decide +kernel
theorem dX7_near_60 : decode cX7_near 60 = .ok (.bastore, 1) := by decide +kernel
theorem dX7_near_61 : decode cX7_near 61 = .ok (.aload_n 0, 1) := by decide +kernel
theorem dX7_near_62 : decode cX7_near 62 = .ok (.getfield 13, 3) := by decide +kernel
theorem dX7_near_65 : decode cX7_near 65 = .ok (.bipush 20, 2) := by decide +kernel
theorem dX7_near_67 : decode cX7_near 67 = .ok (.iload_n 2, 1) := by decide +kernel
theorem dX7_near_68 : decode cX7_near 68 = .ok (.imul, 1) := by decide +kernel
theorem dX7_near_69 : decode cX7_near 69 = .ok (.iload_n 1, 1) := by decide +kernel
theorem dX7_near_70 : decode cX7_near 70 = .ok (.iadd, 1) := by decide +kernel
theorem dX7_near_71 : decode cX7_near 71 = .ok (.iconst 1, 1) := by decide +kernel
theorem dX7_near_72 : decode cX7_near 72 = .ok (.bastore, 1) := by decide +kernel
theorem dX7_near_73 : decode cX7_near 73 = .ok (.iconst 1, 1) := by decide +kernel
theorem dX7_near_74 : decode cX7_near 74 = .ok (.ireturn, 1) := by decide +kernel
theorem dX7_gang_0 : decode cX7_gang 0 = .ok (.iload_n 1, 1) := by decide +kernel
theorem dX7_gang_1 : decode cX7_gang 1 = .ok (.iconst 0, 1) := by decide +kernel
theorem dX7_gang_2 : decode cX7_gang 2 = .ok (.iconst 3, 1) := by decide +kernel
theorem dX7_gang_3 : decode cX7_gang 3 = .ok (.invokestatic 78, 3) := by decide +kernel
theorem dX7_gang_6 : decode cX7_gang 6 = .ok (.ifCond .eq 13, 3) := by decide +kernel
theorem dX7_gang_9 : decode cX7_gang 9 = .ok (.iload_n 2, 1) := by decide +kernel
theorem dX7_gang_10 : decode cX7_gang 10 = .ok (.iconst 0, 1) := by decide +kernel
theorem dX7_gang_11 : decode cX7_gang 11 = .ok (.bipush 99, 2) := by decide +kernel
theorem dX7_gang_13 : decode cX7_gang 13 = .ok (.invokestatic 78, 3) := by decide +kernel
theorem dX7_gang_16 : decode cX7_gang 16 = .ok (.ifCond .ne 5, 3) := by decide +kernel
theorem dX7_gang_19 : decode cX7_gang 19 = .ok (.iconst 0, 1) := by decide +kernel
theorem dX7_gang_20 : decode cX7_gang 20 = .ok (.ireturn, 1) := by decide +kernel
theorem dX7_gang_21 : decode cX7_gang 21 = .ok (.aload_n 0, 1) := by decide +kernel
theorem dX7_gang_22 : decode cX7_gang 22 = .ok (.getfield 17, 3) := by decide +kernel
theorem dX7_gang_25 : decode cX7_gang 25 = .ok (.iload_n 1, 1) := by decide +kernel
theorem dX7_gang_26 : decode cX7_gang 26 = .ok (.iload_n 2, 1) := by decide +kernel
theorem dX7_gang_27 : decode cX7_gang 27 = .ok (.iastore, 1) := by decide +kernel
theorem dX7_gang_28 : decode cX7_gang 28 = .ok (.iconst 1, 1) := by decide +kernel
theorem dX7_gang_29 : decode cX7_gang 29 = .ok (.ireturn, 1) := by decide +kernel
theorem dX7_good_0 : decode cX7_good 0 = .ok (.iload_n 1, 1) := by decide +kernel
theorem dX7_good_1 : decode cX7_good 1 = .ok (.iconst 0, 1) := by decide +kernel
theorem dX7_good_2 : decode cX7_good 2 = .ok (.iconst 3, 1) := by decide +kernel
theorem dX7_good_3 : decode cX7_good 3 = .ok (.invokestatic 78, 3) := by decide +kernel
theorem dX7_good_6 : decode cX7_good 6 = .ok (.ifCond .eq 13, 3) := by decide +kernel
theorem dX7_good_9 : decode cX7_good 9 = .ok (.iload_n 2, 1) := by decide +kernel
theorem dX7_good_10 : decode cX7_good 10 = .ok (.iconst 0, 1) := by decide +kernel
theorem dX7_good_11 : decode cX7_good 11 = .ok (.bipush 9, 2) := by decide +kernel
theorem dX7_good_13 : decode cX7_good 13 = .ok (.invokestatic 78, 3) := by decide +kernel
theorem dX7_good_16 : decode cX7_good 16 = .ok (.ifCond .ne 5, 3) := by decide +kernel
theorem dX7_good_19 : decode cX7_good 19 = .ok (.iconst 0, 1) := by decide +kernel
theorem dX7_good_20 : decode cX7_good 20 = .ok (.ireturn, 1) := by decide +kernel
theorem dX7_good_21 : decode cX7_good 21 = .ok (.aload_n 0, 1) := by decide +kernel
theorem dX7_good_22 : decode cX7_good 22 = .ok (.getfield 20, 3) := by decide +kernel
theorem dX7_good_25 : decode cX7_good 25 = .ok (.iload_n 1, 1) := by decide +kernel
theorem dX7_good_26 : decode cX7_good 26 = .ok (.iload_n 2, 1) := by decide +kernel
theorem dX7_good_27 : decode cX7_good 27 = .ok (.iastore, 1) := by decide +kernel
theorem dX7_good_28 : decode cX7_good 28 = .ok (.iconst 1, 1) := by decide +kernel
theorem dX7_good_29 : decode cX7_good 29 = .ok (.ireturn, 1) := by decide +kernel
theorem dX7_bar_0 : decode cX7_bar 0 = .ok (.iload_n 1, 1) := by decide +kernel
theorem dX7_bar_1 : decode cX7_bar 1 = .ok (.iconst 0, 1) := by decide +kernel
theorem dX7_bar_2 : decode cX7_bar 2 = .ok (.iconst 4, 1) := by decide +kernel
theorem dX7_bar_3 : decode cX7_bar 3 = .ok (.invokestatic 78, 3) := by decide +kernel
theorem dX7_bar_6 : decode cX7_bar 6 = .ok (.ifCond .eq 39, 3) := by decide +kernel
theorem dX7_bar_9 : decode cX7_bar 9 = .ok (.iload_n 2, 1) := by decide +kernel
theorem dX7_bar_10 : decode cX7_bar 10 = .ok (.iconst 0, 1) := by decide +kernel
theorem dX7_bar_11 : decode cX7_bar 11 = .ok (.iconst 4, 1) := by decide +kernel
theorem dX7_bar_12 : decode cX7_bar 12 = .ok (.invokestatic 78, 3) := by decide +kernel
theorem dX7_bar_15 : decode cX7_bar 15 = .ok (.ifCond .eq 30, 3) := by decide +kernel
theorem dX7_bar_18 : decode cX7_bar 18 = .ok (.iload_n 3, 1) := by decide +kernel
theorem dX7_bar_19 : decode cX7_bar 19 = .ok (.iconst 0, 1) := by decide +kernel
theorem dX7_bar_20 : decode cX7_bar 20 = .ok (.iconst 2, 1) := by decide +kernel
