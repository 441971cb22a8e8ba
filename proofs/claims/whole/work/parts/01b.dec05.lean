theorem dX7_isBroken_260 : decode cX7_isBroken 260 = .ok (.iload 4, 2) := by decide +kernel
theorem dX7_isBroken_262 : decode cX7_isBroken 262 = .ok (.aload_n 0, 1) := by decide +kernel
theorem dX7_isBroken_263 : decode cX7_isBroken 263 = .ok (.getfield 9, 3) := by decide +kernel
theorem dX7_isBroken_266 : decode cX7_isBroken 266 = .ok (.aload_n 0, 1) := by decide +kernel
theorem dX7_isBroken_267 : decode cX7_isBroken 267 = .ok (.getfield 35, 3) := by decide +kernel
theorem dX7_isBroken_270 : decode cX7_isBroken 270 = .ok (.iload_n 1, 1) := by decide +kernel
theorem dX7_isBroken_271 : decode cX7_isBroken 271 = .ok (.iaload, 1) := by decide +kernel
theorem dX7_isBroken_272 : decode cX7_isBroken 272 = .ok (.iaload, 1) := by decide +kernel
theorem dX7_isBroken_273 : decode cX7_isBroken 273 = .ok (.if_icmp .le 7, 3) := by decide +kernel
theorem dX7_isBroken_276 : decode cX7_isBroken 276 = .ok (.iconst 1, 1) := by decide +kernel
theorem dX7_isBroken_277 : decode cX7_isBroken 277 = .ok (.goto 17, 3) := by decide +kernel
theorem dX7_isBroken_280 : decode cX7_isBroken 280 = .ok (.iconst 0, 1) := by decide +kernel
theorem dX7_isBroken_281 : decode cX7_isBroken 281 = .ok (.goto 13, 3) := by decide +kernel
theorem dX7_isBroken_284 : decode cX7_isBroken 284 = .ok (.iload 4, 2) := by decide +kernel
theorem dX7_isBroken_286 : decode cX7_isBroken 286 = .ok (.ifCond .le 7, 3) := by decide +kernel
theorem dX7_isBroken_289 : decode cX7_isBroken 289 = .ok (.iconst 1, 1) := by decide +kernel
theorem dX7_isBroken_290 : decode cX7_isBroken 290 = .ok (.goto 4, 3) := by decide +kernel
theorem dX7_isBroken_293 : decode cX7_isBroken 293 = .ok (.iconst 0, 1) := by decide +kernel
theorem dX7_isBroken_294 : decode cX7_isBroken 294 = .ok (.ireturn, 1) := by decide +kernel
theorem dX7_isBad_0 : decode cX7_isBad 0 = .ok (.iconst 0, 1) := by decide +kernel
theorem dX7_isBad_1 : decode cX7_isBad 1 = .ok (.istore_n 2, 1) := by decide +kernel
theorem dX7_isBad_2 : decode cX7_isBad 2 = .ok (.iconst 1, 1) := by decide +kernel
theorem dX7_isBad_3 : decode cX7_isBad 3 = .ok (.istore_n 3, 1) := by decide +kernel
theorem dX7_isBad_4 : decode cX7_isBad 4 = .ok (.iload_n 3, 1) := by decide +kernel
theorem dX7_isBad_5 : decode cX7_isBad 5 = .ok (.iconst 5, 1) := by decide +kernel
theorem dX7_isBad_6 : decode cX7_isBad 6 = .ok (.if_icmp .gt 29, 3) := by decide +kernel
theorem dX7_isBad_9 : decode cX7_isBad 9 = .ok (.iload_n 2, 1) := by decide +kernel
theorem dX7_isBad_10 : decode cX7_isBad 10 = .ok (.ifCond .ne 25, 3) := by decide +kernel
theorem dX7_isBad_13 : decode cX7_isBad 13 = .ok (.aload_n 0, 1) := by decide +kernel
theorem dX7_isBad_14 : decode cX7_isBad 14 = .ok (.iload_n 1, 1) := by decide +kernel
theorem dX7_isBad_15 : decode cX7_isBad 15 = .ok (.iload_n 3, 1) := by decide +kernel
theorem dX7_isBad_16 : decode cX7_isBad 16 = .ok (.invokevirtual 122, 3) := by decide +kernel
theorem dX7_isBad_19 : decode cX7_isBad 19 = .ok (.iconst (-1), 1) := by decide +kernel
theorem dX7_isBad_20 : decode cX7_isBad 20 = .ok (.if_icmp .eq 7, 3) := by decide +kernel
theorem dX7_isBad_23 : decode cX7_isBad 23 = .ok (.iconst 1, 1) := by decide +kernel
theorem dX7_isBad_24 : decode cX7_isBad 24 = .ok (.goto 4, 3) := by decide +kernel
theorem dX7_isBad_27 : decode cX7_isBad 27 = .ok (.iconst 0, 1) := by decide +kernel
theorem dX7_isBad_28 : decode cX7_isBad 28 = .ok (.istore_n 2, 1) := by decide +kernel
theorem dX7_isBad_29 : decode cX7_isBad 29 = .ok (.iinc 3 1, 3) := by decide +kernel
theorem dX7_isBad_32 : decode cX7_isBad 32 = .ok (.goto (-28), 3) := by decide +kernel
theorem dX7_isBad_35 : decode cX7_isBad 35 = .ok (.iload_n 2, 1) := by decide +kernel
theorem dX7_isBad_36 : decode cX7_isBad 36 = .ok (.ireturn, 1) := by decide +kernel
theorem dX7_why_0 : decode cX7_why 0 = .ok (.iload_n 1, 1) := by decide +kernel
theorem dX7_why_1 : decode cX7_why 1 = .ok (.iconst 0, 1) := by decide +kernel
theorem dX7_why_2 : decode cX7_why 2 = .ok (.iconst 2, 1) := by decide +kernel
theorem dX7_why_3 : decode cX7_why 3 = .ok (.invokestatic 78, 3) := by decide +kernel
theorem dX7_why_6 : decode cX7_why 6 = .ok (.ifCond .ne 5, 3) := by decide +kernel
theorem dX7_why_9 : decode cX7_why 9 = .ok (.iconst (-1), 1) := by decide +kernel
theorem dX7_why_10 : decode cX7_why 10 = .ok (.ireturn, 1) := by decide +kernel
theorem dX7_why_11 : decode cX7_why 11 = .ok (.iconst 0, 1) := by decide +kernel
theorem dX7_why_12 : decode cX7_why 12 = .ok (.istore_n 2, 1) := by decide +kernel
theorem dX7_why_13 : decode cX7_why 13 = .ok (.iload_n 2, 1) := by decide +kernel
theorem dX7_why_14 : decode cX7_why 14 = .ok (.aload_n 0, 1) := by decide +kernel
theorem dX7_why_15 : decode cX7_why 15 = .ok (.getfield 74, 3) := by decide +kernel
theorem dX7_why_18 : decode cX7_why 18 = .ok (.if_icmp .ge 64, 3) := by decide +kernel
theorem dX7_why_21 : decode cX7_why 21 = .ok (.iconst 1, 1) := by decide +kernel
theorem dX7_why_22 : decode cX7_why 22 = .ok (.istore_n 3, 1) := by decide +kernel
theorem dX7_why_23 : decode cX7_why 23 = .ok (.iload_n 3, 1) := by decide +kernel
theorem dX7_why_24 : decode cX7_why 24 = .ok (.iconst 5, 1) := by decide +kernel
theorem dX7_why_25 : decode cX7_why 25 = .ok (.if_icmp .gt 51, 3) := by decide +kernel
theorem dX7_why_28 : decode cX7_why 28 = .ok (.aload_n 0, 1) := by decide +kernel
theorem dX7_why_29 : decode cX7_why 29 = .ok (.iload_n 2, 1) := by decide +kernel
theorem dX7_why_30 : decode cX7_why 30 = .ok (.invokevirtual 89, 3) := by decide +kernel
theorem dX7_why_33 : decode cX7_why 33 = .ok (.ifCond .eq 43, 3) := by decide +kernel
theorem dX7_why_36 : decode cX7_why 36 = .ok (.aload_n 0, 1) := by decide +kernel
theorem dX7_why_37 : decode cX7_why 37 = .ok (.iload_n 2, 1) := by decide +kernel
theorem dX7_why_38 : decode cX7_why 38 = .ok (.iload_n 3, 1) := by decide +kernel
theorem dX7_why_39 : decode cX7_why 39 = .ok (.invokevirtual 122, 3) := by decide +kernel
theorem dX7_why_42 : decode cX7_why 42 = .ok (.istore 4, 2) := by decide +kernel
theorem dX7_why_44 : decode cX7_why 44 = .ok (.iload 4, 2) := by decide +kernel
theorem dX7_why_46 : decode cX7_why 46 = .ok (.iconst (-1), 1) := by decide +kernel
theorem dX7_why_47 : decode cX7_why 47 = .ok (.if_icmp .eq 23, 3) := by decide +kernel
theorem dX7_why_50 : decode cX7_why 50 = .ok (.iload_n 1, 1) := by decide +kernel
theorem dX7_why_51 : decode cX7_why 51 = .ok (.ifCond .ne 7, 3) := by decide +kernel
theorem dX7_why_54 : decode cX7_why 54 = .ok (.iload_n 2, 1) := by decide +kernel
theorem dX7_why_55 : decode cX7_why 55 = .ok (.goto 14, 3) := by decide +kernel
theorem dX7_why_58 : decode cX7_why 58 = .ok (.iload_n 1, 1) := by decide +kernel
theorem dX7_why_59 : decode cX7_why 59 = .ok (.iconst 1, 1) := by decide +kernel
theorem dX7_why_60 : decode cX7_why 60 = .ok (.if_icmp .ne 7, 3) := by decide +kernel
theorem dX7_why_63 : decode cX7_why 63 = .ok (.iload_n 3, 1) := by decide +kernel
theorem dX7_why_64 : decode cX7_why 64 = .ok (.goto 5, 3) := by decide +kernel
theorem dX7_why_67 : decode cX7_why 67 = .ok (.iload 4, 2) := by decide +kernel
theorem dX7_why_69 : decode cX7_why 69 = .ok (.ireturn, 1) := by decide +kernel
theorem dX7_why_70 : decode cX7_why 70 = .ok (.iinc 3 1, 3) := by decide +kernel
theorem dX7_why_73 : decode cX7_why 73 = .ok (.goto (-50), 3) := by decide +kernel
theorem dX7_why_76 : decode cX7_why 76 = .ok (.iinc 2 1, 3) := by decide +kernel
theorem dX7_why_79 : decode cX7_why 79 = .ok (.goto (-66), 3) := by decide +kernel
theorem dX7_why_82 : decode cX7_why 82 = .ok (.iconst (-1), 1) := by decide +kernel
theorem dX7_why_83 : decode cX7_why 83 = .ok (.ireturn, 1) := by decide +kernel
theorem dX7_may_0 : decode cX7_may 0 = .ok (.aload_n 0, 1) := by decide +kernel
theorem dX7_may_1 : decode cX7_may 1 = .ok (.iload_n 1, 1) := by decide +kernel
theorem dX7_may_2 : decode cX7_may 2 = .ok (.invokevirtual 100, 3) := by decide +kernel
theorem dX7_may_5 : decode cX7_may 5 = .ok (.ifCond .eq 33, 3) := by decide +kernel
theorem dX7_may_8 : decode cX7_may 8 = .ok (.aload_n 0, 1) := by decide +kernel
theorem dX7_may_9 : decode cX7_may 9 = .ok (.iload_n 1, 1) := by decide +kernel
theorem dX7_may_10 : decode cX7_may 10 = .ok (.invokevirtual 103, 3) := by decide +kernel
theorem dX7_may_13 : decode cX7_may 13 = .ok (.ifCond .ne 25, 3) := by decide +kernel
theorem dX7_may_16 : decode cX7_may 16 = .ok (.iload_n 2, 1) := by decide +kernel
theorem dX7_may_17 : decode cX7_may 17 = .ok (.aload_n 0, 1) := by decide +kernel
theorem dX7_may_18 : decode cX7_may 18 = .ok (.getfield 93, 3) := by decide +kernel
theorem dX7_may_21 : decode cX7_may 21 = .ok (.if_icmp .lt 17, 3) := by decide +kernel
theorem dX7_may_24 : decode cX7_may 24 = .ok (.iload_n 2, 1) := by decide +kernel
theorem dX7_may_25 : decode cX7_may 25 = .ok (.sipush 400, 3) := by decide +kernel
theorem dX7_may_28 : decode cX7_may 28 = .ok (.aload_n 0, 1) := by decide +kernel
theorem dX7_may_29 : decode cX7_may 29 = .ok (.getfield 26, 3) := by decide +kernel
theorem dX7_may_32 : decode cX7_may 32 = .ok (.iload_n 1, 1) := by decide +kernel
theorem dX7_may_33 : decode cX7_may 33 = .ok (.iaload, 1) := by decide +kernel
theorem dX7_may_34 : decode cX7_may 34 = .ok (.isub, 1) := by decide +kernel
theorem dX7_may_35 : decode cX7_may 35 = .ok (.if_icmp .le 5, 3) := by decide +kernel
theorem dX7_may_38 : decode cX7_may 38 = .ok (.iconst 0, 1) := by decide +kernel
theorem dX7_may_39 : decode cX7_may 39 = .ok (.ireturn, 1) := by decide +kernel
theorem dX7_may_40 : decode cX7_may 40 = .ok (.aload_n 0, 1) := by decide +kernel
theorem dX7_may_41 : decode cX7_may 41 = .ok (.getfield 44, 3) := by decide +kernel
theorem dX7_may_44 : decode cX7_may 44 = .ok (.iload_n 1, 1) := by decide +kernel
theorem dX7_may_45 : decode cX7_may 45 = .ok (.iaload, 1) := by decide +kernel
theorem dX7_may_46 : decode cX7_may 46 = .ok (.istore_n 3, 1) := by decide +kernel
theorem dX7_may_47 : decode cX7_may 47 = .ok (.aload_n 0, 1) := by decide +kernel
theorem dX7_may_48 : decode cX7_may 48 = .ok (.getfield 44, 3) := by decide +kernel
theorem dX7_may_51 : decode cX7_may 51 = .ok (.iload_n 1, 1) := by decide +kernel
theorem dX7_may_52 : decode cX7_may 52 = .ok (.iload_n 2, 1) := by decide +kernel
theorem dX7_may_53 : decode cX7_may 53 = .ok (.iastore, 1) := by decide +kernel
theorem dX7_may_54 : decode cX7_may 54 = .ok (.aload_n 0, 1) := by decide +kernel
theorem dX7_may_55 : decode cX7_may 55 = .ok (.iload_n 1, 1) := by decide +kernel
theorem dX7_may_56 : decode cX7_may 56 = .ok (.invokevirtual 126, 3) := by decide +kernel
theorem dX7_may_59 : decode cX7_may 59 = .ok (.ifCond .ne 7, 3) := by decide +kernel
theorem dX7_may_62 : decode cX7_may 62 = .ok (.iconst 1, 1) := by decide +kernel
theorem dX7_may_63 : decode cX7_may 63 = .ok (.goto 4, 3) := by decide +kernel
theorem dX7_may_66 : decode cX7_may 66 = .ok (.iconst 0, 1) := by decide +kernel
theorem dX7_may_67 : decode cX7_may 67 = .ok (.istore 4, 2) := by decide +kernel
theorem dX7_may_69 : decode cX7_may 69 = .ok (.iconst 0, 1) := by decide +kernel
theorem dX7_may_70 : decode cX7_may 70 = .ok (.istore 5, 2) := by decide +kernel
theorem dX7_may_72 : decode cX7_may 72 = .ok (.iload 5, 2) := by decide +kernel
theorem dX7_may_74 : decode cX7_may 74 = .ok (.aload_n 0, 1) := by decide +kernel
theorem dX7_may_75 : decode cX7_may 75 = .ok (.getfield 74, 3) := by decide +kernel
theorem dX7_may_78 : decode cX7_may 78 = .ok (.if_icmp .ge 60, 3) := by decide +kernel
theorem dX7_may_81 : decode cX7_may 81 = .ok (.iload 4, 2) := by decide +kernel
theorem dX7_may_83 : decode cX7_may 83 = .ok (.ifCond .eq 55, 3) := by decide +kernel
theorem dX7_may_86 : decode cX7_may 86 = .ok (.aload_n 0, 1) := by decide +kernel
theorem dX7_may_87 : decode cX7_may 87 = .ok (.getfield 50, 3) := by decide +kernel
theorem dX7_may_90 : decode cX7_may 90 = .ok (.bipush 40, 2) := by decide +kernel
theorem dX7_may_92 : decode cX7_may 92 = .ok (.iload 5, 2) := by decide +kernel
theorem dX7_may_94 : decode cX7_may 94 = .ok (.imul, 1) := by decide +kernel
theorem dX7_may_95 : decode cX7_may 95 = .ok (.iload_n 1, 1) := by decide +kernel
theorem dX7_may_96 : decode cX7_may 96 = .ok (.iadd, 1) := by decide +kernel
theorem dX7_may_97 : decode cX7_may 97 = .ok (.baload, 1) := by decide +kernel
theorem dX7_may_98 : decode cX7_may 98 = .ok (.ifCond .eq 27, 3) := by decide +kernel
theorem dX7_may_101 : decode cX7_may 101 = .ok (.aload_n 0, 1) := by decide +kernel
theorem dX7_may_102 : decode cX7_may 102 = .ok (.iload 5, 2) := by decide +kernel
theorem dX7_may_104 : decode cX7_may 104 = .ok (.invokevirtual 89, 3) := by decide +kernel
theorem dX7_may_107 : decode cX7_may 107 = .ok (.ifCond .eq 18, 3) := by decide +kernel
theorem dX7_may_110 : decode cX7_may 110 = .ok (.aload_n 0, 1) := by decide +kernel
theorem dX7_may_111 : decode cX7_may 111 = .ok (.iload_n 1, 1) := by decide +kernel
theorem dX7_may_112 : decode cX7_may 112 = .ok (.invokevirtual 96, 3) := by decide +kernel
theorem dX7_may_115 : decode cX7_may 115 = .ok (.aload_n 0, 1) := by decide +kernel
theorem dX7_may_116 : decode cX7_may 116 = .ok (.getfield 44, 3) := by decide +kernel
theorem dX7_may_119 : decode cX7_may 119 = .ok (.iload 5, 2) := by decide +kernel
theorem dX7_may_121 : decode cX7_may 121 = .ok (.iaload, 1) := by decide +kernel
theorem dX7_may_122 : decode cX7_may 122 = .ok (.if_icmp .gt 7, 3) := by decide +kernel
theorem dX7_may_125 : decode cX7_may 125 = .ok (.iconst 1, 1) := by decide +kernel
theorem dX7_may_126 : decode cX7_may 126 = .ok (.goto 4, 3) := by decide +kernel
theorem dX7_may_129 : decode cX7_may 129 = .ok (.iconst 0, 1) := by decide +kernel
theorem dX7_may_130 : decode cX7_may 130 = .ok (.istore 4, 2) := by decide +kernel
theorem dX7_may_132 : decode cX7_may 132 = .ok (.iinc 5 1, 3) := by decide +kernel
theorem dX7_may_135 : decode cX7_may 135 = .ok (.goto (-63), 3) := by decide +kernel
theorem dX7_may_138 : decode cX7_may 138 = .ok (.aload_n 0, 1) := by decide +kernel
theorem dX7_may_139 : decode cX7_may 139 = .ok (.getfield 44, 3) := by decide +kernel
theorem dX7_may_142 : decode cX7_may 142 = .ok (.iload_n 1, 1) := by decide +kernel
theorem dX7_may_143 : decode cX7_may 143 = .ok (.iload_n 3, 1) := by decide +kernel
theorem dX7_may_144 : decode cX7_may 144 = .ok (.iastore, 1) := by decide +kernel
theorem dX7_may_145 : decode cX7_may 145 = .ok (.iload 4, 2) := by decide +kernel
theorem dX7_may_147 : decode cX7_may 147 = .ok (.ireturn, 1) := by decide +kernel
theorem dX7_first_0 : decode cX7_first 0 = .ok (.iload_n 2, 1) := by decide +kernel
theorem dX7_first_1 : decode cX7_first 1 = .ok (.aload_n 0, 1) := by decide +kernel
theorem dX7_first_2 : decode cX7_first 2 = .ok (.getfield 93, 3) := by decide +kernel
theorem dX7_first_5 : decode cX7_first 5 = .ok (.if_icmp .le 7, 3) := by decide +kernel
theorem dX7_first_8 : decode cX7_first 8 = .ok (.iload_n 2, 1) := by decide +kernel
theorem dX7_first_9 : decode cX7_first 9 = .ok (.goto 7, 3) := by decide +kernel
theorem dX7_first_12 : decode cX7_first 12 = .ok (.aload_n 0, 1) := by decide +kernel
theorem dX7_first_13 : decode cX7_first 13 = .ok (.getfield 93, 3) := by decide +kernel
theorem dX7_first_16 : decode cX7_first 16 = .ok (.istore_n 3, 1) := by decide +kernel
theorem dX7_first_17 : decode cX7_first 17 = .ok (.iload_n 3, 1) := by decide +kernel
theorem dX7_first_18 : decode cX7_first 18 = .ok (.sipush 400, 3) := by decide +kernel
theorem dX7_first_21 : decode cX7_first 21 = .ok (.if_icmp .ge 20, 3) := by decide +kernel
theorem dX7_first_24 : decode cX7_first 24 = .ok (.aload_n 0, 1) := by decide +kernel
theorem dX7_first_25 : decode cX7_first 25 = .ok (.iload_n 1, 1) := by decide +kernel
theorem dX7_first_26 : decode cX7_first 26 = .ok (.iload_n 3, 1) := by decide +kernel
theorem dX7_first_27 : decode cX7_first 27 = .ok (.invokevirtual 129, 3) := by decide +kernel
theorem dX7_first_30 : decode cX7_first 30 = .ok (.ifCond .eq 5, 3) := by decide +kernel
theorem dX7_first_33 : decode cX7_first 33 = .ok (.iload_n 3, 1) := by decide +kernel
theorem dX7_first_34 : decode cX7_first 34 = .ok (.ireturn, 1) := by decide +kernel
theorem dX7_first_35 : decode cX7_first 35 = .ok (.iinc 3 1, 3) := by decide +kernel
theorem dX7_first_38 : decode cX7_first 38 = .ok (.goto (-21), 3) := by decide +kernel
theorem dX7_first_41 : decode cX7_first 41 = .ok (.iconst (-1), 1) := by decide +kernel
theorem dX7_first_42 : decode cX7_first 42 = .ok (.ireturn, 1) := by decide +kernel
theorem dX7_way_0 : decode cX7_way 0 = .ok (.iconst 0, 1) := by decide +kernel
theorem dX7_way_1 : decode cX7_way 1 = .ok (.istore_n 1, 1) := by decide +kernel
theorem dX7_way_2 : decode cX7_way 2 = .ok (.iload_n 1, 1) := by decide +kernel
theorem dX7_way_3 : decode cX7_way 3 = .ok (.aload_n 0, 1) := by decide +kernel
theorem dX7_way_4 : decode cX7_way 4 = .ok (.getfield 74, 3) := by decide +kernel
theorem dX7_way_7 : decode cX7_way 7 = .ok (.if_icmp .ge 23, 3) := by decide +kernel
theorem dX7_way_10 : decode cX7_way 10 = .ok (.aload_n 0, 1) := by decide +kernel
theorem dX7_way_11 : decode cX7_way 11 = .ok (.getfield 59, 3) := by decide +kernel
theorem dX7_way_14 : decode cX7_way 14 = .ok (.iload_n 1, 1) := by decide +kernel
theorem dX7_way_15 : decode cX7_way 15 = .ok (.iconst 0, 1) := by decide +kernel
theorem dX7_way_16 : decode cX7_way 16 = .ok (.iastore, 1) := by decide +kernel
theorem dX7_way_17 : decode cX7_way 17 = .ok (.aload_n 0, 1) := by decide +kernel
theorem dX7_way_18 : decode cX7_way 18 = .ok (.getfield 62, 3) := by decide +kernel
theorem dX7_way_21 : decode cX7_way 21 = .ok (.iload_n 1, 1) := by decide +kernel
theorem dX7_way_22 : decode cX7_way 22 = .ok (.iconst 0, 1) := by decide +kernel
theorem dX7_way_23 : decode cX7_way 23 = .ok (.iastore, 1) := by decide +kernel
theorem dX7_way_24 : decode cX7_way 24 = .ok (.iinc 1 1, 3) := by decide +kernel
theorem dX7_way_27 : decode cX7_way 27 = .ok (.goto (-25), 3) := by decide +kernel
theorem dX7_way_30 : decode cX7_way 30 = .ok (.iconst 1, 1) := by decide +kernel
theorem dX7_way_31 : decode cX7_way 31 = .ok (.istore_n 1, 1) := by decide +kernel
theorem dX7_way_32 : decode cX7_way 32 = .ok (.iload_n 1, 1) := by decide +kernel
theorem dX7_way_33 : decode cX7_way 33 = .ok (.ifCond .eq 143, 3) := by decide +kernel
theorem dX7_way_36 : decode cX7_way 36 = .ok (.iconst 0, 1) := by decide +kernel
theorem dX7_way_37 : decode cX7_way 37 = .ok (.istore_n 1, 1) := by decide +kernel
theorem dX7_way_38 : decode cX7_way 38 = .ok (.iconst 0, 1) := by decide +kernel
theorem dX7_way_39 : decode cX7_way 39 = .ok (.istore_n 2, 1) := by decide +kernel
theorem dX7_way_40 : decode cX7_way 40 = .ok (.iload_n 2, 1) := by decide +kernel
theorem dX7_way_41 : decode cX7_way 41 = .ok (.aload_n 0, 1) := by decide +kernel
theorem dX7_way_42 : decode cX7_way 42 = .ok (.getfield 74, 3) := by decide +kernel
theorem dX7_way_45 : decode cX7_way 45 = .ok (.if_icmp .ge 128, 3) := by decide +kernel
theorem dX7_way_48 : decode cX7_way 48 = .ok (.iconst 0, 1) := by decide +kernel
theorem dX7_way_49 : decode cX7_way 49 = .ok (.istore_n 3, 1) := by decide +kernel
theorem dX7_way_50 : decode cX7_way 50 = .ok (.iload_n 3, 1) := by decide +kernel
theorem dX7_way_51 : decode cX7_way 51 = .ok (.aload_n 0, 1) := by decide +kernel
theorem dX7_way_52 : decode cX7_way 52 = .ok (.getfield 74, 3) := by decide +kernel
theorem dX7_way_55 : decode cX7_way 55 = .ok (.if_icmp .ge 112, 3) := by decide +kernel
theorem dX7_way_58 : decode cX7_way 58 = .ok (.aload_n 0, 1) := by decide +kernel
theorem dX7_way_59 : decode cX7_way 59 = .ok (.getfield 50, 3) := by decide +kernel
theorem dX7_way_62 : decode cX7_way 62 = .ok (.bipush 40, 2) := by decide +kernel
theorem dX7_way_64 : decode cX7_way 64 = .ok (.iload_n 2, 1) := by decide +kernel
theorem dX7_way_65 : decode cX7_way 65 = .ok (.imul, 1) := by decide +kernel
theorem dX7_way_66 : decode cX7_way 66 = .ok (.iload_n 3, 1) := by decide +kernel
theorem dX7_way_67 : decode cX7_way 67 = .ok (.iadd, 1) := by decide +kernel
theorem dX7_way_68 : decode cX7_way 68 = .ok (.baload, 1) := by decide +kernel
theorem dX7_way_69 : decode cX7_way 69 = .ok (.ifCond .ne 6, 3) := by decide +kernel
theorem dX7_way_72 : decode cX7_way 72 = .ok (.goto 89, 3) := by decide +kernel
theorem dX7_way_75 : decode cX7_way 75 = .ok (.aload_n 0, 1) := by decide +kernel
theorem dX7_way_76 : decode cX7_way 76 = .ok (.getfield 59, 3) := by decide +kernel
theorem dX7_way_79 : decode cX7_way 79 = .ok (.iload_n 3, 1) := by decide +kernel
theorem dX7_way_80 : decode cX7_way 80 = .ok (.iaload, 1) := by decide +kernel
theorem dX7_way_81 : decode cX7_way 81 = .ok (.aload_n 0, 1) := by decide +kernel
theorem dX7_way_82 : decode cX7_way 82 = .ok (.getfield 26, 3) := by decide +kernel
theorem dX7_way_85 : decode cX7_way 85 = .ok (.iload_n 3, 1) := by decide +kernel
theorem dX7_way_86 : decode cX7_way 86 = .ok (.iaload, 1) := by decide +kernel
theorem dX7_way_87 : decode cX7_way 87 = .ok (.iadd, 1) := by decide +kernel
theorem dX7_way_88 : decode cX7_way 88 = .ok (.aload_n 0, 1) := by decide +kernel
theorem dX7_way_89 : decode cX7_way 89 = .ok (.getfield 59, 3) := by decide +kernel
theorem dX7_way_92 : decode cX7_way 92 = .ok (.iload_n 2, 1) := by decide +kernel
theorem dX7_way_93 : decode cX7_way 93 = .ok (.iaload, 1) := by decide +kernel
theorem dX7_way_94 : decode cX7_way 94 = .ok (.if_icmp .le 24, 3) := by decide +kernel
theorem dX7_way_97 : decode cX7_way 97 = .ok (.aload_n 0, 1) := by decide +kernel
theorem dX7_way_98 : decode cX7_way 98 = .ok (.getfield 59, 3) := by decide +kernel
theorem dX7_way_101 : decode cX7_way 101 = .ok (.iload_n 2, 1) := by decide +kernel
theorem dX7_way_102 : decode cX7_way 102 = .ok (.aload_n 0, 1) := by decide +kernel
theorem dX7_way_103 : decode cX7_way 103 = .ok (.getfield 59, 3) := by decide +kernel
theorem dX7_way_106 : decode cX7_way 106 = .ok (.iload_n 3, 1) := by decide +kernel
theorem dX7_way_107 : decode cX7_way 107 = .ok (.iaload, 1) := by decide +kernel
theorem dX7_way_108 : decode cX7_way 108 = .ok (.aload_n 0, 1) := by decide +kernel
theorem dX7_way_109 : decode cX7_way 109 = .ok (.getfield 26, 3) := by decide +kernel
theorem dX7_way_112 : decode cX7_way 112 = .ok (.iload_n 3, 1) := by decide +kernel
theorem dX7_way_113 : decode cX7_way 113 = .ok (.iaload, 1) := by decide +kernel
theorem dX7_way_114 : decode cX7_way 114 = .ok (.iadd, 1) := by decide +kernel
theorem dX7_way_115 : decode cX7_way 115 = .ok (.iastore, 1) := by decide +kernel
theorem dX7_way_116 : decode cX7_way 116 = .ok (.iconst 1, 1) := by decide +kernel
theorem dX7_way_117 : decode cX7_way 117 = .ok (.istore_n 1, 1) := by decide +kernel
theorem dX7_way_118 : decode cX7_way 118 = .ok (.aload_n 0, 1) := by decide +kernel
theorem dX7_way_119 : decode cX7_way 119 = .ok (.getfield 62, 3) := by decide +kernel
theorem dX7_way_122 : decode cX7_way 122 = .ok (.iload_n 2, 1) := by decide +kernel
theorem dX7_way_123 : decode cX7_way 123 = .ok (.iaload, 1) := by decide +kernel
theorem dX7_way_124 : decode cX7_way 124 = .ok (.aload_n 0, 1) := by decide +kernel
theorem dX7_way_125 : decode cX7_way 125 = .ok (.getfield 26, 3) := by decide +kernel
theorem dX7_way_128 : decode cX7_way 128 = .ok (.iload_n 2, 1) := by decide +kernel
theorem dX7_way_129 : decode cX7_way 129 = .ok (.iaload, 1) := by decide +kernel
theorem dX7_way_130 : decode cX7_way 130 = .ok (.iadd, 1) := by decide +kernel
theorem dX7_way_131 : decode cX7_way 131 = .ok (.aload_n 0, 1) := by decide +kernel
theorem dX7_way_132 : decode cX7_way 132 = .ok (.getfield 62, 3) := by decide +kernel
theorem dX7_way_135 : decode cX7_way 135 = .ok (.iload_n 3, 1) := by decide +kernel
theorem dX7_way_136 : decode cX7_way 136 = .ok (.iaload, 1) := by decide +kernel
theorem dX7_way_137 : decode cX7_way 137 = .ok (.if_icmp .le 24, 3) := by decide +kernel
theorem dX7_way_140 : decode cX7_way 140 = .ok (.aload_n 0, 1) := by decide +kernel
theorem dX7_way_141 : decode cX7_way 141 = .ok (.getfield 62, 3) := by decide +kernel
theorem dX7_way_144 : decode cX7_way 144 = .ok (.iload_n 3, 1) := by decide +kernel
theorem dX7_way_145 : decode cX7_way 145 = .ok (.aload_n 0, 1) := by decide +kernel
theorem dX7_way_146 : decode cX7_way 146 = .ok (.getfield 62, 3) := by decide +kernel
theorem dX7_way_149 : decode cX7_way 149 = .ok (.iload_n 2, 1) := by decide +kernel
theorem dX7_way_150 : decode cX7_way 150 = .ok (.iaload, 1) := by decide +kernel
theorem dX7_way_151 : decode cX7_way 151 = .ok (.aload_n 0, 1) := by decide +kernel
theorem dX7_way_152 : decode cX7_way 152 = .ok (.getfield 26, 3) := by decide +kernel
theorem dX7_way_155 : decode cX7_way 155 = .ok (.iload_n 2, 1) := by decide +kernel
theorem dX7_way_156 : decode cX7_way 156 = .ok (.iaload, 1) := by decide +kernel
theorem dX7_way_157 : decode cX7_way 157 = .ok (.iadd, 1) := by decide +kernel
theorem dX7_way_158 : decode cX7_way 158 = .ok (.iastore, 1) := by decide +kernel
theorem dX7_way_159 : decode cX7_way 159 = .ok (.iconst 1, 1) := by decide +kernel
theorem dX7_way_160 : decode cX7_way 160 = .ok (.istore_n 1, 1) := by decide +kernel
theorem dX7_way_161 : decode cX7_way 161 = .ok (.iinc 3 1, 3) := by decide +kernel
theorem dX7_way_164 : decode cX7_way 164 = .ok (.goto (-114), 3) := by decide +kernel
theorem dX7_way_167 : decode cX7_way 167 = .ok (.iinc 2 1, 3) := by decide +kernel
theorem dX7_way_170 : decode cX7_way 170 = .ok (.goto (-130), 3) := by decide +kernel
theorem dX7_way_173 : decode cX7_way 173 = .ok (.goto (-141), 3) := by decide +kernel
theorem dX7_way_176 : decode cX7_way 176 = .ok (.iconst 0, 1) := by decide +kernel
theorem dX7_way_177 : decode cX7_way 177 = .ok (.istore_n 2, 1) := by decide +kernel
theorem dX7_way_178 : decode cX7_way 178 = .ok (.iconst 0, 1) := by decide +kernel
theorem dX7_way_179 : decode cX7_way 179 = .ok (.istore_n 3, 1) := by decide +kernel
theorem dX7_way_180 : decode cX7_way 180 = .ok (.iload_n 3, 1) := by decide +kernel
theorem dX7_way_181 : decode cX7_way 181 = .ok (.aload_n 0, 1) := by decide +kernel
theorem dX7_way_182 : decode cX7_way 182 = .ok (.getfield 74, 3) := by decide +kernel
theorem dX7_way_185 : decode cX7_way 185 = .ok (.if_icmp .ge 54, 3) := by decide +kernel
theorem dX7_way_188 : decode cX7_way 188 = .ok (.aload_n 0, 1) := by decide +kernel
theorem dX7_way_189 : decode cX7_way 189 = .ok (.getfield 59, 3) := by decide +kernel
theorem dX7_way_192 : decode cX7_way 192 = .ok (.iload_n 3, 1) := by decide +kernel
theorem dX7_way_193 : decode cX7_way 193 = .ok (.iaload, 1) := by decide +kernel
theorem dX7_way_194 : decode cX7_way 194 = .ok (.aload_n 0, 1) := by decide +kernel
theorem dX7_way_195 : decode cX7_way 195 = .ok (.getfield 26, 3) := by decide +kernel
theorem dX7_way_198 : decode cX7_way 198 = .ok (.iload_n 3, 1) := by decide +kernel
theorem dX7_way_199 : decode cX7_way 199 = .ok (.iaload, 1) := by decide +kernel
theorem dX7_way_200 : decode cX7_way 200 = .ok (.iadd, 1) := by decide +kernel
theorem dX7_way_201 : decode cX7_way 201 = .ok (.aload_n 0, 1) := by decide +kernel
theorem dX7_way_202 : decode cX7_way 202 = .ok (.getfield 62, 3) := by decide +kernel
theorem dX7_way_205 : decode cX7_way 205 = .ok (.iload_n 3, 1) := by decide +kernel
theorem dX7_way_206 : decode cX7_way 206 = .ok (.iaload, 1) := by decide +kernel
theorem dX7_way_207 : decode cX7_way 207 = .ok (.iadd, 1) := by decide +kernel
theorem dX7_way_208 : decode cX7_way 208 = .ok (.iload_n 2, 1) := by decide +kernel
theorem dX7_way_209 : decode cX7_way 209 = .ok (.if_icmp .le 24, 3) := by decide +kernel
theorem dX7_way_212 : decode cX7_way 212 = .ok (.aload_n 0, 1) := by decide +kernel
theorem dX7_way_213 : decode cX7_way 213 = .ok (.getfield 59, 3) := by decide +kernel
theorem dX7_way_216 : decode cX7_way 216 = .ok (.iload_n 3, 1) := by decide +kernel
theorem dX7_way_217 : decode cX7_way 217 = .ok (.iaload, 1) := by decide +kernel
theorem dX7_way_218 : decode cX7_way 218 = .ok (.aload_n 0, 1) := by decide +kernel
theorem dX7_way_219 : decode cX7_way 219 = .ok (.getfield 26, 3) := by decide +kernel
theorem dX7_way_222 : decode cX7_way 222 = .ok (.iload_n 3, 1) := by decide +kernel
theorem dX7_way_223 : decode cX7_way 223 = .ok (.iaload, 1) := by decide +kernel
theorem dX7_way_224 : decode cX7_way 224 = .ok (.iadd, 1) := by decide +kernel
theorem dX7_way_225 : decode cX7_way 225 = .ok (.aload_n 0, 1) := by decide +kernel
theorem dX7_way_226 : decode cX7_way 226 = .ok (.getfield 62, 3) := by decide +kernel
theorem dX7_way_229 : decode cX7_way 229 = .ok (.iload_n 3, 1) := by decide +kernel
theorem dX7_way_230 : decode cX7_way 230 = .ok (.iaload, 1) := by decide +kernel
theorem dX7_way_231 : decode cX7_way 231 = .ok (.iadd, 1) := by decide +kernel
theorem dX7_way_232 : decode cX7_way 232 = .ok (.istore_n 2, 1) := by decide +kernel
theorem dX7_way_233 : decode cX7_way 233 = .ok (.iinc 3 1, 3) := by decide +kernel
theorem dX7_way_236 : decode cX7_way 236 = .ok (.goto (-56), 3) := by decide +kernel
theorem dX7_way_239 : decode cX7_way 239 = .ok (.iload_n 2, 1) := by decide +kernel
theorem dX7_way_240 : decode cX7_way 240 = .ok (.ireturn, 1) := by decide +kernel
theorem dX7_slack_0 : decode cX7_slack 0 = .ok (.iload_n 1, 1) := by decide +kernel
theorem dX7_slack_1 : decode cX7_slack 1 = .ok (.aload_n 0, 1) := by decide +kernel
theorem dX7_slack_2 : decode cX7_slack 2 = .ok (.getfield 59, 3) := by decide +kernel
theorem dX7_slack_5 : decode cX7_slack 5 = .ok (.iload_n 2, 1) := by decide +kernel
theorem dX7_slack_6 : decode cX7_slack 6 = .ok (.iaload, 1) := by decide +kernel
theorem dX7_slack_7 : decode cX7_slack 7 = .ok (.isub, 1) := by decide +kernel
theorem dX7_slack_8 : decode cX7_slack 8 = .ok (.aload_n 0, 1) := by decide +kernel
theorem dX7_slack_9 : decode cX7_slack 9 = .ok (.getfield 26, 3) := by decide +kernel
theorem dX7_slack_12 : decode cX7_slack 12 = .ok (.iload_n 2, 1) := by decide +kernel
theorem dX7_slack_13 : decode cX7_slack 13 = .ok (.iaload, 1) := by decide +kernel
theorem dX7_slack_14 : decode cX7_slack 14 = .ok (.isub, 1) := by decide +kernel
theorem dX7_slack_15 : decode cX7_slack 15 = .ok (.aload_n 0, 1) := by decide +kernel
theorem dX7_slack_16 : decode cX7_slack 16 = .ok (.getfield 62, 3) := by decide +kernel
theorem dX7_slack_19 : decode cX7_slack 19 = .ok (.iload_n 2, 1) := by decide +kernel
theorem dX7_slack_20 : decode cX7_slack 20 = .ok (.iaload, 1) := by decide +kernel
theorem dX7_slack_21 : decode cX7_slack 21 = .ok (.isub, 1) := by decide +kernel
theorem dX7_slack_22 : decode cX7_slack 22 = .ok (.ireturn, 1) := by decide +kernel
theorem dX7_bound_0 : decode cX7_bound 0 = .ok (.aload_n 0, 1) := by decide +kernel
theorem dX7_bound_1 : decode cX7_bound 1 = .ok (.invokevirtual 132, 3) := by decide +kernel
theorem dX7_bound_4 : decode cX7_bound 4 = .ok (.istore_n 1, 1) := by decide +kernel
theorem dX7_bound_5 : decode cX7_bound 5 = .ok (.iconst 0, 1) := by decide +kernel
theorem dX7_bound_6 : decode cX7_bound 6 = .ok (.istore_n 2, 1) := by decide +kernel
theorem dX7_bound_7 : decode cX7_bound 7 = .ok (.iload_n 2, 1) := by decide +kernel
theorem dX7_bound_8 : decode cX7_bound 8 = .ok (.bipush 8, 2) := by decide +kernel
theorem dX7_bound_10 : decode cX7_bound 10 = .ok (.aload_n 0, 1) := by decide +kernel
theorem dX7_bound_11 : decode cX7_bound 11 = .ok (.getfield 82, 3) := by decide +kernel
theorem dX7_bound_14 : decode cX7_bound 14 = .ok (.iadd, 1) := by decide +kernel
theorem dX7_bound_15 : decode cX7_bound 15 = .ok (.if_icmp .ge 209, 3) := by decide +kernel
theorem dX7_bound_18 : decode cX7_bound 18 = .ok (.iconst 0, 1) := by decide +kernel
theorem dX7_bound_19 : decode cX7_bound 19 = .ok (.istore_n 3, 1) := by decide +kernel
theorem dX7_bound_20 : decode cX7_bound 20 = .ok (.iconst 0, 1) := by decide +kernel
theorem dX7_bound_21 : decode cX7_bound 21 = .ok (.istore 4, 2) := by decide +kernel
theorem dX7_bound_23 : decode cX7_bound 23 = .ok (.iload 4, 2) := by decide +kernel
theorem dX7_bound_25 : decode cX7_bound 25 = .ok (.aload_n 0, 1) := by decide +kernel
theorem dX7_bound_26 : decode cX7_bound 26 = .ok (.getfield 74, 3) := by decide +kernel
theorem dX7_bound_29 : decode cX7_bound 29 = .ok (.if_icmp .ge 113, 3) := by decide +kernel
theorem dX7_bound_32 : decode cX7_bound 32 = .ok (.iload_n 2, 1) := by decide +kernel
theorem dX7_bound_33 : decode cX7_bound 33 = .ok (.iconst 4, 1) := by decide +kernel
theorem dX7_bound_34 : decode cX7_bound 34 = .ok (.if_icmp .ge 22, 3) := by decide +kernel
theorem dX7_bound_37 : decode cX7_bound 37 = .ok (.aload_n 0, 1) := by decide +kernel
theorem dX7_bound_38 : decode cX7_bound 38 = .ok (.getfield 29, 3) := by decide +kernel
theorem dX7_bound_41 : decode cX7_bound 41 = .ok (.iload 4, 2) := by decide +kernel
theorem dX7_bound_43 : decode cX7_bound 43 = .ok (.iaload, 1) := by decide +kernel
theorem dX7_bound_44 : decode cX7_bound 44 = .ok (.iload_n 2, 1) := by decide +kernel
theorem dX7_bound_45 : decode cX7_bound 45 = .ok (.if_icmp .ne 7, 3) := by decide +kernel
theorem dX7_bound_48 : decode cX7_bound 48 = .ok (.iconst 1, 1) := by decide +kernel
theorem dX7_bound_49 : decode cX7_bound 49 = .ok (.goto 53, 3) := by decide +kernel
theorem dX7_bound_52 : decode cX7_bound 52 = .ok (.iconst 0, 1) := by decide +kernel
theorem dX7_bound_53 : decode cX7_bound 53 = .ok (.goto 49, 3) := by decide +kernel
theorem dX7_bound_56 : decode cX7_bound 56 = .ok (.iload_n 2, 1) := by decide +kernel
theorem dX7_bound_57 : decode cX7_bound 57 = .ok (.bipush 8, 2) := by decide +kernel
theorem dX7_bound_59 : decode cX7_bound 59 = .ok (.if_icmp .ge 24, 3) := by decide +kernel
theorem dX7_bound_62 : decode cX7_bound 62 = .ok (.aload_n 0, 1) := by decide +kernel
theorem dX7_bound_63 : decode cX7_bound 63 = .ok (.getfield 41, 3) := by decide +kernel
theorem dX7_bound_66 : decode cX7_bound 66 = .ok (.iload 4, 2) := by decide +kernel
theorem dX7_bound_68 : decode cX7_bound 68 = .ok (.iaload, 1) := by decide +kernel
theorem dX7_bound_69 : decode cX7_bound 69 = .ok (.iload_n 2, 1) := by decide +kernel
theorem dX7_bound_70 : decode cX7_bound 70 = .ok (.iconst 4, 1) := by decide +kernel
theorem dX7_bound_71 : decode cX7_bound 71 = .ok (.isub, 1) := by decide +kernel
theorem dX7_bound_72 : decode cX7_bound 72 = .ok (.if_icmp .ne 7, 3) := by decide +kernel
theorem dX7_bound_75 : decode cX7_bound 75 = .ok (.iconst 1, 1) := by decide +kernel
theorem dX7_bound_76 : decode cX7_bound 76 = .ok (.goto 26, 3) := by decide +kernel
theorem dX7_bound_79 : decode cX7_bound 79 = .ok (.iconst 0, 1) := by decide +kernel
theorem dX7_bound_80 : decode cX7_bound 80 = .ok (.goto 22, 3) := by decide +kernel
theorem dX7_bound_83 : decode cX7_bound 83 = .ok (.aload_n 0, 1) := by decide +kernel
theorem dX7_bound_84 : decode cX7_bound 84 = .ok (.getfield 35, 3) := by decide +kernel
theorem dX7_bound_87 : decode cX7_bound 87 = .ok (.iload 4, 2) := by decide +kernel
theorem dX7_bound_89 : decode cX7_bound 89 = .ok (.iaload, 1) := by decide +kernel
theorem dX7_bound_90 : decode cX7_bound 90 = .ok (.iload_n 2, 1) := by decide +kernel
theorem dX7_bound_91 : decode cX7_bound 91 = .ok (.bipush 8, 2) := by decide +kernel
theorem dX7_bound_93 : decode cX7_bound 93 = .ok (.isub, 1) := by decide +kernel
theorem dX7_bound_94 : decode cX7_bound 94 = .ok (.if_icmp .ne 7, 3) := by decide +kernel
theorem dX7_bound_97 : decode cX7_bound 97 = .ok (.iconst 1, 1) := by decide +kernel
theorem dX7_bound_98 : decode cX7_bound 98 = .ok (.goto 4, 3) := by decide +kernel
theorem dX7_bound_101 : decode cX7_bound 101 = .ok (.iconst 0, 1) := by decide +kernel
theorem dX7_bound_102 : decode cX7_bound 102 = .ok (.istore 5, 2) := by decide +kernel
theorem dX7_bound_104 : decode cX7_bound 104 = .ok (.iload 5, 2) := by decide +kernel
theorem dX7_bound_106 : decode cX7_bound 106 = .ok (.ifCond .eq 30, 3) := by decide +kernel
theorem dX7_bound_109 : decode cX7_bound 109 = .ok (.iload_n 3, 1) := by decide +kernel
theorem dX7_bound_110 : decode cX7_bound 110 = .ok (.aload_n 0, 1) := by decide +kernel
theorem dX7_bound_111 : decode cX7_bound 111 = .ok (.getfield 26, 3) := by decide +kernel
theorem dX7_bound_114 : decode cX7_bound 114 = .ok (.iload 4, 2) := by decide +kernel
theorem dX7_bound_116 : decode cX7_bound 116 = .ok (.iaload, 1) := by decide +kernel
theorem dX7_bound_117 : decode cX7_bound 117 = .ok (.iload_n 2, 1) := by decide +kernel
theorem dX7_bound_118 : decode cX7_bound 118 = .ok (.iconst 4, 1) := by decide +kernel
theorem dX7_bound_119 : decode cX7_bound 119 = .ok (.if_icmp .ge 13, 3) := by decide +kernel
theorem dX7_bound_122 : decode cX7_bound 122 = .ok (.aload_n 0, 1) := by decide +kernel
theorem dX7_bound_123 : decode cX7_bound 123 = .ok (.getfield 32, 3) := by decide +kernel
theorem dX7_bound_126 : decode cX7_bound 126 = .ok (.iload 4, 2) := by decide +kernel
theorem dX7_bound_128 : decode cX7_bound 128 = .ok (.iaload, 1) := by decide +kernel
theorem dX7_bound_129 : decode cX7_bound 129 = .ok (.goto 4, 3) := by decide +kernel
theorem dX7_bound_132 : decode cX7_bound 132 = .ok (.iconst 1, 1) := by decide +kernel
theorem dX7_bound_133 : decode cX7_bound 133 = .ok (.imul, 1) := by decide +kernel
theorem dX7_bound_134 : decode cX7_bound 134 = .ok (.iadd, 1) := by decide +kernel
theorem dX7_bound_135 : decode cX7_bound 135 = .ok (.istore_n 3, 1) := by decide +kernel
theorem dX7_bound_136 : decode cX7_bound 136 = .ok (.iinc 4 1, 3) := by decide +kernel
theorem dX7_bound_139 : decode cX7_bound 139 = .ok (.goto (-116), 3) := by decide +kernel
theorem dX7_bound_142 : decode cX7_bound 142 = .ok (.iload_n 2, 1) := by decide +kernel
theorem dX7_bound_143 : decode cX7_bound 143 = .ok (.iconst 4, 1) := by decide +kernel
theorem dX7_bound_144 : decode cX7_bound 144 = .ok (.if_icmp .ge 12, 3) := by decide +kernel
theorem dX7_bound_147 : decode cX7_bound 147 = .ok (.aload_n 0, 1) := by decide +kernel
theorem dX7_bound_148 : decode cX7_bound 148 = .ok (.getfield 17, 3) := by decide +kernel
theorem dX7_bound_151 : decode cX7_bound 151 = .ok (.iload_n 2, 1) := by decide +kernel
theorem dX7_bound_152 : decode cX7_bound 152 = .ok (.iaload, 1) := by decide +kernel
theorem dX7_bound_153 : decode cX7_bound 153 = .ok (.goto 29, 3) := by decide +kernel
theorem dX7_bound_156 : decode cX7_bound 156 = .ok (.iload_n 2, 1) := by decide +kernel
theorem dX7_bound_157 : decode cX7_bound 157 = .ok (.bipush 8, 2) := by decide +kernel
theorem dX7_bound_159 : decode cX7_bound 159 = .ok (.if_icmp .ge 14, 3) := by decide +kernel
theorem dX7_bound_162 : decode cX7_bound 162 = .ok (.aload_n 0, 1) := by decide +kernel
theorem dX7_bound_163 : decode cX7_bound 163 = .ok (.getfield 20, 3) := by decide +kernel
theorem dX7_bound_166 : decode cX7_bound 166 = .ok (.iload_n 2, 1) := by decide +kernel
theorem dX7_bound_167 : decode cX7_bound 167 = .ok (.iconst 4, 1) := by decide +kernel
theorem dX7_bound_168 : decode cX7_bound 168 = .ok (.isub, 1) := by decide +kernel
theorem dX7_bound_169 : decode cX7_bound 169 = .ok (.iaload, 1) := by decide +kernel
theorem dX7_bound_170 : decode cX7_bound 170 = .ok (.goto 12, 3) := by decide +kernel
theorem dX7_bound_173 : decode cX7_bound 173 = .ok (.aload_n 0, 1) := by decide +kernel
theorem dX7_bound_174 : decode cX7_bound 174 = .ok (.getfield 9, 3) := by decide +kernel
theorem dX7_bound_177 : decode cX7_bound 177 = .ok (.iload_n 2, 1) := by decide +kernel
theorem dX7_bound_178 : decode cX7_bound 178 = .ok (.bipush 8, 2) := by decide +kernel
theorem dX7_bound_180 : decode cX7_bound 180 = .ok (.isub, 1) := by decide +kernel
theorem dX7_bound_181 : decode cX7_bound 181 = .ok (.iaload, 1) := by decide +kernel
theorem dX7_bound_182 : decode cX7_bound 182 = .ok (.istore 4, 2) := by decide +kernel
theorem dX7_bound_184 : decode cX7_bound 184 = .ok (.iload_n 3, 1) := by decide +kernel
theorem dX7_bound_185 : decode cX7_bound 185 = .ok (.ifCond .ne 6, 3) := by decide +kernel
theorem dX7_bound_188 : decode cX7_bound 188 = .ok (.goto 30, 3) := by decide +kernel
theorem dX7_bound_191 : decode cX7_bound 191 = .ok (.iload 4, 2) := by decide +kernel
theorem dX7_bound_193 : decode cX7_bound 193 = .ok (.ifCond .ne 5, 3) := by decide +kernel
theorem dX7_bound_196 : decode cX7_bound 196 = .ok (.iconst (-1), 1) := by decide +kernel
theorem dX7_bound_197 : decode cX7_bound 197 = .ok (.ireturn, 1) := by decide +kernel
theorem dX7_bound_198 : decode cX7_bound 198 = .ok (.iload_n 3, 1) := by decide +kernel
theorem dX7_bound_199 : decode cX7_bound 199 = .ok (.iload 4, 2) := by decide +kernel
theorem dX7_bound_201 : decode cX7_bound 201 = .ok (.iadd, 1) := by decide +kernel
theorem dX7_bound_202 : decode cX7_bound 202 = .ok (.iconst 1, 1) := by decide +kernel
theorem dX7_bound_203 : decode cX7_bound 203 = .ok (.isub, 1) := by decide +kernel
theorem dX7_bound_204 : decode cX7_bound 204 = .ok (.iload 4, 2) := by decide +kernel
theorem dX7_bound_206 : decode cX7_bound 206 = .ok (.idiv, 1) := by decide +kernel
theorem dX7_bound_207 : decode cX7_bound 207 = .ok (.istore 5, 2) := by decide +kernel
theorem dX7_bound_209 : decode cX7_bound 209 = .ok (.iload 5, 2) := by decide +kernel
theorem dX7_bound_211 : decode cX7_bound 211 = .ok (.iload_n 1, 1) := by decide +kernel
theorem dX7_bound_212 : decode cX7_bound 212 = .ok (.if_icmp .le 6, 3) := by decide +kernel
theorem dX7_bound_215 : decode cX7_bound 215 = .ok (.iload 5, 2) := by decide +kernel
theorem dX7_bound_217 : decode cX7_bound 217 = .ok (.istore_n 1, 1) := by decide +kernel
theorem dX7_bound_218 : decode cX7_bound 218 = .ok (.iinc 2 1, 3) := by decide +kernel
theorem dX7_bound_221 : decode cX7_bound 221 = .ok (.goto (-214), 3) := by decide +kernel
theorem dX7_bound_224 : decode cX7_bound 224 = .ok (.iload_n 1, 1) := by decide +kernel
theorem dX7_bound_225 : decode cX7_bound 225 = .ok (.ireturn, 1) := by decide +kernel
theorem dX7_isReady_0 : decode cX7_isReady 0 = .ok (.aload_n 0, 1) := by decide +kernel
theorem dX7_isReady_1 : decode cX7_isReady 1 = .ok (.iload_n 1, 1) := by decide +kernel
theorem dX7_isReady_2 : decode cX7_isReady 2 = .ok (.invokevirtual 89, 3) := by decide +kernel
theorem dX7_isReady_5 : decode cX7_isReady 5 = .ok (.ifCond .ne 7, 3) := by decide +kernel
theorem dX7_isReady_8 : decode cX7_isReady 8 = .ok (.iconst 1, 1) := by decide +kernel
theorem dX7_isReady_9 : decode cX7_isReady 9 = .ok (.goto 4, 3) := by decide +kernel
theorem dX7_isReady_12 : decode cX7_isReady 12 = .ok (.iconst 0, 1) := by decide +kernel
theorem dX7_isReady_13 : decode cX7_isReady 13 = .ok (.istore_n 2, 1) := by decide +kernel
theorem dX7_isReady_14 : decode cX7_isReady 14 = .ok (.iconst 0, 1) := by decide +kernel
theorem dX7_isReady_15 : decode cX7_isReady 15 = .ok (.istore_n 3, 1) := by decide +kernel
theorem dX7_isReady_16 : decode cX7_isReady 16 = .ok (.iload_n 3, 1) := by decide +kernel
theorem dX7_isReady_17 : decode cX7_isReady 17 = .ok (.aload_n 0, 1) := by decide +kernel
theorem dX7_isReady_18 : decode cX7_isReady 18 = .ok (.getfield 74, 3) := by decide +kernel
theorem dX7_isReady_21 : decode cX7_isReady 21 = .ok (.if_icmp .ge 41, 3) := by decide +kernel
theorem dX7_isReady_24 : decode cX7_isReady 24 = .ok (.iload_n 2, 1) := by decide +kernel
theorem dX7_isReady_25 : decode cX7_isReady 25 = .ok (.ifCond .eq 37, 3) := by decide +kernel
theorem dX7_isReady_28 : decode cX7_isReady 28 = .ok (.aload_n 0, 1) := by decide +kernel
theorem dX7_isReady_29 : decode cX7_isReady 29 = .ok (.getfield 50, 3) := by decide +kernel
theorem dX7_isReady_32 : decode cX7_isReady 32 = .ok (.bipush 40, 2) := by decide +kernel
theorem dX7_isReady_34 : decode cX7_isReady 34 = .ok (.iload_n 1, 1) := by decide +kernel
theorem dX7_isReady_35 : decode cX7_isReady 35 = .ok (.imul, 1) := by decide +kernel
theorem dX7_isReady_36 : decode cX7_isReady 36 = .ok (.iload_n 3, 1) := by decide +kernel
theorem dX7_isReady_37 : decode cX7_isReady 37 = .ok (.iadd, 1) := by decide +kernel
theorem dX7_isReady_38 : decode cX7_isReady 38 = .ok (.baload, 1) := by decide +kernel
theorem dX7_isReady_39 : decode cX7_isReady 39 = .ok (.ifCond .eq 11, 3) := by decide +kernel
theorem dX7_isReady_42 : decode cX7_isReady 42 = .ok (.aload_n 0, 1) := by decide +kernel
theorem dX7_isReady_43 : decode cX7_isReady 43 = .ok (.iload_n 3, 1) := by decide +kernel
theorem dX7_isReady_44 : decode cX7_isReady 44 = .ok (.invokevirtual 89, 3) := by decide +kernel
theorem dX7_isReady_47 : decode cX7_isReady 47 = .ok (.ifCond .eq 7, 3) := by decide +kernel
theorem dX7_isReady_50 : decode cX7_isReady 50 = .ok (.iconst 1, 1) := by decide +kernel
theorem dX7_isReady_51 : decode cX7_isReady 51 = .ok (.goto 4, 3) := by decide +kernel
theorem dX7_isReady_54 : decode cX7_isReady 54 = .ok (.iconst 0, 1) := by decide +kernel
theorem dX7_isReady_55 : decode cX7_isReady 55 = .ok (.istore_n 2, 1) := by decide +kernel
theorem dX7_isReady_56 : decode cX7_isReady 56 = .ok (.iinc 3 1, 3) := by decide +kernel
theorem dX7_isReady_59 : decode cX7_isReady 59 = .ok (.goto (-43), 3) := by decide +kernel
theorem dX7_isReady_62 : decode cX7_isReady 62 = .ok (.iload_n 2, 1) := by decide +kernel
theorem dX7_isReady_63 : decode cX7_isReady 63 = .ok (.ireturn, 1) := by decide +kernel
theorem dX7_plan_0 : decode cX7_plan 0 = .ok (.bipush 40, 2) := by decide +kernel
theorem dX7_plan_2 : decode cX7_plan 2 = .ok (.newarray .boolean, 2) := by decide +kernel
theorem dX7_plan_4 : decode cX7_plan 4 = .ok (.astore_n 1, 1) := by decide +kernel
theorem dX7_plan_5 : decode cX7_plan 5 = .ok (.bipush 40, 2) := by decide +kernel
theorem dX7_plan_7 : decode cX7_plan 7 = .ok (.newarray .int, 2) := by decide +kernel
theorem dX7_plan_9 : decode cX7_plan 9 = .ok (.astore_n 2, 1) := by decide +kernel
theorem dX7_plan_10 : decode cX7_plan 10 = .ok (.aload_n 0, 1) := by decide +kernel
theorem dX7_plan_11 : decode cX7_plan 11 = .ok (.invokevirtual 132, 3) := by decide +kernel
theorem dX7_plan_14 : decode cX7_plan 14 = .ok (.istore_n 3, 1) := by decide +kernel
theorem dX7_plan_15 : decode cX7_plan 15 = .ok (.iconst 0, 1) := by decide +kernel
theorem dX7_plan_16 : decode cX7_plan 16 = .ok (.istore 4, 2) := by decide +kernel
theorem dX7_plan_18 : decode cX7_plan 18 = .ok (.iload 4, 2) := by decide +kernel
theorem dX7_plan_20 : decode cX7_plan 20 = .ok (.aload_n 0, 1) := by decide +kernel
theorem dX7_plan_21 : decode cX7_plan 21 = .ok (.getfield 74, 3) := by decide +kernel
theorem dX7_plan_24 : decode cX7_plan 24 = .ok (.if_icmp .ge 20, 3) := by decide +kernel
theorem dX7_plan_27 : decode cX7_plan 27 = .ok (.aload_n 2, 1) := by decide +kernel
theorem dX7_plan_28 : decode cX7_plan 28 = .ok (.iload 4, 2) := by decide +kernel
theorem dX7_plan_30 : decode cX7_plan 30 = .ok (.aload_n 0, 1) := by decide +kernel
theorem dX7_plan_31 : decode cX7_plan 31 = .ok (.iload_n 3, 1) := by decide +kernel
theorem dX7_plan_32 : decode cX7_plan 32 = .ok (.iload 4, 2) := by decide +kernel
theorem dX7_plan_34 : decode cX7_plan 34 = .ok (.invokevirtual 136, 3) := by decide +kernel
theorem dX7_plan_37 : decode cX7_plan 37 = .ok (.iastore, 1) := by decide +kernel
theorem dX7_plan_38 : decode cX7_plan 38 = .ok (.iinc 4 1, 3) := by decide +kernel
theorem dX7_plan_41 : decode cX7_plan 41 = .ok (.goto (-23), 3) := by decide +kernel
theorem dX7_plan_44 : decode cX7_plan 44 = .ok (.iconst 0, 1) := by decide +kernel
theorem dX7_plan_45 : decode cX7_plan 45 = .ok (.istore 4, 2) := by decide +kernel
theorem dX7_plan_47 : decode cX7_plan 47 = .ok (.iconst 1, 1) := by decide +kernel
theorem dX7_plan_48 : decode cX7_plan 48 = .ok (.istore 5, 2) := by decide +kernel
theorem dX7_plan_50 : decode cX7_plan 50 = .ok (.iload 5, 2) := by decide +kernel
theorem dX7_plan_52 : decode cX7_plan 52 = .ok (.ifCond .eq 123, 3) := by decide +kernel
theorem dX7_plan_55 : decode cX7_plan 55 = .ok (.iconst (-1), 1) := by decide +kernel
theorem dX7_plan_56 : decode cX7_plan 56 = .ok (.istore 6, 2) := by decide +kernel
theorem dX7_plan_58 : decode cX7_plan 58 = .ok (.iconst 0, 1) := by decide +kernel
theorem dX7_plan_59 : decode cX7_plan 59 = .ok (.istore 7, 2) := by decide +kernel
theorem dX7_plan_61 : decode cX7_plan 61 = .ok (.iload 7, 2) := by decide +kernel
theorem dX7_plan_63 : decode cX7_plan 63 = .ok (.aload_n 0, 1) := by decide +kernel
theorem dX7_plan_64 : decode cX7_plan 64 = .ok (.getfield 74, 3) := by decide +kernel
theorem dX7_plan_67 : decode cX7_plan 67 = .ok (.if_icmp .ge 46, 3) := by decide +kernel
theorem dX7_plan_70 : decode cX7_plan 70 = .ok (.aload_n 1, 1) := by decide +kernel
theorem dX7_plan_71 : decode cX7_plan 71 = .ok (.iload 7, 2) := by decide +kernel
theorem dX7_plan_73 : decode cX7_plan 73 = .ok (.baload, 1) := by decide +kernel
theorem dX7_plan_74 : decode cX7_plan 74 = .ok (.ifCond .ne 33, 3) := by decide +kernel
theorem dX7_plan_77 : decode cX7_plan 77 = .ok (.aload_n 0, 1) := by decide +kernel
theorem dX7_plan_78 : decode cX7_plan 78 = .ok (.iload 7, 2) := by decide +kernel
theorem dX7_plan_80 : decode cX7_plan 80 = .ok (.invokevirtual 139, 3) := by decide +kernel
theorem dX7_plan_83 : decode cX7_plan 83 = .ok (.ifCond .eq 24, 3) := by decide +kernel
theorem dX7_plan_86 : decode cX7_plan 86 = .ok (.iload 6, 2) := by decide +kernel
theorem dX7_plan_88 : decode cX7_plan 88 = .ok (.iconst (-1), 1) := by decide +kernel
theorem dX7_plan_89 : decode cX7_plan 89 = .ok (.if_icmp .eq 14, 3) := by decide +kernel
theorem dX7_plan_92 : decode cX7_plan 92 = .ok (.aload_n 2, 1) := by decide +kernel
theorem dX7_plan_93 : decode cX7_plan 93 = .ok (.iload 7, 2) := by decide +kernel
theorem dX7_plan_95 : decode cX7_plan 95 = .ok (.iaload, 1) := by decide +kernel
theorem dX7_plan_96 : decode cX7_plan 96 = .ok (.aload_n 2, 1) := by decide +kernel
theorem dX7_plan_97 : decode cX7_plan 97 = .ok (.iload 6, 2) := by decide +kernel
theorem dX7_plan_99 : decode cX7_plan 99 = .ok (.iaload, 1) := by decide +kernel
theorem dX7_plan_100 : decode cX7_plan 100 = .ok (.if_icmp .ge 7, 3) := by decide +kernel
theorem dX7_plan_103 : decode cX7_plan 103 = .ok (.iload 7, 2) := by decide +kernel
theorem dX7_plan_105 : decode cX7_plan 105 = .ok (.istore 6, 2) := by decide +kernel
theorem dX7_plan_107 : decode cX7_plan 107 = .ok (.iinc 7 1, 3) := by decide +kernel
theorem dX7_plan_110 : decode cX7_plan 110 = .ok (.goto (-49), 3) := by decide +kernel
theorem dX7_plan_113 : decode cX7_plan 113 = .ok (.iload 6, 2) := by decide +kernel
theorem dX7_plan_115 : decode cX7_plan 115 = .ok (.iconst (-1), 1) := by decide +kernel
theorem dX7_plan_116 : decode cX7_plan 116 = .ok (.if_icmp .eq 7, 3) := by decide +kernel
theorem dX7_plan_119 : decode cX7_plan 119 = .ok (.iconst 1, 1) := by decide +kernel
theorem dX7_plan_120 : decode cX7_plan 120 = .ok (.goto 4, 3) := by decide +kernel
theorem dX7_plan_123 : decode cX7_plan 123 = .ok (.iconst 0, 1) := by decide +kernel
theorem dX7_plan_124 : decode cX7_plan 124 = .ok (.istore 5, 2) := by decide +kernel
theorem dX7_plan_126 : decode cX7_plan 126 = .ok (.iload 5, 2) := by decide +kernel
theorem dX7_plan_128 : decode cX7_plan 128 = .ok (.ifCond .ne 6, 3) := by decide +kernel
theorem dX7_plan_131 : decode cX7_plan 131 = .ok (.goto (-81), 3) := by decide +kernel
theorem dX7_plan_134 : decode cX7_plan 134 = .ok (.aload_n 1, 1) := by decide +kernel
theorem dX7_plan_135 : decode cX7_plan 135 = .ok (.iload 6, 2) := by decide +kernel
theorem dX7_plan_137 : decode cX7_plan 137 = .ok (.iconst 1, 1) := by decide +kernel
theorem dX7_plan_138 : decode cX7_plan 138 = .ok (.bastore, 1) := by decide +kernel
theorem dX7_plan_139 : decode cX7_plan 139 = .ok (.aload_n 0, 1) := by decide +kernel
theorem dX7_plan_140 : decode cX7_plan 140 = .ok (.iload 6, 2) := by decide +kernel
theorem dX7_plan_142 : decode cX7_plan 142 = .ok (.aload_n 0, 1) := by decide +kernel
theorem dX7_plan_143 : decode cX7_plan 143 = .ok (.getfield 93, 3) := by decide +kernel
theorem dX7_plan_146 : decode cX7_plan 146 = .ok (.invokevirtual 142, 3) := by decide +kernel
theorem dX7_plan_149 : decode cX7_plan 149 = .ok (.istore 7, 2) := by decide +kernel
theorem dX7_plan_151 : decode cX7_plan 151 = .ok (.iload 7, 2) := by decide +kernel
theorem dX7_plan_153 : decode cX7_plan 153 = .ok (.iconst (-1), 1) := by decide +kernel
theorem dX7_plan_154 : decode cX7_plan 154 = .ok (.if_icmp .ne 6, 3) := by decide +kernel
theorem dX7_plan_157 : decode cX7_plan 157 = .ok (.goto (-107), 3) := by decide +kernel
theorem dX7_plan_160 : decode cX7_plan 160 = .ok (.aload_n 0, 1) := by decide +kernel
theorem dX7_plan_161 : decode cX7_plan 161 = .ok (.getfield 44, 3) := by decide +kernel
theorem dX7_plan_164 : decode cX7_plan 164 = .ok (.iload 6, 2) := by decide +kernel
theorem dX7_plan_166 : decode cX7_plan 166 = .ok (.iload 7, 2) := by decide +kernel
theorem dX7_plan_168 : decode cX7_plan 168 = .ok (.iastore, 1) := by decide +kernel
theorem dX7_plan_169 : decode cX7_plan 169 = .ok (.iinc 4 1, 3) := by decide +kernel
theorem dX7_plan_172 : decode cX7_plan 172 = .ok (.goto (-122), 3) := by decide +kernel
theorem dX7_plan_175 : decode cX7_plan 175 = .ok (.iload 4, 2) := by decide +kernel
theorem dX7_plan_177 : decode cX7_plan 177 = .ok (.ireturn, 1) := by decide +kernel
theorem dX7_end_0 : decode cX7_end 0 = .ok (.iconst 0, 1) := by decide +kernel
theorem dX7_end_1 : decode cX7_end 1 = .ok (.istore_n 1, 1) := by decide +kernel
theorem dX7_end_2 : decode cX7_end 2 = .ok (.iconst 0, 1) := by decide +kernel
theorem dX7_end_3 : decode cX7_end 3 = .ok (.istore_n 2, 1) := by decide +kernel
theorem dX7_end_4 : decode cX7_end 4 = .ok (.iload_n 2, 1) := by decide +kernel
theorem dX7_end_5 : decode cX7_end 5 = .ok (.aload_n 0, 1) := by decide +kernel
theorem dX7_end_6 : decode cX7_end 6 = .ok (.getfield 74, 3) := by decide +kernel
theorem dX7_end_9 : decode cX7_end 9 = .ok (.if_icmp .ge 32, 3) := by decide +kernel
theorem dX7_end_12 : decode cX7_end 12 = .ok (.aload_n 0, 1) := by decide +kernel
theorem dX7_end_13 : decode cX7_end 13 = .ok (.iload_n 2, 1) := by decide +kernel
theorem dX7_end_14 : decode cX7_end 14 = .ok (.invokevirtual 89, 3) := by decide +kernel
theorem dX7_end_17 : decode cX7_end 17 = .ok (.ifCond .eq 18, 3) := by decide +kernel
theorem dX7_end_20 : decode cX7_end 20 = .ok (.aload_n 0, 1) := by decide +kernel
theorem dX7_end_21 : decode cX7_end 21 = .ok (.iload_n 2, 1) := by decide +kernel
theorem dX7_end_22 : decode cX7_end 22 = .ok (.invokevirtual 96, 3) := by decide +kernel
theorem dX7_end_25 : decode cX7_end 25 = .ok (.iload_n 1, 1) := by decide +kernel
theorem dX7_end_26 : decode cX7_end 26 = .ok (.if_icmp .le 9, 3) := by decide +kernel
theorem dX7_end_29 : decode cX7_end 29 = .ok (.aload_n 0, 1) := by decide +kernel
theorem dX7_end_30 : decode cX7_end 30 = .ok (.iload_n 2, 1) := by decide +kernel
theorem dX7_end_31 : decode cX7_end 31 = .ok (.invokevirtual 96, 3) := by decide +kernel
theorem dX7_end_34 : decode cX7_end 34 = .ok (.istore_n 1, 1) := by decide +kernel
theorem dX7_end_35 : decode cX7_end 35 = .ok (.iinc 2 1, 3) := by decide +kernel
theorem dX7_end_38 : decode cX7_end 38 = .ok (.goto (-34), 3) := by decide +kernel
theorem dX7_end_41 : decode cX7_end 41 = .ok (.iload_n 1, 1) := by decide +kernel
theorem dX7_end_42 : decode cX7_end 42 = .ok (.ireturn, 1) := by decide +kernel
theorem dX7_best_0 : decode cX7_best 0 = .ok (.aload_n 0, 1) := by decide +kernel
theorem dX7_best_1 : decode cX7_best 1 = .ok (.getfield 74, 3) := by decide +kernel
theorem dX7_best_4 : decode cX7_best 4 = .ok (.iconst 1, 1) := by decide +kernel
theorem dX7_best_5 : decode cX7_best 5 = .ok (.if_icmp .lt 19, 3) := by decide +kernel
theorem dX7_best_8 : decode cX7_best 8 = .ok (.aload_n 0, 1) := by decide +kernel
theorem dX7_best_9 : decode cX7_best 9 = .ok (.getfield 74, 3) := by decide +kernel
theorem dX7_best_12 : decode cX7_best 12 = .ok (.bipush 6, 2) := by decide +kernel
theorem dX7_best_14 : decode cX7_best 14 = .ok (.if_icmp .gt 10, 3) := by decide +kernel
theorem dX7_best_17 : decode cX7_best 17 = .ok (.aload_n 0, 1) := by decide +kernel
theorem dX7_best_18 : decode cX7_best 18 = .ok (.getfield 93, 3) := by decide +kernel
theorem dX7_best_21 : decode cX7_best 21 = .ok (.ifCond .le 5, 3) := by decide +kernel
theorem dX7_best_24 : decode cX7_best 24 = .ok (.iconst (-1), 1) := by decide +kernel
theorem dX7_best_25 : decode cX7_best 25 = .ok (.ireturn, 1) := by decide +kernel
theorem dX7_best_26 : decode cX7_best 26 = .ok (.iconst 0, 1) := by decide +kernel
theorem dX7_best_27 : decode cX7_best 27 = .ok (.istore_n 1, 1) := by decide +kernel
theorem dX7_best_28 : decode cX7_best 28 = .ok (.iload_n 1, 1) := by decide +kernel
theorem dX7_best_29 : decode cX7_best 29 = .ok (.aload_n 0, 1) := by decide +kernel
theorem dX7_best_30 : decode cX7_best 30 = .ok (.getfield 74, 3) := by decide +kernel
theorem dX7_best_33 : decode cX7_best 33 = .ok (.if_icmp .ge 19, 3) := by decide +kernel
theorem dX7_best_36 : decode cX7_best 36 = .ok (.aload_n 0, 1) := by decide +kernel
theorem dX7_best_37 : decode cX7_best 37 = .ok (.iload_n 1, 1) := by decide +kernel
theorem dX7_best_38 : decode cX7_best 38 = .ok (.invokevirtual 89, 3) := by decide +kernel
theorem dX7_best_41 : decode cX7_best 41 = .ok (.ifCond .eq 5, 3) := by decide +kernel
theorem dX7_best_44 : decode cX7_best 44 = .ok (.iconst (-1), 1) := by decide +kernel
theorem dX7_best_45 : decode cX7_best 45 = .ok (.ireturn, 1) := by decide +kernel
theorem dX7_best_46 : decode cX7_best 46 = .ok (.iinc 1 1, 3) := by decide +kernel
theorem dX7_best_49 : decode cX7_best 49 = .ok (.goto (-21), 3) := by decide +kernel
theorem dX7_best_52 : decode cX7_best 52 = .ok (.iconst (-1), 1) := by decide +kernel
theorem dX7_best_53 : decode cX7_best 53 = .ok (.istore_n 1, 1) := by decide +kernel
theorem dX7_best_54 : decode cX7_best 54 = .ok (.iconst 0, 1) := by decide +kernel
theorem dX7_best_55 : decode cX7_best 55 = .ok (.istore_n 2, 1) := by decide +kernel
theorem dX7_best_56 : decode cX7_best 56 = .ok (.aload_n 0, 1) := by decide +kernel
theorem dX7_best_57 : decode cX7_best 57 = .ok (.getfield 68, 3) := by decide +kernel
theorem dX7_best_60 : decode cX7_best 60 = .ok (.iconst 0, 1) := by decide +kernel
theorem dX7_best_61 : decode cX7_best 61 = .ok (.iconst 0, 1) := by decide +kernel
theorem dX7_best_62 : decode cX7_best 62 = .ok (.iastore, 1) := by decide +kernel
theorem dX7_best_63 : decode cX7_best 63 = .ok (.iload_n 2, 1) := by decide +kernel
theorem dX7_best_64 : decode cX7_best 64 = .ok (.ifCond .lt 178, 3) := by decide +kernel
theorem dX7_best_67 : decode cX7_best 67 = .ok (.iload_n 2, 1) := by decide +kernel
theorem dX7_best_68 : decode cX7_best 68 = .ok (.aload_n 0, 1) := by decide +kernel
theorem dX7_best_69 : decode cX7_best 69 = .ok (.getfield 74, 3) := by decide +kernel
theorem dX7_best_72 : decode cX7_best 72 = .ok (.if_icmp .ne 52, 3) := by decide +kernel
theorem dX7_best_75 : decode cX7_best 75 = .ok (.aload_n 0, 1) := by decide +kernel
theorem dX7_best_76 : decode cX7_best 76 = .ok (.invokevirtual 145, 3) := by decide +kernel
theorem dX7_best_79 : decode cX7_best 79 = .ok (.istore_n 3, 1) := by decide +kernel
theorem dX7_best_80 : decode cX7_best 80 = .ok (.iload_n 1, 1) := by decide +kernel
theorem dX7_best_81 : decode cX7_best 81 = .ok (.iconst (-1), 1) := by decide +kernel
theorem dX7_best_82 : decode cX7_best 82 = .ok (.if_icmp .eq 8, 3) := by decide +kernel
theorem dX7_best_85 : decode cX7_best 85 = .ok (.iload_n 3, 1) := by decide +kernel
theorem dX7_best_86 : decode cX7_best 86 = .ok (.iload_n 1, 1) := by decide +kernel
theorem dX7_best_87 : decode cX7_best 87 = .ok (.if_icmp .ge 37, 3) := by decide +kernel
theorem dX7_best_90 : decode cX7_best 90 = .ok (.iload_n 3, 1) := by decide +kernel
theorem dX7_best_91 : decode cX7_best 91 = .ok (.istore_n 1, 1) := by decide +kernel
