theorem dX7_bar_21 : decode cX7_bar 21 = .ok (.invokestatic 78, 3) := by decide +kernel
theorem dX7_bar_24 : decode cX7_bar 24 = .ok (.ifCond .eq 21, 3) := by decide +kernel
theorem dX7_bar_27 : decode cX7_bar 27 = .ok (.aload_n 0, 1) := by decide +kernel
theorem dX7_bar_28 : decode cX7_bar 28 = .ok (.getfield 23, 3) := by decide +kernel
theorem dX7_bar_31 : decode cX7_bar 31 = .ok (.iconst 5, 1) := by decide +kernel
theorem dX7_bar_32 : decode cX7_bar 32 = .ok (.iload_n 1, 1) := by decide +kernel
theorem dX7_bar_33 : decode cX7_bar 33 = .ok (.imul, 1) := by decide +kernel
theorem dX7_bar_34 : decode cX7_bar 34 = .ok (.iload_n 2, 1) := by decide +kernel
theorem dX7_bar_35 : decode cX7_bar 35 = .ok (.iadd, 1) := by decide +kernel
theorem dX7_bar_36 : decode cX7_bar 36 = .ok (.iaload, 1) := by decide +kernel
theorem dX7_bar_37 : decode cX7_bar 37 = .ok (.iload_n 3, 1) := by decide +kernel
theorem dX7_bar_38 : decode cX7_bar 38 = .ok (.ishr, 1) := by decide +kernel
theorem dX7_bar_39 : decode cX7_bar 39 = .ok (.iconst 1, 1) := by decide +kernel
theorem dX7_bar_40 : decode cX7_bar 40 = .ok (.iand, 1) := by decide +kernel
theorem dX7_bar_41 : decode cX7_bar 41 = .ok (.iconst 1, 1) := by decide +kernel
theorem dX7_bar_42 : decode cX7_bar 42 = .ok (.if_icmp .ne 5, 3) := by decide +kernel
theorem dX7_bar_45 : decode cX7_bar 45 = .ok (.iconst 0, 1) := by decide +kernel
theorem dX7_bar_46 : decode cX7_bar 46 = .ok (.ireturn, 1) := by decide +kernel
theorem dX7_bar_47 : decode cX7_bar 47 = .ok (.aload_n 0, 1) := by decide +kernel
theorem dX7_bar_48 : decode cX7_bar 48 = .ok (.getfield 23, 3) := by decide +kernel
theorem dX7_bar_51 : decode cX7_bar 51 = .ok (.iconst 5, 1) := by decide +kernel
theorem dX7_bar_52 : decode cX7_bar 52 = .ok (.iload_n 1, 1) := by decide +kernel
theorem dX7_bar_53 : decode cX7_bar 53 = .ok (.imul, 1) := by decide +kernel
theorem dX7_bar_54 : decode cX7_bar 54 = .ok (.iload_n 2, 1) := by decide +kernel
theorem dX7_bar_55 : decode cX7_bar 55 = .ok (.iadd, 1) := by decide +kernel
theorem dX7_bar_56 : decode cX7_bar 56 = .ok (.dup2, 1) := by decide +kernel
theorem dX7_bar_57 : decode cX7_bar 57 = .ok (.iaload, 1) := by decide +kernel
theorem dX7_bar_58 : decode cX7_bar 58 = .ok (.iconst 1, 1) := by decide +kernel
theorem dX7_bar_59 : decode cX7_bar 59 = .ok (.iload_n 3, 1) := by decide +kernel
theorem dX7_bar_60 : decode cX7_bar 60 = .ok (.ishl, 1) := by decide +kernel
theorem dX7_bar_61 : decode cX7_bar 61 = .ok (.ior, 1) := by decide +kernel
theorem dX7_bar_62 : decode cX7_bar 62 = .ok (.iastore, 1) := by decide +kernel
theorem dX7_bar_63 : decode cX7_bar 63 = .ok (.iload_n 1, 1) := by decide +kernel
theorem dX7_bar_64 : decode cX7_bar 64 = .ok (.iload_n 2, 1) := by decide +kernel
theorem dX7_bar_65 : decode cX7_bar 65 = .ok (.if_icmp .eq 19, 3) := by decide +kernel
theorem dX7_bar_68 : decode cX7_bar 68 = .ok (.aload_n 0, 1) := by decide +kernel
theorem dX7_bar_69 : decode cX7_bar 69 = .ok (.getfield 23, 3) := by decide +kernel
theorem dX7_bar_72 : decode cX7_bar 72 = .ok (.iconst 5, 1) := by decide +kernel
theorem dX7_bar_73 : decode cX7_bar 73 = .ok (.iload_n 2, 1) := by decide +kernel
theorem dX7_bar_74 : decode cX7_bar 74 = .ok (.imul, 1) := by decide +kernel
theorem dX7_bar_75 : decode cX7_bar 75 = .ok (.iload_n 1, 1) := by decide +kernel
theorem dX7_bar_76 : decode cX7_bar 76 = .ok (.iadd, 1) := by decide +kernel
theorem dX7_bar_77 : decode cX7_bar 77 = .ok (.dup2, 1) := by decide +kernel
theorem dX7_bar_78 : decode cX7_bar 78 = .ok (.iaload, 1) := by decide +kernel
theorem dX7_bar_79 : decode cX7_bar 79 = .ok (.iconst 1, 1) := by decide +kernel
theorem dX7_bar_80 : decode cX7_bar 80 = .ok (.iload_n 3, 1) := by decide +kernel
theorem dX7_bar_81 : decode cX7_bar 81 = .ok (.ishl, 1) := by decide +kernel
theorem dX7_bar_82 : decode cX7_bar 82 = .ok (.ior, 1) := by decide +kernel
theorem dX7_bar_83 : decode cX7_bar 83 = .ok (.iastore, 1) := by decide +kernel
theorem dX7_bar_84 : decode cX7_bar 84 = .ok (.aload_n 0, 1) := by decide +kernel
theorem dX7_bar_85 : decode cX7_bar 85 = .ok (.dup, 1) := by decide +kernel
theorem dX7_bar_86 : decode cX7_bar 86 = .ok (.getfield 85, 3) := by decide +kernel
theorem dX7_bar_89 : decode cX7_bar 89 = .ok (.iconst 1, 1) := by decide +kernel
theorem dX7_bar_90 : decode cX7_bar 90 = .ok (.iadd, 1) := by decide +kernel
theorem dX7_bar_91 : decode cX7_bar 91 = .ok (.putfield 85, 3) := by decide +kernel
theorem dX7_bar_94 : decode cX7_bar 94 = .ok (.iconst 1, 1) := by decide +kernel
theorem dX7_bar_95 : decode cX7_bar 95 = .ok (.ireturn, 1) := by decide +kernel
theorem dX7_work_0 : decode cX7_work 0 = .ok (.iload_n 1, 1) := by decide +kernel
theorem dX7_work_1 : decode cX7_work 1 = .ok (.ldc 88, 2) := by decide +kernel
theorem dX7_work_3 : decode cX7_work 3 = .ok (.idiv, 1) := by decide +kernel
theorem dX7_work_4 : decode cX7_work 4 = .ok (.istore_n 3, 1) := by decide +kernel
theorem dX7_work_5 : decode cX7_work 5 = .ok (.iload_n 1, 1) := by decide +kernel
theorem dX7_work_6 : decode cX7_work 6 = .ok (.sipush 10000, 3) := by decide +kernel
theorem dX7_work_9 : decode cX7_work 9 = .ok (.idiv, 1) := by decide +kernel
theorem dX7_work_10 : decode cX7_work 10 = .ok (.bipush 10, 2) := by decide +kernel
theorem dX7_work_12 : decode cX7_work 12 = .ok (.irem, 1) := by decide +kernel
theorem dX7_work_13 : decode cX7_work 13 = .ok (.istore 4, 2) := by decide +kernel
theorem dX7_work_15 : decode cX7_work 15 = .ok (.iload_n 1, 1) := by decide +kernel
theorem dX7_work_16 : decode cX7_work 16 = .ok (.sipush 1000, 3) := by decide +kernel
theorem dX7_work_19 : decode cX7_work 19 = .ok (.idiv, 1) := by decide +kernel
theorem dX7_work_20 : decode cX7_work 20 = .ok (.bipush 10, 2) := by decide +kernel
theorem dX7_work_22 : decode cX7_work 22 = .ok (.irem, 1) := by decide +kernel
theorem dX7_work_23 : decode cX7_work 23 = .ok (.istore 5, 2) := by decide +kernel
theorem dX7_work_25 : decode cX7_work 25 = .ok (.iload_n 1, 1) := by decide +kernel
theorem dX7_work_26 : decode cX7_work 26 = .ok (.bipush 100, 2) := by decide +kernel
theorem dX7_work_28 : decode cX7_work 28 = .ok (.idiv, 1) := by decide +kernel
theorem dX7_work_29 : decode cX7_work 29 = .ok (.bipush 10, 2) := by decide +kernel
theorem dX7_work_31 : decode cX7_work 31 = .ok (.irem, 1) := by decide +kernel
theorem dX7_work_32 : decode cX7_work 32 = .ok (.istore 6, 2) := by decide +kernel
theorem dX7_work_34 : decode cX7_work 34 = .ok (.iload_n 1, 1) := by decide +kernel
theorem dX7_work_35 : decode cX7_work 35 = .ok (.bipush 100, 2) := by decide +kernel
theorem dX7_work_37 : decode cX7_work 37 = .ok (.irem, 1) := by decide +kernel
theorem dX7_work_38 : decode cX7_work 38 = .ok (.istore 7, 2) := by decide +kernel
theorem dX7_work_40 : decode cX7_work 40 = .ok (.iload_n 1, 1) := by decide +kernel
theorem dX7_work_41 : decode cX7_work 41 = .ok (.ifCond .lt 58, 3) := by decide +kernel
theorem dX7_work_44 : decode cX7_work 44 = .ok (.iload_n 3, 1) := by decide +kernel
theorem dX7_work_45 : decode cX7_work 45 = .ok (.iconst 1, 1) := by decide +kernel
theorem dX7_work_46 : decode cX7_work 46 = .ok (.bipush 40, 2) := by decide +kernel
theorem dX7_work_48 : decode cX7_work 48 = .ok (.invokestatic 78, 3) := by decide +kernel
theorem dX7_work_51 : decode cX7_work 51 = .ok (.ifCond .eq 48, 3) := by decide +kernel
theorem dX7_work_54 : decode cX7_work 54 = .ok (.iload 4, 2) := by decide +kernel
theorem dX7_work_56 : decode cX7_work 56 = .ok (.iconst 1, 1) := by decide +kernel
theorem dX7_work_57 : decode cX7_work 57 = .ok (.if_icmp .lt 42, 3) := by decide +kernel
theorem dX7_work_60 : decode cX7_work 60 = .ok (.iload 5, 2) := by decide +kernel
theorem dX7_work_62 : decode cX7_work 62 = .ok (.iconst 3, 1) := by decide +kernel
theorem dX7_work_63 : decode cX7_work 63 = .ok (.if_icmp .gt 36, 3) := by decide +kernel
theorem dX7_work_66 : decode cX7_work 66 = .ok (.iload 6, 2) := by decide +kernel
theorem dX7_work_68 : decode cX7_work 68 = .ok (.iconst 4, 1) := by decide +kernel
theorem dX7_work_69 : decode cX7_work 69 = .ok (.if_icmp .gt 30, 3) := by decide +kernel
theorem dX7_work_72 : decode cX7_work 72 = .ok (.iload 7, 2) := by decide +kernel
theorem dX7_work_74 : decode cX7_work 74 = .ok (.aload_n 0, 1) := by decide +kernel
theorem dX7_work_75 : decode cX7_work 75 = .ok (.getfield 82, 3) := by decide +kernel
theorem dX7_work_78 : decode cX7_work 78 = .ok (.if_icmp .ge 21, 3) := by decide +kernel
theorem dX7_work_81 : decode cX7_work 81 = .ok (.iload_n 2, 1) := by decide +kernel
theorem dX7_work_82 : decode cX7_work 82 = .ok (.iconst (-1), 1) := by decide +kernel
theorem dX7_work_83 : decode cX7_work 83 = .ok (.iconst 3, 1) := by decide +kernel
theorem dX7_work_84 : decode cX7_work 84 = .ok (.invokestatic 78, 3) := by decide +kernel
theorem dX7_work_87 : decode cX7_work 87 = .ok (.ifCond .eq 12, 3) := by decide +kernel
theorem dX7_work_90 : decode cX7_work 90 = .ok (.aload_n 0, 1) := by decide +kernel
theorem dX7_work_91 : decode cX7_work 91 = .ok (.getfield 74, 3) := by decide +kernel
theorem dX7_work_94 : decode cX7_work 94 = .ok (.bipush 40, 2) := by decide +kernel
theorem dX7_work_96 : decode cX7_work 96 = .ok (.if_icmp .ne 5, 3) := by decide +kernel
theorem dX7_work_99 : decode cX7_work 99 = .ok (.iconst (-1), 1) := by decide +kernel
theorem dX7_work_100 : decode cX7_work 100 = .ok (.ireturn, 1) := by decide +kernel
theorem dX7_work_101 : decode cX7_work 101 = .ok (.aload_n 0, 1) := by decide +kernel
theorem dX7_work_102 : decode cX7_work 102 = .ok (.getfield 26, 3) := by decide +kernel
theorem dX7_work_105 : decode cX7_work 105 = .ok (.aload_n 0, 1) := by decide +kernel
theorem dX7_work_106 : decode cX7_work 106 = .ok (.getfield 74, 3) := by decide +kernel
theorem dX7_work_109 : decode cX7_work 109 = .ok (.iload_n 3, 1) := by decide +kernel
theorem dX7_work_110 : decode cX7_work 110 = .ok (.iastore, 1) := by decide +kernel
theorem dX7_work_111 : decode cX7_work 111 = .ok (.aload_n 0, 1) := by decide +kernel
theorem dX7_work_112 : decode cX7_work 112 = .ok (.getfield 29, 3) := by decide +kernel
theorem dX7_work_115 : decode cX7_work 115 = .ok (.aload_n 0, 1) := by decide +kernel
theorem dX7_work_116 : decode cX7_work 116 = .ok (.getfield 74, 3) := by decide +kernel
theorem dX7_work_119 : decode cX7_work 119 = .ok (.iload 5, 2) := by decide +kernel
theorem dX7_work_121 : decode cX7_work 121 = .ok (.iastore, 1) := by decide +kernel
theorem dX7_work_122 : decode cX7_work 122 = .ok (.aload_n 0, 1) := by decide +kernel
theorem dX7_work_123 : decode cX7_work 123 = .ok (.getfield 32, 3) := by decide +kernel
theorem dX7_work_126 : decode cX7_work 126 = .ok (.aload_n 0, 1) := by decide +kernel
theorem dX7_work_127 : decode cX7_work 127 = .ok (.getfield 74, 3) := by decide +kernel
theorem dX7_work_130 : decode cX7_work 130 = .ok (.iload 4, 2) := by decide +kernel
theorem dX7_work_132 : decode cX7_work 132 = .ok (.iastore, 1) := by decide +kernel
theorem dX7_work_133 : decode cX7_work 133 = .ok (.aload_n 0, 1) := by decide +kernel
theorem dX7_work_134 : decode cX7_work 134 = .ok (.getfield 35, 3) := by decide +kernel
theorem dX7_work_137 : decode cX7_work 137 = .ok (.aload_n 0, 1) := by decide +kernel
theorem dX7_work_138 : decode cX7_work 138 = .ok (.getfield 74, 3) := by decide +kernel
theorem dX7_work_141 : decode cX7_work 141 = .ok (.iload 7, 2) := by decide +kernel
theorem dX7_work_143 : decode cX7_work 143 = .ok (.iastore, 1) := by decide +kernel
theorem dX7_work_144 : decode cX7_work 144 = .ok (.aload_n 0, 1) := by decide +kernel
theorem dX7_work_145 : decode cX7_work 145 = .ok (.getfield 38, 3) := by decide +kernel
theorem dX7_work_148 : decode cX7_work 148 = .ok (.aload_n 0, 1) := by decide +kernel
theorem dX7_work_149 : decode cX7_work 149 = .ok (.getfield 74, 3) := by decide +kernel
theorem dX7_work_152 : decode cX7_work 152 = .ok (.iload 6, 2) := by decide +kernel
theorem dX7_work_154 : decode cX7_work 154 = .ok (.iastore, 1) := by decide +kernel
theorem dX7_work_155 : decode cX7_work 155 = .ok (.aload_n 0, 1) := by decide +kernel
theorem dX7_work_156 : decode cX7_work 156 = .ok (.getfield 41, 3) := by decide +kernel
theorem dX7_work_159 : decode cX7_work 159 = .ok (.aload_n 0, 1) := by decide +kernel
theorem dX7_work_160 : decode cX7_work 160 = .ok (.getfield 74, 3) := by decide +kernel
theorem dX7_work_163 : decode cX7_work 163 = .ok (.iload_n 2, 1) := by decide +kernel
theorem dX7_work_164 : decode cX7_work 164 = .ok (.iastore, 1) := by decide +kernel
theorem dX7_work_165 : decode cX7_work 165 = .ok (.aload_n 0, 1) := by decide +kernel
theorem dX7_work_166 : decode cX7_work 166 = .ok (.getfield 44, 3) := by decide +kernel
theorem dX7_work_169 : decode cX7_work 169 = .ok (.aload_n 0, 1) := by decide +kernel
theorem dX7_work_170 : decode cX7_work 170 = .ok (.getfield 74, 3) := by decide +kernel
theorem dX7_work_173 : decode cX7_work 173 = .ok (.iconst (-1), 1) := by decide +kernel
theorem dX7_work_174 : decode cX7_work 174 = .ok (.iastore, 1) := by decide +kernel
theorem dX7_work_175 : decode cX7_work 175 = .ok (.aload_n 0, 1) := by decide +kernel
theorem dX7_work_176 : decode cX7_work 176 = .ok (.dup, 1) := by decide +kernel
theorem dX7_work_177 : decode cX7_work 177 = .ok (.getfield 74, 3) := by decide +kernel
theorem dX7_work_180 : decode cX7_work 180 = .ok (.iconst 1, 1) := by decide +kernel
theorem dX7_work_181 : decode cX7_work 181 = .ok (.iadd, 1) := by decide +kernel
theorem dX7_work_182 : decode cX7_work 182 = .ok (.putfield 74, 3) := by decide +kernel
theorem dX7_work_185 : decode cX7_work 185 = .ok (.aload_n 0, 1) := by decide +kernel
theorem dX7_work_186 : decode cX7_work 186 = .ok (.getfield 74, 3) := by decide +kernel
theorem dX7_work_189 : decode cX7_work 189 = .ok (.iconst 1, 1) := by decide +kernel
theorem dX7_work_190 : decode cX7_work 190 = .ok (.isub, 1) := by decide +kernel
theorem dX7_work_191 : decode cX7_work 191 = .ok (.ireturn, 1) := by decide +kernel
theorem dX7_isPut_0 : decode cX7_isPut 0 = .ok (.aload_n 0, 1) := by decide +kernel
theorem dX7_isPut_1 : decode cX7_isPut 1 = .ok (.getfield 44, 3) := by decide +kernel
theorem dX7_isPut_4 : decode cX7_isPut 4 = .ok (.iload_n 1, 1) := by decide +kernel
theorem dX7_isPut_5 : decode cX7_isPut 5 = .ok (.iaload, 1) := by decide +kernel
theorem dX7_isPut_6 : decode cX7_isPut 6 = .ok (.iconst (-1), 1) := by decide +kernel
theorem dX7_isPut_7 : decode cX7_isPut 7 = .ok (.if_icmp .eq 7, 3) := by decide +kernel
theorem dX7_isPut_10 : decode cX7_isPut 10 = .ok (.iconst 1, 1) := by decide +kernel
theorem dX7_isPut_11 : decode cX7_isPut 11 = .ok (.goto 4, 3) := by decide +kernel
theorem dX7_isPut_14 : decode cX7_isPut 14 = .ok (.iconst 0, 1) := by decide +kernel
theorem dX7_isPut_15 : decode cX7_isPut 15 = .ok (.ireturn, 1) := by decide +kernel
theorem dX7_isBegun_0 : decode cX7_isBegun 0 = .ok (.aload_n 0, 1) := by decide +kernel
theorem dX7_isBegun_1 : decode cX7_isBegun 1 = .ok (.iload_n 1, 1) := by decide +kernel
theorem dX7_isBegun_2 : decode cX7_isBegun 2 = .ok (.invokevirtual 89, 3) := by decide +kernel
theorem dX7_isBegun_5 : decode cX7_isBegun 5 = .ok (.ifCond .eq 20, 3) := by decide +kernel
theorem dX7_isBegun_8 : decode cX7_isBegun 8 = .ok (.aload_n 0, 1) := by decide +kernel
theorem dX7_isBegun_9 : decode cX7_isBegun 9 = .ok (.getfield 44, 3) := by decide +kernel
theorem dX7_isBegun_12 : decode cX7_isBegun 12 = .ok (.iload_n 1, 1) := by decide +kernel
theorem dX7_isBegun_13 : decode cX7_isBegun 13 = .ok (.iaload, 1) := by decide +kernel
theorem dX7_isBegun_14 : decode cX7_isBegun 14 = .ok (.aload_n 0, 1) := by decide +kernel
theorem dX7_isBegun_15 : decode cX7_isBegun 15 = .ok (.getfield 93, 3) := by decide +kernel
theorem dX7_isBegun_18 : decode cX7_isBegun 18 = .ok (.if_icmp .ge 7, 3) := by decide +kernel
theorem dX7_isBegun_21 : decode cX7_isBegun 21 = .ok (.iconst 1, 1) := by decide +kernel
theorem dX7_isBegun_22 : decode cX7_isBegun 22 = .ok (.goto 4, 3) := by decide +kernel
theorem dX7_isBegun_25 : decode cX7_isBegun 25 = .ok (.iconst 0, 1) := by decide +kernel
theorem dX7_isBegun_26 : decode cX7_isBegun 26 = .ok (.ireturn, 1) := by decide +kernel
theorem dX7_endOf_0 : decode cX7_endOf 0 = .ok (.aload_n 0, 1) := by decide +kernel
theorem dX7_endOf_1 : decode cX7_endOf 1 = .ok (.getfield 44, 3) := by decide +kernel
theorem dX7_endOf_4 : decode cX7_endOf 4 = .ok (.iload_n 1, 1) := by decide +kernel
theorem dX7_endOf_5 : decode cX7_endOf 5 = .ok (.iaload, 1) := by decide +kernel
theorem dX7_endOf_6 : decode cX7_endOf 6 = .ok (.aload_n 0, 1) := by decide +kernel
theorem dX7_endOf_7 : decode cX7_endOf 7 = .ok (.getfield 26, 3) := by decide +kernel
theorem dX7_endOf_10 : decode cX7_endOf 10 = .ok (.iload_n 1, 1) := by decide +kernel
theorem dX7_endOf_11 : decode cX7_endOf 11 = .ok (.iaload, 1) := by decide +kernel
theorem dX7_endOf_12 : decode cX7_endOf 12 = .ok (.iadd, 1) := by decide +kernel
theorem dX7_endOf_13 : decode cX7_endOf 13 = .ok (.ireturn, 1) := by decide +kernel
theorem dX7_isDone_0 : decode cX7_isDone 0 = .ok (.aload_n 0, 1) := by decide +kernel
theorem dX7_isDone_1 : decode cX7_isDone 1 = .ok (.iload_n 1, 1) := by decide +kernel
theorem dX7_isDone_2 : decode cX7_isDone 2 = .ok (.invokevirtual 89, 3) := by decide +kernel
theorem dX7_isDone_5 : decode cX7_isDone 5 = .ok (.ifCond .eq 19, 3) := by decide +kernel
theorem dX7_isDone_8 : decode cX7_isDone 8 = .ok (.aload_n 0, 1) := by decide +kernel
theorem dX7_isDone_9 : decode cX7_isDone 9 = .ok (.iload_n 1, 1) := by decide +kernel
theorem dX7_isDone_10 : decode cX7_isDone 10 = .ok (.invokevirtual 96, 3) := by decide +kernel
theorem dX7_isDone_13 : decode cX7_isDone 13 = .ok (.aload_n 0, 1) := by decide +kernel
theorem dX7_isDone_14 : decode cX7_isDone 14 = .ok (.getfield 93, 3) := by decide +kernel
theorem dX7_isDone_17 : decode cX7_isDone 17 = .ok (.if_icmp .gt 7, 3) := by decide +kernel
theorem dX7_isDone_20 : decode cX7_isDone 20 = .ok (.iconst 1, 1) := by decide +kernel
theorem dX7_isDone_21 : decode cX7_isDone 21 = .ok (.goto 4, 3) := by decide +kernel
theorem dX7_isDone_24 : decode cX7_isDone 24 = .ok (.iconst 0, 1) := by decide +kernel
theorem dX7_isDone_25 : decode cX7_isDone 25 = .ok (.ireturn, 1) := by decide +kernel
theorem dX7_hangs_0 : decode cX7_hangs 0 = .ok (.aload_n 0, 1) := by decide +kernel
theorem dX7_hangs_1 : decode cX7_hangs 1 = .ok (.getfield 56, 3) := by decide +kernel
theorem dX7_hangs_4 : decode cX7_hangs 4 = .ok (.astore_n 3, 1) := by decide +kernel
theorem dX7_hangs_5 : decode cX7_hangs 5 = .ok (.iconst 0, 1) := by decide +kernel
theorem dX7_hangs_6 : decode cX7_hangs 6 = .ok (.istore 4, 2) := by decide +kernel
theorem dX7_hangs_8 : decode cX7_hangs 8 = .ok (.iload 4, 2) := by decide +kernel
theorem dX7_hangs_10 : decode cX7_hangs 10 = .ok (.aload_n 0, 1) := by decide +kernel
theorem dX7_hangs_11 : decode cX7_hangs 11 = .ok (.getfield 74, 3) := by decide +kernel
theorem dX7_hangs_14 : decode cX7_hangs 14 = .ok (.if_icmp .ge 25, 3) := by decide +kernel
theorem dX7_hangs_17 : decode cX7_hangs 17 = .ok (.aload_n 3, 1) := by decide +kernel
theorem dX7_hangs_18 : decode cX7_hangs 18 = .ok (.iload 4, 2) := by decide +kernel
theorem dX7_hangs_20 : decode cX7_hangs 20 = .ok (.aload_n 0, 1) := by decide +kernel
theorem dX7_hangs_21 : decode cX7_hangs 21 = .ok (.getfield 50, 3) := by decide +kernel
theorem dX7_hangs_24 : decode cX7_hangs 24 = .ok (.bipush 40, 2) := by decide +kernel
theorem dX7_hangs_26 : decode cX7_hangs 26 = .ok (.iload_n 1, 1) := by decide +kernel
theorem dX7_hangs_27 : decode cX7_hangs 27 = .ok (.imul, 1) := by decide +kernel
theorem dX7_hangs_28 : decode cX7_hangs 28 = .ok (.iload 4, 2) := by decide +kernel
theorem dX7_hangs_30 : decode cX7_hangs 30 = .ok (.iadd, 1) := by decide +kernel
theorem dX7_hangs_31 : decode cX7_hangs 31 = .ok (.baload, 1) := by decide +kernel
theorem dX7_hangs_32 : decode cX7_hangs 32 = .ok (.bastore, 1) := by decide +kernel
theorem dX7_hangs_33 : decode cX7_hangs 33 = .ok (.iinc 4 1, 3) := by decide +kernel
theorem dX7_hangs_36 : decode cX7_hangs 36 = .ok (.goto (-28), 3) := by decide +kernel
theorem dX7_hangs_39 : decode cX7_hangs 39 = .ok (.iconst 1, 1) := by decide +kernel
theorem dX7_hangs_40 : decode cX7_hangs 40 = .ok (.istore 4, 2) := by decide +kernel
theorem dX7_hangs_42 : decode cX7_hangs 42 = .ok (.iload 4, 2) := by decide +kernel
theorem dX7_hangs_44 : decode cX7_hangs 44 = .ok (.ifCond .eq 86, 3) := by decide +kernel
theorem dX7_hangs_47 : decode cX7_hangs 47 = .ok (.iconst 0, 1) := by decide +kernel
theorem dX7_hangs_48 : decode cX7_hangs 48 = .ok (.istore 4, 2) := by decide +kernel
theorem dX7_hangs_50 : decode cX7_hangs 50 = .ok (.iconst 0, 1) := by decide +kernel
theorem dX7_hangs_51 : decode cX7_hangs 51 = .ok (.istore 5, 2) := by decide +kernel
theorem dX7_hangs_53 : decode cX7_hangs 53 = .ok (.iload 5, 2) := by decide +kernel
theorem dX7_hangs_55 : decode cX7_hangs 55 = .ok (.aload_n 0, 1) := by decide +kernel
theorem dX7_hangs_56 : decode cX7_hangs 56 = .ok (.getfield 74, 3) := by decide +kernel
theorem dX7_hangs_59 : decode cX7_hangs 59 = .ok (.if_icmp .ge 68, 3) := by decide +kernel
theorem dX7_hangs_62 : decode cX7_hangs 62 = .ok (.iconst 0, 1) := by decide +kernel
theorem dX7_hangs_63 : decode cX7_hangs 63 = .ok (.istore 6, 2) := by decide +kernel
theorem dX7_hangs_65 : decode cX7_hangs 65 = .ok (.iload 6, 2) := by decide +kernel
theorem dX7_hangs_67 : decode cX7_hangs 67 = .ok (.aload_n 0, 1) := by decide +kernel
theorem dX7_hangs_68 : decode cX7_hangs 68 = .ok (.getfield 74, 3) := by decide +kernel
theorem dX7_hangs_71 : decode cX7_hangs 71 = .ok (.if_icmp .ge 50, 3) := by decide +kernel
theorem dX7_hangs_74 : decode cX7_hangs 74 = .ok (.aload_n 3, 1) := by decide +kernel
theorem dX7_hangs_75 : decode cX7_hangs 75 = .ok (.iload 5, 2) := by decide +kernel
theorem dX7_hangs_77 : decode cX7_hangs 77 = .ok (.baload, 1) := by decide +kernel
theorem dX7_hangs_78 : decode cX7_hangs 78 = .ok (.ifCond .eq 43, 3) := by decide +kernel
theorem dX7_hangs_81 : decode cX7_hangs 81 = .ok (.aload_n 3, 1) := by decide +kernel
theorem dX7_hangs_82 : decode cX7_hangs 82 = .ok (.iload 6, 2) := by decide +kernel
theorem dX7_hangs_84 : decode cX7_hangs 84 = .ok (.baload, 1) := by decide +kernel
theorem dX7_hangs_85 : decode cX7_hangs 85 = .ok (.ifCond .ne 30, 3) := by decide +kernel
theorem dX7_hangs_88 : decode cX7_hangs 88 = .ok (.aload_n 0, 1) := by decide +kernel
theorem dX7_hangs_89 : decode cX7_hangs 89 = .ok (.getfield 50, 3) := by decide +kernel
theorem dX7_hangs_92 : decode cX7_hangs 92 = .ok (.bipush 40, 2) := by decide +kernel
theorem dX7_hangs_94 : decode cX7_hangs 94 = .ok (.iload 5, 2) := by decide +kernel
theorem dX7_hangs_96 : decode cX7_hangs 96 = .ok (.imul, 1) := by decide +kernel
theorem dX7_hangs_97 : decode cX7_hangs 97 = .ok (.iload 6, 2) := by decide +kernel
theorem dX7_hangs_99 : decode cX7_hangs 99 = .ok (.iadd, 1) := by decide +kernel
theorem dX7_hangs_100 : decode cX7_hangs 100 = .ok (.baload, 1) := by decide +kernel
theorem dX7_hangs_101 : decode cX7_hangs 101 = .ok (.ifCond .ne 6, 3) := by decide +kernel
theorem dX7_hangs_104 : decode cX7_hangs 104 = .ok (.goto 11, 3) := by decide +kernel
theorem dX7_hangs_107 : decode cX7_hangs 107 = .ok (.aload_n 3, 1) := by decide +kernel
theorem dX7_hangs_108 : decode cX7_hangs 108 = .ok (.iload 6, 2) := by decide +kernel
theorem dX7_hangs_110 : decode cX7_hangs 110 = .ok (.iconst 1, 1) := by decide +kernel
theorem dX7_hangs_111 : decode cX7_hangs 111 = .ok (.bastore, 1) := by decide +kernel
theorem dX7_hangs_112 : decode cX7_hangs 112 = .ok (.iconst 1, 1) := by decide +kernel
theorem dX7_hangs_113 : decode cX7_hangs 113 = .ok (.istore 4, 2) := by decide +kernel
theorem dX7_hangs_115 : decode cX7_hangs 115 = .ok (.iinc 6 1, 3) := by decide +kernel
theorem dX7_hangs_118 : decode cX7_hangs 118 = .ok (.goto (-53), 3) := by decide +kernel
theorem dX7_hangs_121 : decode cX7_hangs 121 = .ok (.iinc 5 1, 3) := by decide +kernel
theorem dX7_hangs_124 : decode cX7_hangs 124 = .ok (.goto (-71), 3) := by decide +kernel
theorem dX7_hangs_127 : decode cX7_hangs 127 = .ok (.goto (-85), 3) := by decide +kernel
theorem dX7_hangs_130 : decode cX7_hangs 130 = .ok (.aload_n 3, 1) := by decide +kernel
theorem dX7_hangs_131 : decode cX7_hangs 131 = .ok (.iload_n 2, 1) := by decide +kernel
theorem dX7_hangs_132 : decode cX7_hangs 132 = .ok (.baload, 1) := by decide +kernel
theorem dX7_hangs_133 : decode cX7_hangs 133 = .ok (.ireturn, 1) := by decide +kernel
theorem dX7_canNeed_0 : decode cX7_canNeed 0 = .ok (.aload_n 0, 1) := by decide +kernel
theorem dX7_canNeed_1 : decode cX7_canNeed 1 = .ok (.iload_n 1, 1) := by decide +kernel
theorem dX7_canNeed_2 : decode cX7_canNeed 2 = .ok (.invokevirtual 100, 3) := by decide +kernel
theorem dX7_canNeed_5 : decode cX7_canNeed 5 = .ok (.ifCond .eq 37, 3) := by decide +kernel
theorem dX7_canNeed_8 : decode cX7_canNeed 8 = .ok (.aload_n 0, 1) := by decide +kernel
theorem dX7_canNeed_9 : decode cX7_canNeed 9 = .ok (.iload_n 2, 1) := by decide +kernel
theorem dX7_canNeed_10 : decode cX7_canNeed 10 = .ok (.invokevirtual 100, 3) := by decide +kernel
theorem dX7_canNeed_13 : decode cX7_canNeed 13 = .ok (.ifCond .eq 29, 3) := by decide +kernel
theorem dX7_canNeed_16 : decode cX7_canNeed 16 = .ok (.iload_n 1, 1) := by decide +kernel
theorem dX7_canNeed_17 : decode cX7_canNeed 17 = .ok (.iload_n 2, 1) := by decide +kernel
theorem dX7_canNeed_18 : decode cX7_canNeed 18 = .ok (.if_icmp .eq 24, 3) := by decide +kernel
theorem dX7_canNeed_21 : decode cX7_canNeed 21 = .ok (.aload_n 0, 1) := by decide +kernel
theorem dX7_canNeed_22 : decode cX7_canNeed 22 = .ok (.iload_n 1, 1) := by decide +kernel
theorem dX7_canNeed_23 : decode cX7_canNeed 23 = .ok (.invokevirtual 103, 3) := by decide +kernel
theorem dX7_canNeed_26 : decode cX7_canNeed 26 = .ok (.ifCond .ne 16, 3) := by decide +kernel
theorem dX7_canNeed_29 : decode cX7_canNeed 29 = .ok (.aload_n 0, 1) := by decide +kernel
theorem dX7_canNeed_30 : decode cX7_canNeed 30 = .ok (.iload_n 2, 1) := by decide +kernel
theorem dX7_canNeed_31 : decode cX7_canNeed 31 = .ok (.iload_n 1, 1) := by decide +kernel
theorem dX7_canNeed_32 : decode cX7_canNeed 32 = .ok (.invokevirtual 106, 3) := by decide +kernel
theorem dX7_canNeed_35 : decode cX7_canNeed 35 = .ok (.ifCond .ne 7, 3) := by decide +kernel
theorem dX7_canNeed_38 : decode cX7_canNeed 38 = .ok (.iconst 1, 1) := by decide +kernel
theorem dX7_canNeed_39 : decode cX7_canNeed 39 = .ok (.goto 4, 3) := by decide +kernel
theorem dX7_canNeed_42 : decode cX7_canNeed 42 = .ok (.iconst 0, 1) := by decide +kernel
theorem dX7_canNeed_43 : decode cX7_canNeed 43 = .ok (.ireturn, 1) := by decide +kernel
theorem dX7_need_0 : decode cX7_need 0 = .ok (.aload_n 0, 1) := by decide +kernel
theorem dX7_need_1 : decode cX7_need 1 = .ok (.iload_n 1, 1) := by decide +kernel
theorem dX7_need_2 : decode cX7_need 2 = .ok (.iload_n 2, 1) := by decide +kernel
theorem dX7_need_3 : decode cX7_need 3 = .ok (.invokevirtual 110, 3) := by decide +kernel
theorem dX7_need_6 : decode cX7_need 6 = .ok (.ifCond .eq 17, 3) := by decide +kernel
theorem dX7_need_9 : decode cX7_need 9 = .ok (.aload_n 0, 1) := by decide +kernel
theorem dX7_need_10 : decode cX7_need 10 = .ok (.getfield 50, 3) := by decide +kernel
theorem dX7_need_13 : decode cX7_need 13 = .ok (.bipush 40, 2) := by decide +kernel
theorem dX7_need_15 : decode cX7_need 15 = .ok (.iload_n 1, 1) := by decide +kernel
theorem dX7_need_16 : decode cX7_need 16 = .ok (.imul, 1) := by decide +kernel
theorem dX7_need_17 : decode cX7_need 17 = .ok (.iload_n 2, 1) := by decide +kernel
theorem dX7_need_18 : decode cX7_need 18 = .ok (.iadd, 1) := by decide +kernel
theorem dX7_need_19 : decode cX7_need 19 = .ok (.baload, 1) := by decide +kernel
theorem dX7_need_20 : decode cX7_need 20 = .ok (.ifCond .eq 5, 3) := by decide +kernel
theorem dX7_need_23 : decode cX7_need 23 = .ok (.iconst 0, 1) := by decide +kernel
theorem dX7_need_24 : decode cX7_need 24 = .ok (.ireturn, 1) := by decide +kernel
theorem dX7_need_25 : decode cX7_need 25 = .ok (.aload_n 0, 1) := by decide +kernel
theorem dX7_need_26 : decode cX7_need 26 = .ok (.getfield 50, 3) := by decide +kernel
theorem dX7_need_29 : decode cX7_need 29 = .ok (.bipush 40, 2) := by decide +kernel
theorem dX7_need_31 : decode cX7_need 31 = .ok (.iload_n 1, 1) := by decide +kernel
theorem dX7_need_32 : decode cX7_need 32 = .ok (.imul, 1) := by decide +kernel
theorem dX7_need_33 : decode cX7_need 33 = .ok (.iload_n 2, 1) := by decide +kernel
theorem dX7_need_34 : decode cX7_need 34 = .ok (.iadd, 1) := by decide +kernel
theorem dX7_need_35 : decode cX7_need 35 = .ok (.iconst 1, 1) := by decide +kernel
theorem dX7_need_36 : decode cX7_need 36 = .ok (.bastore, 1) := by decide +kernel
theorem dX7_need_37 : decode cX7_need 37 = .ok (.iconst 1, 1) := by decide +kernel
theorem dX7_need_38 : decode cX7_need 38 = .ok (.ireturn, 1) := by decide +kernel
theorem dX7_tells_0 : decode cX7_tells 0 = .ok (.aload_n 0, 1) := by decide +kernel
theorem dX7_tells_1 : decode cX7_tells 1 = .ok (.iload_n 1, 1) := by decide +kernel
theorem dX7_tells_2 : decode cX7_tells 2 = .ok (.iload_n 2, 1) := by decide +kernel
theorem dX7_tells_3 : decode cX7_tells 3 = .ok (.invokevirtual 110, 3) := by decide +kernel
theorem dX7_tells_6 : decode cX7_tells 6 = .ok (.ifCond .eq 27, 3) := by decide +kernel
theorem dX7_tells_9 : decode cX7_tells 9 = .ok (.aload_n 0, 1) := by decide +kernel
theorem dX7_tells_10 : decode cX7_tells 10 = .ok (.getfield 38, 3) := by decide +kernel
theorem dX7_tells_13 : decode cX7_tells 13 = .ok (.iload_n 1, 1) := by decide +kernel
theorem dX7_tells_14 : decode cX7_tells 14 = .ok (.iaload, 1) := by decide +kernel
theorem dX7_tells_15 : decode cX7_tells 15 = .ok (.iconst 4, 1) := by decide +kernel
theorem dX7_tells_16 : decode cX7_tells 16 = .ok (.if_icmp .ne 17, 3) := by decide +kernel
theorem dX7_tells_19 : decode cX7_tells 19 = .ok (.aload_n 0, 1) := by decide +kernel
theorem dX7_tells_20 : decode cX7_tells 20 = .ok (.getfield 53, 3) := by decide +kernel
theorem dX7_tells_23 : decode cX7_tells 23 = .ok (.bipush 40, 2) := by decide +kernel
theorem dX7_tells_25 : decode cX7_tells 25 = .ok (.iload_n 1, 1) := by decide +kernel
theorem dX7_tells_26 : decode cX7_tells 26 = .ok (.imul, 1) := by decide +kernel
theorem dX7_tells_27 : decode cX7_tells 27 = .ok (.iload_n 2, 1) := by decide +kernel
theorem dX7_tells_28 : decode cX7_tells 28 = .ok (.iadd, 1) := by decide +kernel
theorem dX7_tells_29 : decode cX7_tells 29 = .ok (.baload, 1) := by decide +kernel
theorem dX7_tells_30 : decode cX7_tells 30 = .ok (.ifCond .eq 5, 3) := by decide +kernel
theorem dX7_tells_33 : decode cX7_tells 33 = .ok (.iconst 0, 1) := by decide +kernel
theorem dX7_tells_34 : decode cX7_tells 34 = .ok (.ireturn, 1) := by decide +kernel
theorem dX7_tells_35 : decode cX7_tells 35 = .ok (.aload_n 0, 1) := by decide +kernel
theorem dX7_tells_36 : decode cX7_tells 36 = .ok (.getfield 50, 3) := by decide +kernel
theorem dX7_tells_39 : decode cX7_tells 39 = .ok (.bipush 40, 2) := by decide +kernel
theorem dX7_tells_41 : decode cX7_tells 41 = .ok (.iload_n 1, 1) := by decide +kernel
theorem dX7_tells_42 : decode cX7_tells 42 = .ok (.imul, 1) := by decide +kernel
theorem dX7_tells_43 : decode cX7_tells 43 = .ok (.iload_n 2, 1) := by decide +kernel
theorem dX7_tells_44 : decode cX7_tells 44 = .ok (.iadd, 1) := by decide +kernel
theorem dX7_tells_45 : decode cX7_tells 45 = .ok (.iconst 1, 1) := by decide +kernel
theorem dX7_tells_46 : decode cX7_tells 46 = .ok (.bastore, 1) := by decide +kernel
theorem dX7_tells_47 : decode cX7_tells 47 = .ok (.aload_n 0, 1) := by decide +kernel
theorem dX7_tells_48 : decode cX7_tells 48 = .ok (.getfield 53, 3) := by decide +kernel
theorem dX7_tells_51 : decode cX7_tells 51 = .ok (.bipush 40, 2) := by decide +kernel
theorem dX7_tells_53 : decode cX7_tells 53 = .ok (.iload_n 1, 1) := by decide +kernel
theorem dX7_tells_54 : decode cX7_tells 54 = .ok (.imul, 1) := by decide +kernel
theorem dX7_tells_55 : decode cX7_tells 55 = .ok (.iload_n 2, 1) := by decide +kernel
theorem dX7_tells_56 : decode cX7_tells 56 = .ok (.iadd, 1) := by decide +kernel
theorem dX7_tells_57 : decode cX7_tells 57 = .ok (.iconst 1, 1) := by decide +kernel
theorem dX7_tells_58 : decode cX7_tells 58 = .ok (.bastore, 1) := by decide +kernel
theorem dX7_tells_59 : decode cX7_tells 59 = .ok (.iconst 1, 1) := by decide +kernel
theorem dX7_tells_60 : decode cX7_tells 60 = .ok (.ireturn, 1) := by decide +kernel
theorem dX7_put_0 : decode cX7_put 0 = .ok (.aload_n 0, 1) := by decide +kernel
theorem dX7_put_1 : decode cX7_put 1 = .ok (.iload_n 1, 1) := by decide +kernel
theorem dX7_put_2 : decode cX7_put 2 = .ok (.invokevirtual 100, 3) := by decide +kernel
theorem dX7_put_5 : decode cX7_put 5 = .ok (.ifCond .eq 33, 3) := by decide +kernel
theorem dX7_put_8 : decode cX7_put 8 = .ok (.aload_n 0, 1) := by decide +kernel
theorem dX7_put_9 : decode cX7_put 9 = .ok (.iload_n 1, 1) := by decide +kernel
theorem dX7_put_10 : decode cX7_put 10 = .ok (.invokevirtual 103, 3) := by decide +kernel
theorem dX7_put_13 : decode cX7_put 13 = .ok (.ifCond .ne 25, 3) := by decide +kernel
theorem dX7_put_16 : decode cX7_put 16 = .ok (.iload_n 2, 1) := by decide +kernel
theorem dX7_put_17 : decode cX7_put 17 = .ok (.aload_n 0, 1) := by decide +kernel
theorem dX7_put_18 : decode cX7_put 18 = .ok (.getfield 93, 3) := by decide +kernel
theorem dX7_put_21 : decode cX7_put 21 = .ok (.if_icmp .lt 17, 3) := by decide +kernel
theorem dX7_put_24 : decode cX7_put 24 = .ok (.iload_n 2, 1) := by decide +kernel
theorem dX7_put_25 : decode cX7_put 25 = .ok (.sipush 400, 3) := by decide +kernel
theorem dX7_put_28 : decode cX7_put 28 = .ok (.aload_n 0, 1) := by decide +kernel
theorem dX7_put_29 : decode cX7_put 29 = .ok (.getfield 26, 3) := by decide +kernel
theorem dX7_put_32 : decode cX7_put 32 = .ok (.iload_n 1, 1) := by decide +kernel
theorem dX7_put_33 : decode cX7_put 33 = .ok (.iaload, 1) := by decide +kernel
theorem dX7_put_34 : decode cX7_put 34 = .ok (.isub, 1) := by decide +kernel
theorem dX7_put_35 : decode cX7_put 35 = .ok (.if_icmp .le 5, 3) := by decide +kernel
theorem dX7_put_38 : decode cX7_put 38 = .ok (.iconst 0, 1) := by decide +kernel
theorem dX7_put_39 : decode cX7_put 39 = .ok (.ireturn, 1) := by decide +kernel
theorem dX7_put_40 : decode cX7_put 40 = .ok (.aload_n 0, 1) := by decide +kernel
theorem dX7_put_41 : decode cX7_put 41 = .ok (.getfield 44, 3) := by decide +kernel
theorem dX7_put_44 : decode cX7_put 44 = .ok (.iload_n 1, 1) := by decide +kernel
theorem dX7_put_45 : decode cX7_put 45 = .ok (.iload_n 2, 1) := by decide +kernel
theorem dX7_put_46 : decode cX7_put 46 = .ok (.iastore, 1) := by decide +kernel
theorem dX7_put_47 : decode cX7_put 47 = .ok (.iconst 1, 1) := by decide +kernel
theorem dX7_put_48 : decode cX7_put 48 = .ok (.ireturn, 1) := by decide +kernel
theorem dX7_take_0 : decode cX7_take 0 = .ok (.aload_n 0, 1) := by decide +kernel
theorem dX7_take_1 : decode cX7_take 1 = .ok (.iload_n 1, 1) := by decide +kernel
theorem dX7_take_2 : decode cX7_take 2 = .ok (.invokevirtual 100, 3) := by decide +kernel
theorem dX7_take_5 : decode cX7_take 5 = .ok (.ifCond .eq 19, 3) := by decide +kernel
theorem dX7_take_8 : decode cX7_take 8 = .ok (.aload_n 0, 1) := by decide +kernel
theorem dX7_take_9 : decode cX7_take 9 = .ok (.iload_n 1, 1) := by decide +kernel
theorem dX7_take_10 : decode cX7_take 10 = .ok (.invokevirtual 89, 3) := by decide +kernel
theorem dX7_take_13 : decode cX7_take 13 = .ok (.ifCond .eq 11, 3) := by decide +kernel
theorem dX7_take_16 : decode cX7_take 16 = .ok (.aload_n 0, 1) := by decide +kernel
theorem dX7_take_17 : decode cX7_take 17 = .ok (.iload_n 1, 1) := by decide +kernel
theorem dX7_take_18 : decode cX7_take 18 = .ok (.invokevirtual 103, 3) := by decide +kernel
theorem dX7_take_21 : decode cX7_take 21 = .ok (.ifCond .eq 5, 3) := by decide +kernel
theorem dX7_take_24 : decode cX7_take 24 = .ok (.iconst 0, 1) := by decide +kernel
theorem dX7_take_25 : decode cX7_take 25 = .ok (.ireturn, 1) := by decide +kernel
theorem dX7_take_26 : decode cX7_take 26 = .ok (.aload_n 0, 1) := by decide +kernel
theorem dX7_take_27 : decode cX7_take 27 = .ok (.getfield 44, 3) := by decide +kernel
theorem dX7_take_30 : decode cX7_take 30 = .ok (.iload_n 1, 1) := by decide +kernel
theorem dX7_take_31 : decode cX7_take 31 = .ok (.iconst (-1), 1) := by decide +kernel
theorem dX7_take_32 : decode cX7_take 32 = .ok (.iastore, 1) := by decide +kernel
theorem dX7_take_33 : decode cX7_take 33 = .ok (.iconst 1, 1) := by decide +kernel
theorem dX7_take_34 : decode cX7_take 34 = .ok (.ireturn, 1) := by decide +kernel
theorem dX7_isIn_0 : decode cX7_isIn 0 = .ok (.aload_n 0, 1) := by decide +kernel
theorem dX7_isIn_1 : decode cX7_isIn 1 = .ok (.iload_n 1, 1) := by decide +kernel
theorem dX7_isIn_2 : decode cX7_isIn 2 = .ok (.invokevirtual 89, 3) := by decide +kernel
theorem dX7_isIn_5 : decode cX7_isIn 5 = .ok (.ifCond .eq 27, 3) := by decide +kernel
theorem dX7_isIn_8 : decode cX7_isIn 8 = .ok (.iload_n 2, 1) := by decide +kernel
theorem dX7_isIn_9 : decode cX7_isIn 9 = .ok (.aload_n 0, 1) := by decide +kernel
theorem dX7_isIn_10 : decode cX7_isIn 10 = .ok (.getfield 44, 3) := by decide +kernel
theorem dX7_isIn_13 : decode cX7_isIn 13 = .ok (.iload_n 1, 1) := by decide +kernel
theorem dX7_isIn_14 : decode cX7_isIn 14 = .ok (.iaload, 1) := by decide +kernel
theorem dX7_isIn_15 : decode cX7_isIn 15 = .ok (.aload_n 0, 1) := by decide +kernel
theorem dX7_isIn_16 : decode cX7_isIn 16 = .ok (.iload_n 1, 1) := by decide +kernel
theorem dX7_isIn_17 : decode cX7_isIn 17 = .ok (.invokevirtual 96, 3) := by decide +kernel
theorem dX7_isIn_20 : decode cX7_isIn 20 = .ok (.iconst 1, 1) := by decide +kernel
theorem dX7_isIn_21 : decode cX7_isIn 21 = .ok (.isub, 1) := by decide +kernel
theorem dX7_isIn_22 : decode cX7_isIn 22 = .ok (.invokestatic 78, 3) := by decide +kernel
theorem dX7_isIn_25 : decode cX7_isIn 25 = .ok (.ifCond .eq 7, 3) := by decide +kernel
theorem dX7_isIn_28 : decode cX7_isIn 28 = .ok (.iconst 1, 1) := by decide +kernel
theorem dX7_isIn_29 : decode cX7_isIn 29 = .ok (.goto 4, 3) := by decide +kernel
theorem dX7_isIn_32 : decode cX7_isIn 32 = .ok (.iconst 0, 1) := by decide +kernel
theorem dX7_isIn_33 : decode cX7_isIn 33 = .ok (.ireturn, 1) := by decide +kernel
theorem dX7_isBarred_0 : decode cX7_isBarred 0 = .ok (.aload_n 0, 1) := by decide +kernel
theorem dX7_isBarred_1 : decode cX7_isBarred 1 = .ok (.getfield 23, 3) := by decide +kernel
theorem dX7_isBarred_4 : decode cX7_isBarred 4 = .ok (.iconst 5, 1) := by decide +kernel
theorem dX7_isBarred_5 : decode cX7_isBarred 5 = .ok (.aload_n 0, 1) := by decide +kernel
theorem dX7_isBarred_6 : decode cX7_isBarred 6 = .ok (.getfield 38, 3) := by decide +kernel
theorem dX7_isBarred_9 : decode cX7_isBarred 9 = .ok (.iload_n 1, 1) := by decide +kernel
theorem dX7_isBarred_10 : decode cX7_isBarred 10 = .ok (.iaload, 1) := by decide +kernel
theorem dX7_isBarred_11 : decode cX7_isBarred 11 = .ok (.imul, 1) := by decide +kernel
theorem dX7_isBarred_12 : decode cX7_isBarred 12 = .ok (.aload_n 0, 1) := by decide +kernel
theorem dX7_isBarred_13 : decode cX7_isBarred 13 = .ok (.getfield 38, 3) := by decide +kernel
theorem dX7_isBarred_16 : decode cX7_isBarred 16 = .ok (.iload_n 2, 1) := by decide +kernel
theorem dX7_isBarred_17 : decode cX7_isBarred 17 = .ok (.iaload, 1) := by decide +kernel
theorem dX7_isBarred_18 : decode cX7_isBarred 18 = .ok (.iadd, 1) := by decide +kernel
theorem dX7_isBarred_19 : decode cX7_isBarred 19 = .ok (.iaload, 1) := by decide +kernel
theorem dX7_isBarred_20 : decode cX7_isBarred 20 = .ok (.istore_n 3, 1) := by decide +kernel
theorem dX7_isBarred_21 : decode cX7_isBarred 21 = .ok (.iload_n 3, 1) := by decide +kernel
theorem dX7_isBarred_22 : decode cX7_isBarred 22 = .ok (.ifCond .ne 5, 3) := by decide +kernel
theorem dX7_isBarred_25 : decode cX7_isBarred 25 = .ok (.iconst 0, 1) := by decide +kernel
theorem dX7_isBarred_26 : decode cX7_isBarred 26 = .ok (.ireturn, 1) := by decide +kernel
theorem dX7_isBarred_27 : decode cX7_isBarred 27 = .ok (.iload_n 3, 1) := by decide +kernel
theorem dX7_isBarred_28 : decode cX7_isBarred 28 = .ok (.iconst 4, 1) := by decide +kernel
theorem dX7_isBarred_29 : decode cX7_isBarred 29 = .ok (.iand, 1) := by decide +kernel
theorem dX7_isBarred_30 : decode cX7_isBarred 30 = .ok (.ifCond .ne 18, 3) := by decide +kernel
theorem dX7_isBarred_33 : decode cX7_isBarred 33 = .ok (.aload_n 0, 1) := by decide +kernel
theorem dX7_isBarred_34 : decode cX7_isBarred 34 = .ok (.getfield 35, 3) := by decide +kernel
theorem dX7_isBarred_37 : decode cX7_isBarred 37 = .ok (.iload_n 1, 1) := by decide +kernel
theorem dX7_isBarred_38 : decode cX7_isBarred 38 = .ok (.iaload, 1) := by decide +kernel
theorem dX7_isBarred_39 : decode cX7_isBarred 39 = .ok (.aload_n 0, 1) := by decide +kernel
theorem dX7_isBarred_40 : decode cX7_isBarred 40 = .ok (.getfield 35, 3) := by decide +kernel
theorem dX7_isBarred_43 : decode cX7_isBarred 43 = .ok (.iload_n 2, 1) := by decide +kernel
theorem dX7_isBarred_44 : decode cX7_isBarred 44 = .ok (.iaload, 1) := by decide +kernel
theorem dX7_isBarred_45 : decode cX7_isBarred 45 = .ok (.if_icmp .ne 5, 3) := by decide +kernel
theorem dX7_isBarred_48 : decode cX7_isBarred 48 = .ok (.iconst 1, 1) := by decide +kernel
theorem dX7_isBarred_49 : decode cX7_isBarred 49 = .ok (.ireturn, 1) := by decide +kernel
theorem dX7_isBarred_50 : decode cX7_isBarred 50 = .ok (.iload_n 3, 1) := by decide +kernel
theorem dX7_isBarred_51 : decode cX7_isBarred 51 = .ok (.iconst 2, 1) := by decide +kernel
theorem dX7_isBarred_52 : decode cX7_isBarred 52 = .ok (.iand, 1) := by decide +kernel
theorem dX7_isBarred_53 : decode cX7_isBarred 53 = .ok (.ifCond .eq 31, 3) := by decide +kernel
theorem dX7_isBarred_56 : decode cX7_isBarred 56 = .ok (.aload_n 0, 1) := by decide +kernel
theorem dX7_isBarred_57 : decode cX7_isBarred 57 = .ok (.getfield 13, 3) := by decide +kernel
theorem dX7_isBarred_60 : decode cX7_isBarred 60 = .ok (.bipush 20, 2) := by decide +kernel
theorem dX7_isBarred_62 : decode cX7_isBarred 62 = .ok (.aload_n 0, 1) := by decide +kernel
theorem dX7_isBarred_63 : decode cX7_isBarred 63 = .ok (.getfield 35, 3) := by decide +kernel
theorem dX7_isBarred_66 : decode cX7_isBarred 66 = .ok (.iload_n 1, 1) := by decide +kernel
theorem dX7_isBarred_67 : decode cX7_isBarred 67 = .ok (.iaload, 1) := by decide +kernel
theorem dX7_isBarred_68 : decode cX7_isBarred 68 = .ok (.imul, 1) := by decide +kernel
theorem dX7_isBarred_69 : decode cX7_isBarred 69 = .ok (.aload_n 0, 1) := by decide +kernel
theorem dX7_isBarred_70 : decode cX7_isBarred 70 = .ok (.getfield 35, 3) := by decide +kernel
theorem dX7_isBarred_73 : decode cX7_isBarred 73 = .ok (.iload_n 2, 1) := by decide +kernel
theorem dX7_isBarred_74 : decode cX7_isBarred 74 = .ok (.iaload, 1) := by decide +kernel
theorem dX7_isBarred_75 : decode cX7_isBarred 75 = .ok (.iadd, 1) := by decide +kernel
theorem dX7_isBarred_76 : decode cX7_isBarred 76 = .ok (.baload, 1) := by decide +kernel
theorem dX7_isBarred_77 : decode cX7_isBarred 77 = .ok (.ifCond .eq 7, 3) := by decide +kernel
theorem dX7_isBarred_80 : decode cX7_isBarred 80 = .ok (.iconst 1, 1) := by decide +kernel
theorem dX7_isBarred_81 : decode cX7_isBarred 81 = .ok (.goto 4, 3) := by decide +kernel
theorem dX7_isBarred_84 : decode cX7_isBarred 84 = .ok (.iconst 0, 1) := by decide +kernel
theorem dX7_isBarred_85 : decode cX7_isBarred 85 = .ok (.ireturn, 1) := by decide +kernel
theorem dX7_breaks_0 : decode cX7_breaks 0 = .ok (.iload_n 2, 1) := by decide +kernel
theorem dX7_breaks_1 : decode cX7_breaks 1 = .ok (.iconst 1, 1) := by decide +kernel
theorem dX7_breaks_2 : decode cX7_breaks 2 = .ok (.if_icmp .ne 64, 3) := by decide +kernel
theorem dX7_breaks_5 : decode cX7_breaks 5 = .ok (.iconst 0, 1) := by decide +kernel
theorem dX7_breaks_6 : decode cX7_breaks 6 = .ok (.istore_n 3, 1) := by decide +kernel
theorem dX7_breaks_7 : decode cX7_breaks 7 = .ok (.iload_n 3, 1) := by decide +kernel
theorem dX7_breaks_8 : decode cX7_breaks 8 = .ok (.aload_n 0, 1) := by decide +kernel
theorem dX7_breaks_9 : decode cX7_breaks 9 = .ok (.getfield 74, 3) := by decide +kernel
theorem dX7_breaks_12 : decode cX7_breaks 12 = .ok (.if_icmp .ge 52, 3) := by decide +kernel
theorem dX7_breaks_15 : decode cX7_breaks 15 = .ok (.aload_n 0, 1) := by decide +kernel
theorem dX7_breaks_16 : decode cX7_breaks 16 = .ok (.getfield 50, 3) := by decide +kernel
theorem dX7_breaks_19 : decode cX7_breaks 19 = .ok (.bipush 40, 2) := by decide +kernel
theorem dX7_breaks_21 : decode cX7_breaks 21 = .ok (.iload_n 1, 1) := by decide +kernel
theorem dX7_breaks_22 : decode cX7_breaks 22 = .ok (.imul, 1) := by decide +kernel
theorem dX7_breaks_23 : decode cX7_breaks 23 = .ok (.iload_n 3, 1) := by decide +kernel
theorem dX7_breaks_24 : decode cX7_breaks 24 = .ok (.iadd, 1) := by decide +kernel
theorem dX7_breaks_25 : decode cX7_breaks 25 = .ok (.baload, 1) := by decide +kernel
theorem dX7_breaks_26 : decode cX7_breaks 26 = .ok (.ifCond .eq 32, 3) := by decide +kernel
theorem dX7_breaks_29 : decode cX7_breaks 29 = .ok (.aload_n 0, 1) := by decide +kernel
theorem dX7_breaks_30 : decode cX7_breaks 30 = .ok (.iload_n 3, 1) := by decide +kernel
theorem dX7_breaks_31 : decode cX7_breaks 31 = .ok (.invokevirtual 89, 3) := by decide +kernel
theorem dX7_breaks_34 : decode cX7_breaks 34 = .ok (.ifCond .eq 17, 3) := by decide +kernel
theorem dX7_breaks_37 : decode cX7_breaks 37 = .ok (.aload_n 0, 1) := by decide +kernel
theorem dX7_breaks_38 : decode cX7_breaks 38 = .ok (.iload_n 3, 1) := by decide +kernel
theorem dX7_breaks_39 : decode cX7_breaks 39 = .ok (.invokevirtual 96, 3) := by decide +kernel
theorem dX7_breaks_42 : decode cX7_breaks 42 = .ok (.aload_n 0, 1) := by decide +kernel
theorem dX7_breaks_43 : decode cX7_breaks 43 = .ok (.getfield 44, 3) := by decide +kernel
theorem dX7_breaks_46 : decode cX7_breaks 46 = .ok (.iload_n 1, 1) := by decide +kernel
theorem dX7_breaks_47 : decode cX7_breaks 47 = .ok (.iaload, 1) := by decide +kernel
theorem dX7_breaks_48 : decode cX7_breaks 48 = .ok (.if_icmp .le 10, 3) := by decide +kernel
theorem dX7_breaks_51 : decode cX7_breaks 51 = .ok (.aload_n 0, 1) := by decide +kernel
theorem dX7_breaks_52 : decode cX7_breaks 52 = .ok (.getfield 44, 3) := by decide +kernel
theorem dX7_breaks_55 : decode cX7_breaks 55 = .ok (.iload_n 1, 1) := by decide +kernel
theorem dX7_breaks_56 : decode cX7_breaks 56 = .ok (.iaload, 1) := by decide +kernel
theorem dX7_breaks_57 : decode cX7_breaks 57 = .ok (.ireturn, 1) := by decide +kernel
theorem dX7_breaks_58 : decode cX7_breaks 58 = .ok (.iinc 3 1, 3) := by decide +kernel
theorem dX7_breaks_61 : decode cX7_breaks 61 = .ok (.goto (-54), 3) := by decide +kernel
theorem dX7_breaks_64 : decode cX7_breaks 64 = .ok (.iconst (-1), 1) := by decide +kernel
theorem dX7_breaks_65 : decode cX7_breaks 65 = .ok (.ireturn, 1) := by decide +kernel
theorem dX7_breaks_66 : decode cX7_breaks 66 = .ok (.aload_n 0, 1) := by decide +kernel
theorem dX7_breaks_67 : decode cX7_breaks 67 = .ok (.getfield 44, 3) := by decide +kernel
theorem dX7_breaks_70 : decode cX7_breaks 70 = .ok (.iload_n 1, 1) := by decide +kernel
theorem dX7_breaks_71 : decode cX7_breaks 71 = .ok (.iaload, 1) := by decide +kernel
theorem dX7_breaks_72 : decode cX7_breaks 72 = .ok (.istore_n 3, 1) := by decide +kernel
theorem dX7_breaks_73 : decode cX7_breaks 73 = .ok (.iload_n 3, 1) := by decide +kernel
theorem dX7_breaks_74 : decode cX7_breaks 74 = .ok (.aload_n 0, 1) := by decide +kernel
theorem dX7_breaks_75 : decode cX7_breaks 75 = .ok (.iload_n 1, 1) := by decide +kernel
theorem dX7_breaks_76 : decode cX7_breaks 76 = .ok (.invokevirtual 96, 3) := by decide +kernel
theorem dX7_breaks_79 : decode cX7_breaks 79 = .ok (.if_icmp .ge 21, 3) := by decide +kernel
theorem dX7_breaks_82 : decode cX7_breaks 82 = .ok (.aload_n 0, 1) := by decide +kernel
theorem dX7_breaks_83 : decode cX7_breaks 83 = .ok (.iload_n 1, 1) := by decide +kernel
theorem dX7_breaks_84 : decode cX7_breaks 84 = .ok (.iload_n 2, 1) := by decide +kernel
theorem dX7_breaks_85 : decode cX7_breaks 85 = .ok (.iload_n 3, 1) := by decide +kernel
theorem dX7_breaks_86 : decode cX7_breaks 86 = .ok (.invokevirtual 113, 3) := by decide +kernel
theorem dX7_breaks_89 : decode cX7_breaks 89 = .ok (.ifCond .eq 5, 3) := by decide +kernel
theorem dX7_breaks_92 : decode cX7_breaks 92 = .ok (.iload_n 3, 1) := by decide +kernel
theorem dX7_breaks_93 : decode cX7_breaks 93 = .ok (.ireturn, 1) := by decide +kernel
theorem dX7_breaks_94 : decode cX7_breaks 94 = .ok (.iinc 3 1, 3) := by decide +kernel
theorem dX7_breaks_97 : decode cX7_breaks 97 = .ok (.goto (-24), 3) := by decide +kernel
theorem dX7_breaks_100 : decode cX7_breaks 100 = .ok (.iconst (-1), 1) := by decide +kernel
theorem dX7_breaks_101 : decode cX7_breaks 101 = .ok (.ireturn, 1) := by decide +kernel
theorem dX7_isBroken_0 : decode cX7_isBroken 0 = .ok (.iconst 0, 1) := by decide +kernel
theorem dX7_isBroken_1 : decode cX7_isBroken 1 = .ok (.istore 4, 2) := by decide +kernel
theorem dX7_isBroken_3 : decode cX7_isBroken 3 = .ok (.iconst 0, 1) := by decide +kernel
theorem dX7_isBroken_4 : decode cX7_isBroken 4 = .ok (.istore 5, 2) := by decide +kernel
theorem dX7_isBroken_6 : decode cX7_isBroken 6 = .ok (.iload 5, 2) := by decide +kernel
theorem dX7_isBroken_8 : decode cX7_isBroken 8 = .ok (.aload_n 0, 1) := by decide +kernel
theorem dX7_isBroken_9 : decode cX7_isBroken 9 = .ok (.getfield 74, 3) := by decide +kernel
theorem dX7_isBroken_12 : decode cX7_isBroken 12 = .ok (.if_icmp .ge 179, 3) := by decide +kernel
theorem dX7_isBroken_15 : decode cX7_isBroken 15 = .ok (.aload_n 0, 1) := by decide +kernel
theorem dX7_isBroken_16 : decode cX7_isBroken 16 = .ok (.iload 5, 2) := by decide +kernel
theorem dX7_isBroken_18 : decode cX7_isBroken 18 = .ok (.iload_n 3, 1) := by decide +kernel
theorem dX7_isBroken_19 : decode cX7_isBroken 19 = .ok (.invokevirtual 116, 3) := by decide +kernel
theorem dX7_isBroken_22 : decode cX7_isBroken 22 = .ok (.ifCond .ne 6, 3) := by decide +kernel
theorem dX7_isBroken_25 : decode cX7_isBroken 25 = .ok (.goto 160, 3) := by decide +kernel
theorem dX7_isBroken_28 : decode cX7_isBroken 28 = .ok (.iload_n 2, 1) := by decide +kernel
theorem dX7_isBroken_29 : decode cX7_isBroken 29 = .ok (.tableswitch 130 2 4 #[27, 62, 101], 27) := by decide +kernel
theorem dX7_isBroken_56 : decode cX7_isBroken 56 = .ok (.iload 4, 2) := by decide +kernel
theorem dX7_isBroken_58 : decode cX7_isBroken 58 = .ok (.aload_n 0, 1) := by decide +kernel
theorem dX7_isBroken_59 : decode cX7_isBroken 59 = .ok (.getfield 29, 3) := by decide +kernel
theorem dX7_isBroken_62 : decode cX7_isBroken 62 = .ok (.iload 5, 2) := by decide +kernel
theorem dX7_isBroken_64 : decode cX7_isBroken 64 = .ok (.iaload, 1) := by decide +kernel
theorem dX7_isBroken_65 : decode cX7_isBroken 65 = .ok (.aload_n 0, 1) := by decide +kernel
theorem dX7_isBroken_66 : decode cX7_isBroken 66 = .ok (.getfield 29, 3) := by decide +kernel
theorem dX7_isBroken_69 : decode cX7_isBroken 69 = .ok (.iload_n 1, 1) := by decide +kernel
theorem dX7_isBroken_70 : decode cX7_isBroken 70 = .ok (.iaload, 1) := by decide +kernel
theorem dX7_isBroken_71 : decode cX7_isBroken 71 = .ok (.if_icmp .ne 13, 3) := by decide +kernel
theorem dX7_isBroken_74 : decode cX7_isBroken 74 = .ok (.aload_n 0, 1) := by decide +kernel
theorem dX7_isBroken_75 : decode cX7_isBroken 75 = .ok (.getfield 32, 3) := by decide +kernel
theorem dX7_isBroken_78 : decode cX7_isBroken 78 = .ok (.iload 5, 2) := by decide +kernel
theorem dX7_isBroken_80 : decode cX7_isBroken 80 = .ok (.iaload, 1) := by decide +kernel
theorem dX7_isBroken_81 : decode cX7_isBroken 81 = .ok (.goto 4, 3) := by decide +kernel
theorem dX7_isBroken_84 : decode cX7_isBroken 84 = .ok (.iconst 0, 1) := by decide +kernel
theorem dX7_isBroken_85 : decode cX7_isBroken 85 = .ok (.iadd, 1) := by decide +kernel
theorem dX7_isBroken_86 : decode cX7_isBroken 86 = .ok (.istore 4, 2) := by decide +kernel
theorem dX7_isBroken_88 : decode cX7_isBroken 88 = .ok (.goto 97, 3) := by decide +kernel
theorem dX7_isBroken_91 : decode cX7_isBroken 91 = .ok (.iload 4, 2) := by decide +kernel
theorem dX7_isBroken_93 : decode cX7_isBroken 93 = .ok (.aload_n 0, 1) := by decide +kernel
theorem dX7_isBroken_94 : decode cX7_isBroken 94 = .ok (.getfield 41, 3) := by decide +kernel
theorem dX7_isBroken_97 : decode cX7_isBroken 97 = .ok (.iload_n 1, 1) := by decide +kernel
theorem dX7_isBroken_98 : decode cX7_isBroken 98 = .ok (.iaload, 1) := by decide +kernel
theorem dX7_isBroken_99 : decode cX7_isBroken 99 = .ok (.iconst (-1), 1) := by decide +kernel
theorem dX7_isBroken_100 : decode cX7_isBroken 100 = .ok (.if_icmp .eq 23, 3) := by decide +kernel
theorem dX7_isBroken_103 : decode cX7_isBroken 103 = .ok (.aload_n 0, 1) := by decide +kernel
theorem dX7_isBroken_104 : decode cX7_isBroken 104 = .ok (.getfield 41, 3) := by decide +kernel
theorem dX7_isBroken_107 : decode cX7_isBroken 107 = .ok (.iload 5, 2) := by decide +kernel
theorem dX7_isBroken_109 : decode cX7_isBroken 109 = .ok (.iaload, 1) := by decide +kernel
theorem dX7_isBroken_110 : decode cX7_isBroken 110 = .ok (.aload_n 0, 1) := by decide +kernel
theorem dX7_isBroken_111 : decode cX7_isBroken 111 = .ok (.getfield 41, 3) := by decide +kernel
theorem dX7_isBroken_114 : decode cX7_isBroken 114 = .ok (.iload_n 1, 1) := by decide +kernel
theorem dX7_isBroken_115 : decode cX7_isBroken 115 = .ok (.iaload, 1) := by decide +kernel
theorem dX7_isBroken_116 : decode cX7_isBroken 116 = .ok (.if_icmp .ne 7, 3) := by decide +kernel
theorem dX7_isBroken_119 : decode cX7_isBroken 119 = .ok (.iconst 1, 1) := by decide +kernel
theorem dX7_isBroken_120 : decode cX7_isBroken 120 = .ok (.goto 4, 3) := by decide +kernel
theorem dX7_isBroken_123 : decode cX7_isBroken 123 = .ok (.iconst 0, 1) := by decide +kernel
theorem dX7_isBroken_124 : decode cX7_isBroken 124 = .ok (.iadd, 1) := by decide +kernel
theorem dX7_isBroken_125 : decode cX7_isBroken 125 = .ok (.istore 4, 2) := by decide +kernel
theorem dX7_isBroken_127 : decode cX7_isBroken 127 = .ok (.goto 58, 3) := by decide +kernel
theorem dX7_isBroken_130 : decode cX7_isBroken 130 = .ok (.iload 4, 2) := by decide +kernel
theorem dX7_isBroken_132 : decode cX7_isBroken 132 = .ok (.aload_n 0, 1) := by decide +kernel
theorem dX7_isBroken_133 : decode cX7_isBroken 133 = .ok (.getfield 35, 3) := by decide +kernel
theorem dX7_isBroken_136 : decode cX7_isBroken 136 = .ok (.iload 5, 2) := by decide +kernel
theorem dX7_isBroken_138 : decode cX7_isBroken 138 = .ok (.iaload, 1) := by decide +kernel
theorem dX7_isBroken_139 : decode cX7_isBroken 139 = .ok (.aload_n 0, 1) := by decide +kernel
theorem dX7_isBroken_140 : decode cX7_isBroken 140 = .ok (.getfield 35, 3) := by decide +kernel
theorem dX7_isBroken_143 : decode cX7_isBroken 143 = .ok (.iload_n 1, 1) := by decide +kernel
theorem dX7_isBroken_144 : decode cX7_isBroken 144 = .ok (.iaload, 1) := by decide +kernel
theorem dX7_isBroken_145 : decode cX7_isBroken 145 = .ok (.if_icmp .ne 7, 3) := by decide +kernel
theorem dX7_isBroken_148 : decode cX7_isBroken 148 = .ok (.iconst 1, 1) := by decide +kernel
theorem dX7_isBroken_149 : decode cX7_isBroken 149 = .ok (.goto 4, 3) := by decide +kernel
theorem dX7_isBroken_152 : decode cX7_isBroken 152 = .ok (.iconst 0, 1) := by decide +kernel
theorem dX7_isBroken_153 : decode cX7_isBroken 153 = .ok (.iadd, 1) := by decide +kernel
theorem dX7_isBroken_154 : decode cX7_isBroken 154 = .ok (.istore 4, 2) := by decide +kernel
theorem dX7_isBroken_156 : decode cX7_isBroken 156 = .ok (.goto 29, 3) := by decide +kernel
theorem dX7_isBroken_159 : decode cX7_isBroken 159 = .ok (.iload 4, 2) := by decide +kernel
theorem dX7_isBroken_161 : decode cX7_isBroken 161 = .ok (.iload 5, 2) := by decide +kernel
theorem dX7_isBroken_163 : decode cX7_isBroken 163 = .ok (.iload_n 1, 1) := by decide +kernel
theorem dX7_isBroken_164 : decode cX7_isBroken 164 = .ok (.if_icmp .eq 17, 3) := by decide +kernel
theorem dX7_isBroken_167 : decode cX7_isBroken 167 = .ok (.aload_n 0, 1) := by decide +kernel
theorem dX7_isBroken_168 : decode cX7_isBroken 168 = .ok (.iload 5, 2) := by decide +kernel
theorem dX7_isBroken_170 : decode cX7_isBroken 170 = .ok (.iload_n 1, 1) := by decide +kernel
theorem dX7_isBroken_171 : decode cX7_isBroken 171 = .ok (.invokevirtual 119, 3) := by decide +kernel
theorem dX7_isBroken_174 : decode cX7_isBroken 174 = .ok (.ifCond .eq 7, 3) := by decide +kernel
theorem dX7_isBroken_177 : decode cX7_isBroken 177 = .ok (.iconst 1, 1) := by decide +kernel
theorem dX7_isBroken_178 : decode cX7_isBroken 178 = .ok (.goto 4, 3) := by decide +kernel
theorem dX7_isBroken_181 : decode cX7_isBroken 181 = .ok (.iconst 0, 1) := by decide +kernel
theorem dX7_isBroken_182 : decode cX7_isBroken 182 = .ok (.iadd, 1) := by decide +kernel
theorem dX7_isBroken_183 : decode cX7_isBroken 183 = .ok (.istore 4, 2) := by decide +kernel
theorem dX7_isBroken_185 : decode cX7_isBroken 185 = .ok (.iinc 5 1, 3) := by decide +kernel
theorem dX7_isBroken_188 : decode cX7_isBroken 188 = .ok (.goto (-182), 3) := by decide +kernel
theorem dX7_isBroken_191 : decode cX7_isBroken 191 = .ok (.iload_n 2, 1) := by decide +kernel
theorem dX7_isBroken_192 : decode cX7_isBroken 192 = .ok (.iconst 2, 1) := by decide +kernel
theorem dX7_isBroken_193 : decode cX7_isBroken 193 = .ok (.if_icmp .ne 25, 3) := by decide +kernel
theorem dX7_isBroken_196 : decode cX7_isBroken 196 = .ok (.iload 4, 2) := by decide +kernel
theorem dX7_isBroken_198 : decode cX7_isBroken 198 = .ok (.aload_n 0, 1) := by decide +kernel
theorem dX7_isBroken_199 : decode cX7_isBroken 199 = .ok (.getfield 17, 3) := by decide +kernel
theorem dX7_isBroken_202 : decode cX7_isBroken 202 = .ok (.aload_n 0, 1) := by decide +kernel
theorem dX7_isBroken_203 : decode cX7_isBroken 203 = .ok (.getfield 29, 3) := by decide +kernel
theorem dX7_isBroken_206 : decode cX7_isBroken 206 = .ok (.iload_n 1, 1) := by decide +kernel
theorem dX7_isBroken_207 : decode cX7_isBroken 207 = .ok (.iaload, 1) := by decide +kernel
theorem dX7_isBroken_208 : decode cX7_isBroken 208 = .ok (.iaload, 1) := by decide +kernel
theorem dX7_isBroken_209 : decode cX7_isBroken 209 = .ok (.if_icmp .le 7, 3) := by decide +kernel
theorem dX7_isBroken_212 : decode cX7_isBroken 212 = .ok (.iconst 1, 1) := by decide +kernel
theorem dX7_isBroken_213 : decode cX7_isBroken 213 = .ok (.goto 4, 3) := by decide +kernel
theorem dX7_isBroken_216 : decode cX7_isBroken 216 = .ok (.iconst 0, 1) := by decide +kernel
theorem dX7_isBroken_217 : decode cX7_isBroken 217 = .ok (.ireturn, 1) := by decide +kernel
theorem dX7_isBroken_218 : decode cX7_isBroken 218 = .ok (.iload_n 2, 1) := by decide +kernel
theorem dX7_isBroken_219 : decode cX7_isBroken 219 = .ok (.iconst 3, 1) := by decide +kernel
theorem dX7_isBroken_220 : decode cX7_isBroken 220 = .ok (.if_icmp .ne 35, 3) := by decide +kernel
theorem dX7_isBroken_223 : decode cX7_isBroken 223 = .ok (.aload_n 0, 1) := by decide +kernel
theorem dX7_isBroken_224 : decode cX7_isBroken 224 = .ok (.getfield 41, 3) := by decide +kernel
theorem dX7_isBroken_227 : decode cX7_isBroken 227 = .ok (.iload_n 1, 1) := by decide +kernel
theorem dX7_isBroken_228 : decode cX7_isBroken 228 = .ok (.iaload, 1) := by decide +kernel
theorem dX7_isBroken_229 : decode cX7_isBroken 229 = .ok (.iconst (-1), 1) := by decide +kernel
theorem dX7_isBroken_230 : decode cX7_isBroken 230 = .ok (.if_icmp .eq 23, 3) := by decide +kernel
theorem dX7_isBroken_233 : decode cX7_isBroken 233 = .ok (.iload 4, 2) := by decide +kernel
theorem dX7_isBroken_235 : decode cX7_isBroken 235 = .ok (.aload_n 0, 1) := by decide +kernel
theorem dX7_isBroken_236 : decode cX7_isBroken 236 = .ok (.getfield 20, 3) := by decide +kernel
theorem dX7_isBroken_239 : decode cX7_isBroken 239 = .ok (.aload_n 0, 1) := by decide +kernel
theorem dX7_isBroken_240 : decode cX7_isBroken 240 = .ok (.getfield 41, 3) := by decide +kernel
theorem dX7_isBroken_243 : decode cX7_isBroken 243 = .ok (.iload_n 1, 1) := by decide +kernel
theorem dX7_isBroken_244 : decode cX7_isBroken 244 = .ok (.iaload, 1) := by decide +kernel
theorem dX7_isBroken_245 : decode cX7_isBroken 245 = .ok (.iaload, 1) := by decide +kernel
theorem dX7_isBroken_246 : decode cX7_isBroken 246 = .ok (.if_icmp .le 7, 3) := by decide +kernel
theorem dX7_isBroken_249 : decode cX7_isBroken 249 = .ok (.iconst 1, 1) := by decide +kernel
theorem dX7_isBroken_250 : decode cX7_isBroken 250 = .ok (.goto 4, 3) := by decide +kernel
theorem dX7_isBroken_253 : decode cX7_isBroken 253 = .ok (.iconst 0, 1) := by decide +kernel
theorem dX7_isBroken_254 : decode cX7_isBroken 254 = .ok (.ireturn, 1) := by decide +kernel
theorem dX7_isBroken_255 : decode cX7_isBroken 255 = .ok (.iload_n 2, 1) := by decide +kernel
theorem dX7_isBroken_256 : decode cX7_isBroken 256 = .ok (.iconst 4, 1) := by decide +kernel
theorem dX7_isBroken_257 : decode cX7_isBroken 257 = .ok (.if_icmp .ne 27, 3) := by decide +kernel
