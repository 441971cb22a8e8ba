theorem dX4_firstPlace_59 : decode cX4_firstPlace 59 = .ok (.iconst 0, 1) := by decide +kernel
theorem dX4_firstPlace_60 : decode cX4_firstPlace 60 = .ok (.istore 4, 2) := by decide +kernel
theorem dX4_firstPlace_62 : decode cX4_firstPlace 62 = .ok (.iload 4, 2) := by decide +kernel
theorem dX4_firstPlace_64 : decode cX4_firstPlace 64 = .ok (.aload_n 1, 1) := by decide +kernel
theorem dX4_firstPlace_65 : decode cX4_firstPlace 65 = .ok (.getfield 146, 3) := by decide +kernel
theorem dX4_firstPlace_68 : decode cX4_firstPlace 68 = .ok (.if_icmp .ne 13, 3) := by decide +kernel
theorem dX4_firstPlace_71 : decode cX4_firstPlace 71 = .ok (.iload 5, 2) := by decide +kernel
theorem dX4_firstPlace_73 : decode cX4_firstPlace 73 = .ok (.aload_n 1, 1) := by decide +kernel
theorem dX4_firstPlace_74 : decode cX4_firstPlace 74 = .ok (.getfield 146, 3) := by decide +kernel
theorem dX4_firstPlace_77 : decode cX4_firstPlace 77 = .ok (.isub, 1) := by decide +kernel
theorem dX4_firstPlace_78 : decode cX4_firstPlace 78 = .ok (.iconst 1, 1) := by decide +kernel
theorem dX4_firstPlace_79 : decode cX4_firstPlace 79 = .ok (.iadd, 1) := by decide +kernel
theorem dX4_firstPlace_80 : decode cX4_firstPlace 80 = .ok (.ireturn, 1) := by decide +kernel
theorem dX4_firstPlace_81 : decode cX4_firstPlace 81 = .ok (.iinc 5 1, 3) := by decide +kernel
theorem dX4_firstPlace_84 : decode cX4_firstPlace 84 = .ok (.goto (-48), 3) := by decide +kernel
theorem dX4_firstPlace_87 : decode cX4_firstPlace 87 = .ok (.iconst (-1), 1) := by decide +kernel
theorem dX4_firstPlace_88 : decode cX4_firstPlace 88 = .ok (.ireturn, 1) := by decide +kernel
theorem dX5_init_0 : decode cX5_init 0 = .ok (.aload_n 0, 1) := by decide +kernel
theorem dX5_init_1 : decode cX5_init 1 = .ok (.invokespecial 3, 3) := by decide +kernel
theorem dX5_init_4 : decode cX5_init 4 = .ok (.aload_n 0, 1) := by decide +kernel
theorem dX5_init_5 : decode cX5_init 5 = .ok (.iconst (-1), 1) := by decide +kernel
theorem dX5_init_6 : decode cX5_init 6 = .ok (.putfield 9, 3) := by decide +kernel
theorem dX5_init_9 : decode cX5_init 9 = .ok (.aload_n 0, 1) := by decide +kernel
theorem dX5_init_10 : decode cX5_init 10 = .ok (.iload_n 1, 1) := by decide +kernel
theorem dX5_init_11 : decode cX5_init 11 = .ok (.putfield 15, 3) := by decide +kernel
theorem dX5_init_14 : decode cX5_init 14 = .ok (.aload_n 0, 1) := by decide +kernel
theorem dX5_init_15 : decode cX5_init 15 = .ok (.lconst 1, 1) := by decide +kernel
theorem dX5_init_16 : decode cX5_init 16 = .ok (.iload_n 1, 1) := by decide +kernel
theorem dX5_init_17 : decode cX5_init 17 = .ok (.lshl, 1) := by decide +kernel
theorem dX5_init_18 : decode cX5_init 18 = .ok (.putfield 18, 3) := by decide +kernel
theorem dX5_init_21 : decode cX5_init 21 = .ok (.aload_n 0, 1) := by decide +kernel
theorem dX5_init_22 : decode cX5_init 22 = .ok (.iload_n 3, 1) := by decide +kernel
theorem dX5_init_23 : decode cX5_init 23 = .ok (.putfield 22, 3) := by decide +kernel
theorem dX5_init_26 : decode cX5_init 26 = .ok (.aload_n 0, 1) := by decide +kernel
theorem dX5_init_27 : decode cX5_init 27 = .ok (.iload_n 2, 1) := by decide +kernel
theorem dX5_init_28 : decode cX5_init 28 = .ok (.bipush 100, 2) := by decide +kernel
theorem dX5_init_30 : decode cX5_init 30 = .ok (.irem, 1) := by decide +kernel
theorem dX5_init_31 : decode cX5_init 31 = .ok (.putfield 25, 3) := by decide +kernel
theorem dX5_init_34 : decode cX5_init 34 = .ok (.aload_n 0, 1) := by decide +kernel
theorem dX5_init_35 : decode cX5_init 35 = .ok (.iload_n 2, 1) := by decide +kernel
theorem dX5_init_36 : decode cX5_init 36 = .ok (.bipush 100, 2) := by decide +kernel
theorem dX5_init_38 : decode cX5_init 38 = .ok (.idiv, 1) := by decide +kernel
theorem dX5_init_39 : decode cX5_init 39 = .ok (.bipush 10, 2) := by decide +kernel
theorem dX5_init_41 : decode cX5_init 41 = .ok (.irem, 1) := by decide +kernel
theorem dX5_init_42 : decode cX5_init 42 = .ok (.putfield 28, 3) := by decide +kernel
theorem dX5_init_45 : decode cX5_init 45 = .ok (.aload_n 0, 1) := by decide +kernel
theorem dX5_init_46 : decode cX5_init 46 = .ok (.iload_n 2, 1) := by decide +kernel
theorem dX5_init_47 : decode cX5_init 47 = .ok (.sipush 1000, 3) := by decide +kernel
theorem dX5_init_50 : decode cX5_init 50 = .ok (.idiv, 1) := by decide +kernel
theorem dX5_init_51 : decode cX5_init 51 = .ok (.bipush 10, 2) := by decide +kernel
theorem dX5_init_53 : decode cX5_init 53 = .ok (.irem, 1) := by decide +kernel
theorem dX5_init_54 : decode cX5_init 54 = .ok (.putfield 31, 3) := by decide +kernel
theorem dX5_init_57 : decode cX5_init 57 = .ok (.aload_n 0, 1) := by decide +kernel
theorem dX5_init_58 : decode cX5_init 58 = .ok (.iload_n 2, 1) := by decide +kernel
theorem dX5_init_59 : decode cX5_init 59 = .ok (.sipush 10000, 3) := by decide +kernel
theorem dX5_init_62 : decode cX5_init 62 = .ok (.idiv, 1) := by decide +kernel
theorem dX5_init_63 : decode cX5_init 63 = .ok (.bipush 10, 2) := by decide +kernel
theorem dX5_init_65 : decode cX5_init 65 = .ok (.irem, 1) := by decide +kernel
theorem dX5_init_66 : decode cX5_init 66 = .ok (.putfield 34, 3) := by decide +kernel
theorem dX5_init_69 : decode cX5_init 69 = .ok (.aload_n 0, 1) := by decide +kernel
theorem dX5_init_70 : decode cX5_init 70 = .ok (.iload_n 2, 1) := by decide +kernel
theorem dX5_init_71 : decode cX5_init 71 = .ok (.ldc 37, 2) := by decide +kernel
theorem dX5_init_73 : decode cX5_init 73 = .ok (.idiv, 1) := by decide +kernel
theorem dX5_init_74 : decode cX5_init 74 = .ok (.putfield 38, 3) := by decide +kernel
theorem dX5_init_77 : decode cX5_init 77 = .ok (.return_, 1) := by decide +kernel
theorem dX5_isOpen_0 : decode cX5_isOpen 0 = .ok (.aload_n 0, 1) := by decide +kernel
theorem dX5_isOpen_1 : decode cX5_isOpen 1 = .ok (.getfield 9, 3) := by decide +kernel
theorem dX5_isOpen_4 : decode cX5_isOpen 4 = .ok (.iconst (-1), 1) := by decide +kernel
theorem dX5_isOpen_5 : decode cX5_isOpen 5 = .ok (.if_icmp .ne 7, 3) := by decide +kernel
theorem dX5_isOpen_8 : decode cX5_isOpen 8 = .ok (.iconst 1, 1) := by decide +kernel
theorem dX5_isOpen_9 : decode cX5_isOpen 9 = .ok (.goto 4, 3) := by decide +kernel
theorem dX5_isOpen_12 : decode cX5_isOpen 12 = .ok (.iconst 0, 1) := by decide +kernel
theorem dX5_isOpen_13 : decode cX5_isOpen 13 = .ok (.ireturn, 1) := by decide +kernel
theorem dX5_behind_0 : decode cX5_behind 0 = .ok (.aload_n 0, 1) := by decide +kernel
theorem dX5_behind_1 : decode cX5_behind 1 = .ok (.getfield 9, 3) := by decide +kernel
theorem dX5_behind_4 : decode cX5_behind 4 = .ok (.aload_n 0, 1) := by decide +kernel
theorem dX5_behind_5 : decode cX5_behind 5 = .ok (.getfield 38, 3) := by decide +kernel
theorem dX5_behind_8 : decode cX5_behind 8 = .ok (.iadd, 1) := by decide +kernel
theorem dX5_behind_9 : decode cX5_behind 9 = .ok (.ireturn, 1) := by decide +kernel
theorem dX5_hasBegun_0 : decode cX5_hasBegun 0 = .ok (.aload_n 0, 1) := by decide +kernel
theorem dX5_hasBegun_1 : decode cX5_hasBegun 1 = .ok (.invokevirtual 41, 3) := by decide +kernel
theorem dX5_hasBegun_4 : decode cX5_hasBegun 4 = .ok (.ifCond .ne 15, 3) := by decide +kernel
theorem dX5_hasBegun_7 : decode cX5_hasBegun 7 = .ok (.aload_n 0, 1) := by decide +kernel
theorem dX5_hasBegun_8 : decode cX5_hasBegun 8 = .ok (.getfield 9, 3) := by decide +kernel
theorem dX5_hasBegun_11 : decode cX5_hasBegun 11 = .ok (.iload_n 1, 1) := by decide +kernel
theorem dX5_hasBegun_12 : decode cX5_hasBegun 12 = .ok (.if_icmp .ge 7, 3) := by decide +kernel
theorem dX5_hasBegun_15 : decode cX5_hasBegun 15 = .ok (.iconst 1, 1) := by decide +kernel
theorem dX5_hasBegun_16 : decode cX5_hasBegun 16 = .ok (.goto 4, 3) := by decide +kernel
theorem dX5_hasBegun_19 : decode cX5_hasBegun 19 = .ok (.iconst 0, 1) := by decide +kernel
theorem dX5_hasBegun_20 : decode cX5_hasBegun 20 = .ok (.ireturn, 1) := by decide +kernel
theorem dX5_isDone_0 : decode cX5_isDone 0 = .ok (.aload_n 0, 1) := by decide +kernel
theorem dX5_isDone_1 : decode cX5_isDone 1 = .ok (.invokevirtual 41, 3) := by decide +kernel
theorem dX5_isDone_4 : decode cX5_isDone 4 = .ok (.ifCond .ne 15, 3) := by decide +kernel
theorem dX5_isDone_7 : decode cX5_isDone 7 = .ok (.aload_n 0, 1) := by decide +kernel
theorem dX5_isDone_8 : decode cX5_isDone 8 = .ok (.invokevirtual 45, 3) := by decide +kernel
theorem dX5_isDone_11 : decode cX5_isDone 11 = .ok (.iload_n 1, 1) := by decide +kernel
theorem dX5_isDone_12 : decode cX5_isDone 12 = .ok (.if_icmp .gt 7, 3) := by decide +kernel
theorem dX5_isDone_15 : decode cX5_isDone 15 = .ok (.iconst 1, 1) := by decide +kernel
theorem dX5_isDone_16 : decode cX5_isDone 16 = .ok (.goto 4, 3) := by decide +kernel
theorem dX5_isDone_19 : decode cX5_isDone 19 = .ok (.iconst 0, 1) := by decide +kernel
theorem dX5_isDone_20 : decode cX5_isDone 20 = .ok (.ireturn, 1) := by decide +kernel
theorem dX5_leansOn_0 : decode cX5_leansOn 0 = .ok (.aload_n 0, 1) := by decide +kernel
theorem dX5_leansOn_1 : decode cX5_leansOn 1 = .ok (.getfield 49, 3) := by decide +kernel
theorem dX5_leansOn_4 : decode cX5_leansOn 4 = .ok (.aload_n 1, 1) := by decide +kernel
theorem dX5_leansOn_5 : decode cX5_leansOn 5 = .ok (.getfield 18, 3) := by decide +kernel
theorem dX5_leansOn_8 : decode cX5_leansOn 8 = .ok (.land, 1) := by decide +kernel
theorem dX5_leansOn_9 : decode cX5_leansOn 9 = .ok (.lconst 0, 1) := by decide +kernel
theorem dX5_leansOn_10 : decode cX5_leansOn 10 = .ok (.lcmp, 1) := by decide +kernel
theorem dX5_leansOn_11 : decode cX5_leansOn 11 = .ok (.ifCond .eq 7, 3) := by decide +kernel
theorem dX5_leansOn_14 : decode cX5_leansOn 14 = .ok (.iconst 1, 1) := by decide +kernel
theorem dX5_leansOn_15 : decode cX5_leansOn 15 = .ok (.goto 4, 3) := by decide +kernel
theorem dX5_leansOn_18 : decode cX5_leansOn 18 = .ok (.iconst 0, 1) := by decide +kernel
theorem dX5_leansOn_19 : decode cX5_leansOn 19 = .ok (.ireturn, 1) := by decide +kernel
theorem dX5_hangsOn_0 : decode cX5_hangsOn 0 = .ok (.aload_n 0, 1) := by decide +kernel
theorem dX5_hangsOn_1 : decode cX5_hangsOn 1 = .ok (.getfield 52, 3) := by decide +kernel
theorem dX5_hangsOn_4 : decode cX5_hangsOn 4 = .ok (.aload_n 1, 1) := by decide +kernel
theorem dX5_hangsOn_5 : decode cX5_hangsOn 5 = .ok (.getfield 18, 3) := by decide +kernel
theorem dX5_hangsOn_8 : decode cX5_hangsOn 8 = .ok (.land, 1) := by decide +kernel
theorem dX5_hangsOn_9 : decode cX5_hangsOn 9 = .ok (.lconst 0, 1) := by decide +kernel
theorem dX5_hangsOn_10 : decode cX5_hangsOn 10 = .ok (.lcmp, 1) := by decide +kernel
theorem dX5_hangsOn_11 : decode cX5_hangsOn 11 = .ok (.ifCond .eq 7, 3) := by decide +kernel
theorem dX5_hangsOn_14 : decode cX5_hangsOn 14 = .ok (.iconst 1, 1) := by decide +kernel
theorem dX5_hangsOn_15 : decode cX5_hangsOn 15 = .ok (.goto 4, 3) := by decide +kernel
theorem dX5_hangsOn_18 : decode cX5_hangsOn 18 = .ok (.iconst 0, 1) := by decide +kernel
theorem dX5_hangsOn_19 : decode cX5_hangsOn 19 = .ok (.ireturn, 1) := by decide +kernel
theorem dX5_isReady_0 : decode cX5_isReady 0 = .ok (.aload_n 0, 1) := by decide +kernel
theorem dX5_isReady_1 : decode cX5_isReady 1 = .ok (.invokevirtual 41, 3) := by decide +kernel
theorem dX5_isReady_4 : decode cX5_isReady 4 = .ok (.ifCond .eq 22, 3) := by decide +kernel
theorem dX5_isReady_7 : decode cX5_isReady 7 = .ok (.aload_n 0, 1) := by decide +kernel
theorem dX5_isReady_8 : decode cX5_isReady 8 = .ok (.getfield 49, 3) := by decide +kernel
theorem dX5_isReady_11 : decode cX5_isReady 11 = .ok (.lload_n 1, 1) := by decide +kernel
theorem dX5_isReady_12 : decode cX5_isReady 12 = .ok (.ldc2_w 55, 3) := by decide +kernel
theorem dX5_isReady_15 : decode cX5_isReady 15 = .ok (.lxor, 1) := by decide +kernel
theorem dX5_isReady_16 : decode cX5_isReady 16 = .ok (.land, 1) := by decide +kernel
theorem dX5_isReady_17 : decode cX5_isReady 17 = .ok (.lconst 0, 1) := by decide +kernel
theorem dX5_isReady_18 : decode cX5_isReady 18 = .ok (.lcmp, 1) := by decide +kernel
theorem dX5_isReady_19 : decode cX5_isReady 19 = .ok (.ifCond .ne 7, 3) := by decide +kernel
theorem dX5_isReady_22 : decode cX5_isReady 22 = .ok (.iconst 1, 1) := by decide +kernel
theorem dX5_isReady_23 : decode cX5_isReady 23 = .ok (.goto 4, 3) := by decide +kernel
theorem dX5_isReady_26 : decode cX5_isReady 26 = .ok (.iconst 0, 1) := by decide +kernel
theorem dX5_isReady_27 : decode cX5_isReady 27 = .ok (.ireturn, 1) := by decide +kernel
theorem dX5_wholeWay_0 : decode cX5_wholeWay 0 = .ok (.aload_n 0, 1) := by decide +kernel
theorem dX5_wholeWay_1 : decode cX5_wholeWay 1 = .ok (.getfield 57, 3) := by decide +kernel
theorem dX5_wholeWay_4 : decode cX5_wholeWay 4 = .ok (.aload_n 0, 1) := by decide +kernel
theorem dX5_wholeWay_5 : decode cX5_wholeWay 5 = .ok (.getfield 38, 3) := by decide +kernel
theorem dX5_wholeWay_8 : decode cX5_wholeWay 8 = .ok (.iadd, 1) := by decide +kernel
theorem dX5_wholeWay_9 : decode cX5_wholeWay 9 = .ok (.aload_n 0, 1) := by decide +kernel
theorem dX5_wholeWay_10 : decode cX5_wholeWay 10 = .ok (.getfield 60, 3) := by decide +kernel
theorem dX5_wholeWay_13 : decode cX5_wholeWay 13 = .ok (.iadd, 1) := by decide +kernel
theorem dX5_wholeWay_14 : decode cX5_wholeWay 14 = .ok (.ireturn, 1) := by decide +kernel
theorem dX6_init_0 : decode cX6_init 0 = .ok (.aload_n 0, 1) := by decide +kernel
theorem dX6_init_1 : decode cX6_init 1 = .ok (.invokespecial 1, 3) := by decide +kernel
theorem dX6_init_4 : decode cX6_init 4 = .ok (.aload_n 0, 1) := by decide +kernel
theorem dX6_init_5 : decode cX6_init 5 = .ok (.new 7, 3) := by decide +kernel
theorem dX6_init_8 : decode cX6_init 8 = .ok (.dup, 1) := by decide +kernel
theorem dX6_init_9 : decode cX6_init 9 = .ok (.invokespecial 9, 3) := by decide +kernel
theorem dX6_init_12 : decode cX6_init 12 = .ok (.putfield 10, 3) := by decide +kernel
theorem dX6_init_15 : decode cX6_init 15 = .ok (.aload_n 0, 1) := by decide +kernel
theorem dX6_init_16 : decode cX6_init 16 = .ok (.new 16, 3) := by decide +kernel
theorem dX6_init_19 : decode cX6_init 19 = .ok (.dup, 1) := by decide +kernel
theorem dX6_init_20 : decode cX6_init 20 = .ok (.invokespecial 18, 3) := by decide +kernel
theorem dX6_init_23 : decode cX6_init 23 = .ok (.putfield 19, 3) := by decide +kernel
theorem dX6_init_26 : decode cX6_init 26 = .ok (.aload_n 0, 1) := by decide +kernel
theorem dX6_init_27 : decode cX6_init 27 = .ok (.new 23, 3) := by decide +kernel
theorem dX6_init_30 : decode cX6_init 30 = .ok (.dup, 1) := by decide +kernel
theorem dX6_init_31 : decode cX6_init 31 = .ok (.invokespecial 25, 3) := by decide +kernel
theorem dX6_init_34 : decode cX6_init 34 = .ok (.putfield 26, 3) := by decide +kernel
theorem dX6_init_37 : decode cX6_init 37 = .ok (.aload_n 0, 1) := by decide +kernel
theorem dX6_init_38 : decode cX6_init 38 = .ok (.new 30, 3) := by decide +kernel
theorem dX6_init_41 : decode cX6_init 41 = .ok (.dup, 1) := by decide +kernel
theorem dX6_init_42 : decode cX6_init 42 = .ok (.aload_n 0, 1) := by decide +kernel
theorem dX6_init_43 : decode cX6_init 43 = .ok (.getfield 10, 3) := by decide +kernel
theorem dX6_init_46 : decode cX6_init 46 = .ok (.aload_n 0, 1) := by decide +kernel
theorem dX6_init_47 : decode cX6_init 47 = .ok (.getfield 19, 3) := by decide +kernel
theorem dX6_init_50 : decode cX6_init 50 = .ok (.aload_n 0, 1) := by decide +kernel
theorem dX6_init_51 : decode cX6_init 51 = .ok (.getfield 26, 3) := by decide +kernel
theorem dX6_init_54 : decode cX6_init 54 = .ok (.invokespecial 32, 3) := by decide +kernel
theorem dX6_init_57 : decode cX6_init 57 = .ok (.putfield 35, 3) := by decide +kernel
theorem dX6_init_60 : decode cX6_init 60 = .ok (.aload_n 0, 1) := by decide +kernel
theorem dX6_init_61 : decode cX6_init 61 = .ok (.new 39, 3) := by decide +kernel
theorem dX6_init_64 : decode cX6_init 64 = .ok (.dup, 1) := by decide +kernel
theorem dX6_init_65 : decode cX6_init 65 = .ok (.aload_n 0, 1) := by decide +kernel
theorem dX6_init_66 : decode cX6_init 66 = .ok (.getfield 19, 3) := by decide +kernel
theorem dX6_init_69 : decode cX6_init 69 = .ok (.aload_n 0, 1) := by decide +kernel
theorem dX6_init_70 : decode cX6_init 70 = .ok (.getfield 26, 3) := by decide +kernel
theorem dX6_init_73 : decode cX6_init 73 = .ok (.aload_n 0, 1) := by decide +kernel
theorem dX6_init_74 : decode cX6_init 74 = .ok (.getfield 35, 3) := by decide +kernel
theorem dX6_init_77 : decode cX6_init 77 = .ok (.invokespecial 41, 3) := by decide +kernel
theorem dX6_init_80 : decode cX6_init 80 = .ok (.putfield 44, 3) := by decide +kernel
theorem dX6_init_83 : decode cX6_init 83 = .ok (.return_, 1) := by decide +kernel
theorem dX6_space_0 : decode cX6_space 0 = .ok (.iload_n 1, 1) := by decide +kernel
theorem dX6_space_1 : decode cX6_space 1 = .ok (.iconst 1, 1) := by decide +kernel
theorem dX6_space_2 : decode cX6_space 2 = .ok (.if_icmp .lt 21, 3) := by decide +kernel
theorem dX6_space_5 : decode cX6_space 5 = .ok (.iload_n 1, 1) := by decide +kernel
theorem dX6_space_6 : decode cX6_space 6 = .ok (.bipush 9, 2) := by decide +kernel
theorem dX6_space_8 : decode cX6_space 8 = .ok (.if_icmp .gt 15, 3) := by decide +kernel
theorem dX6_space_11 : decode cX6_space 11 = .ok (.aload_n 0, 1) := by decide +kernel
theorem dX6_space_12 : decode cX6_space 12 = .ok (.getfield 10, 3) := by decide +kernel
theorem dX6_space_15 : decode cX6_space 15 = .ok (.getfield 48, 3) := by decide +kernel
theorem dX6_space_18 : decode cX6_space 18 = .ok (.bipush 20, 2) := by decide +kernel
theorem dX6_space_20 : decode cX6_space 20 = .ok (.if_icmp .lt 5, 3) := by decide +kernel
theorem dX6_space_23 : decode cX6_space 23 = .ok (.iconst (-1), 1) := by decide +kernel
theorem dX6_space_24 : decode cX6_space 24 = .ok (.ireturn, 1) := by decide +kernel
theorem dX6_space_25 : decode cX6_space 25 = .ok (.aload_n 0, 1) := by decide +kernel
theorem dX6_space_26 : decode cX6_space 26 = .ok (.getfield 10, 3) := by decide +kernel
theorem dX6_space_29 : decode cX6_space 29 = .ok (.iload_n 1, 1) := by decide +kernel
theorem dX6_space_30 : decode cX6_space 30 = .ok (.invokevirtual 52, 3) := by decide +kernel
theorem dX6_space_33 : decode cX6_space 33 = .ok (.ireturn, 1) := by decide +kernel
theorem dX6_near_0 : decode cX6_near 0 = .ok (.aload_n 0, 1) := by decide +kernel
theorem dX6_near_1 : decode cX6_near 1 = .ok (.getfield 10, 3) := by decide +kernel
theorem dX6_near_4 : decode cX6_near 4 = .ok (.iload_n 1, 1) := by decide +kernel
theorem dX6_near_5 : decode cX6_near 5 = .ok (.invokevirtual 56, 3) := by decide +kernel
theorem dX6_near_8 : decode cX6_near 8 = .ok (.ifCond .eq 31, 3) := by decide +kernel
theorem dX6_near_11 : decode cX6_near 11 = .ok (.aload_n 0, 1) := by decide +kernel
theorem dX6_near_12 : decode cX6_near 12 = .ok (.getfield 10, 3) := by decide +kernel
theorem dX6_near_15 : decode cX6_near 15 = .ok (.iload_n 2, 1) := by decide +kernel
theorem dX6_near_16 : decode cX6_near 16 = .ok (.invokevirtual 56, 3) := by decide +kernel
theorem dX6_near_19 : decode cX6_near 19 = .ok (.ifCond .eq 20, 3) := by decide +kernel
theorem dX6_near_22 : decode cX6_near 22 = .ok (.iload_n 1, 1) := by decide +kernel
theorem dX6_near_23 : decode cX6_near 23 = .ok (.iload_n 2, 1) := by decide +kernel
theorem dX6_near_24 : decode cX6_near 24 = .ok (.if_icmp .eq 15, 3) := by decide +kernel
theorem dX6_near_27 : decode cX6_near 27 = .ok (.aload_n 0, 1) := by decide +kernel
theorem dX6_near_28 : decode cX6_near 28 = .ok (.getfield 10, 3) := by decide +kernel
theorem dX6_near_31 : decode cX6_near 31 = .ok (.iload_n 1, 1) := by decide +kernel
theorem dX6_near_32 : decode cX6_near 32 = .ok (.iload_n 2, 1) := by decide +kernel
theorem dX6_near_33 : decode cX6_near 33 = .ok (.invokevirtual 60, 3) := by decide +kernel
theorem dX6_near_36 : decode cX6_near 36 = .ok (.ifCond .eq 5, 3) := by decide +kernel
theorem dX6_near_39 : decode cX6_near 39 = .ok (.iconst 0, 1) := by decide +kernel
theorem dX6_near_40 : decode cX6_near 40 = .ok (.ireturn, 1) := by decide +kernel
theorem dX6_near_41 : decode cX6_near 41 = .ok (.aload_n 0, 1) := by decide +kernel
theorem dX6_near_42 : decode cX6_near 42 = .ok (.getfield 10, 3) := by decide +kernel
theorem dX6_near_45 : decode cX6_near 45 = .ok (.iload_n 1, 1) := by decide +kernel
theorem dX6_near_46 : decode cX6_near 46 = .ok (.iload_n 2, 1) := by decide +kernel
theorem dX6_near_47 : decode cX6_near 47 = .ok (.invokevirtual 64, 3) := by decide +kernel
theorem dX6_near_50 : decode cX6_near 50 = .ok (.aload_n 0, 1) := by decide +kernel
theorem dX6_near_51 : decode cX6_near 51 = .ok (.getfield 35, 3) := by decide +kernel
theorem dX6_near_54 : decode cX6_near 54 = .ok (.invokevirtual 68, 3) := by decide +kernel
theorem dX6_near_57 : decode cX6_near 57 = .ok (.iconst 1, 1) := by decide +kernel
theorem dX6_near_58 : decode cX6_near 58 = .ok (.ireturn, 1) := by decide +kernel
theorem dX6_gang_0 : decode cX6_gang 0 = .ok (.iload_n 1, 1) := by decide +kernel
theorem dX6_gang_1 : decode cX6_gang 1 = .ok (.invokestatic 71, 3) := by decide +kernel
theorem dX6_gang_4 : decode cX6_gang 4 = .ok (.ifCond .eq 13, 3) := by decide +kernel
theorem dX6_gang_7 : decode cX6_gang 7 = .ok (.iload_n 2, 1) := by decide +kernel
theorem dX6_gang_8 : decode cX6_gang 8 = .ok (.ifCond .lt 9, 3) := by decide +kernel
theorem dX6_gang_11 : decode cX6_gang 11 = .ok (.iload_n 2, 1) := by decide +kernel
theorem dX6_gang_12 : decode cX6_gang 12 = .ok (.bipush 99, 2) := by decide +kernel
theorem dX6_gang_14 : decode cX6_gang 14 = .ok (.if_icmp .le 5, 3) := by decide +kernel
theorem dX6_gang_17 : decode cX6_gang 17 = .ok (.iconst 0, 1) := by decide +kernel
theorem dX6_gang_18 : decode cX6_gang 18 = .ok (.ireturn, 1) := by decide +kernel
theorem dX6_gang_19 : decode cX6_gang 19 = .ok (.aload_n 0, 1) := by decide +kernel
theorem dX6_gang_20 : decode cX6_gang 20 = .ok (.getfield 35, 3) := by decide +kernel
theorem dX6_gang_23 : decode cX6_gang 23 = .ok (.getfield 74, 3) := by decide +kernel
theorem dX6_gang_26 : decode cX6_gang 26 = .ok (.iload_n 1, 1) := by decide +kernel
theorem dX6_gang_27 : decode cX6_gang 27 = .ok (.iload_n 2, 1) := by decide +kernel
theorem dX6_gang_28 : decode cX6_gang 28 = .ok (.iastore, 1) := by decide +kernel
theorem dX6_gang_29 : decode cX6_gang 29 = .ok (.iconst 1, 1) := by decide +kernel
theorem dX6_gang_30 : decode cX6_gang 30 = .ok (.ireturn, 1) := by decide +kernel
theorem dX6_good_0 : decode cX6_good 0 = .ok (.iload_n 1, 1) := by decide +kernel
theorem dX6_good_1 : decode cX6_good 1 = .ok (.invokestatic 78, 3) := by decide +kernel
theorem dX6_good_4 : decode cX6_good 4 = .ok (.ifCond .eq 13, 3) := by decide +kernel
theorem dX6_good_7 : decode cX6_good 7 = .ok (.iload_n 2, 1) := by decide +kernel
theorem dX6_good_8 : decode cX6_good 8 = .ok (.ifCond .lt 9, 3) := by decide +kernel
theorem dX6_good_11 : decode cX6_good 11 = .ok (.iload_n 2, 1) := by decide +kernel
theorem dX6_good_12 : decode cX6_good 12 = .ok (.bipush 9, 2) := by decide +kernel
theorem dX6_good_14 : decode cX6_good 14 = .ok (.if_icmp .le 5, 3) := by decide +kernel
theorem dX6_good_17 : decode cX6_good 17 = .ok (.iconst 0, 1) := by decide +kernel
theorem dX6_good_18 : decode cX6_good 18 = .ok (.ireturn, 1) := by decide +kernel
theorem dX6_good_19 : decode cX6_good 19 = .ok (.aload_n 0, 1) := by decide +kernel
theorem dX6_good_20 : decode cX6_good 20 = .ok (.getfield 35, 3) := by decide +kernel
theorem dX6_good_23 : decode cX6_good 23 = .ok (.getfield 81, 3) := by decide +kernel
theorem dX6_good_26 : decode cX6_good 26 = .ok (.iload_n 1, 1) := by decide +kernel
theorem dX6_good_27 : decode cX6_good 27 = .ok (.iload_n 2, 1) := by decide +kernel
theorem dX6_good_28 : decode cX6_good 28 = .ok (.iastore, 1) := by decide +kernel
theorem dX6_good_29 : decode cX6_good 29 = .ok (.iconst 1, 1) := by decide +kernel
theorem dX6_good_30 : decode cX6_good 30 = .ok (.ireturn, 1) := by decide +kernel
theorem dX6_bar_0 : decode cX6_bar 0 = .ok (.iload_n 1, 1) := by decide +kernel
theorem dX6_bar_1 : decode cX6_bar 1 = .ok (.invokestatic 84, 3) := by decide +kernel
theorem dX6_bar_4 : decode cX6_bar 4 = .ok (.ifCond .eq 32, 3) := by decide +kernel
theorem dX6_bar_7 : decode cX6_bar 7 = .ok (.iload_n 2, 1) := by decide +kernel
theorem dX6_bar_8 : decode cX6_bar 8 = .ok (.invokestatic 84, 3) := by decide +kernel
theorem dX6_bar_11 : decode cX6_bar 11 = .ok (.ifCond .eq 25, 3) := by decide +kernel
theorem dX6_bar_14 : decode cX6_bar 14 = .ok (.iload_n 3, 1) := by decide +kernel
theorem dX6_bar_15 : decode cX6_bar 15 = .ok (.ifCond .lt 21, 3) := by decide +kernel
theorem dX6_bar_18 : decode cX6_bar 18 = .ok (.iload_n 3, 1) := by decide +kernel
theorem dX6_bar_19 : decode cX6_bar 19 = .ok (.iconst 3, 1) := by decide +kernel
theorem dX6_bar_20 : decode cX6_bar 20 = .ok (.if_icmp .ge 16, 3) := by decide +kernel
theorem dX6_bar_23 : decode cX6_bar 23 = .ok (.aload_n 0, 1) := by decide +kernel
theorem dX6_bar_24 : decode cX6_bar 24 = .ok (.getfield 10, 3) := by decide +kernel
theorem dX6_bar_27 : decode cX6_bar 27 = .ok (.iload_n 1, 1) := by decide +kernel
theorem dX6_bar_28 : decode cX6_bar 28 = .ok (.iload_n 2, 1) := by decide +kernel
theorem dX6_bar_29 : decode cX6_bar 29 = .ok (.iload_n 3, 1) := by decide +kernel
theorem dX6_bar_30 : decode cX6_bar 30 = .ok (.invokevirtual 87, 3) := by decide +kernel
theorem dX6_bar_33 : decode cX6_bar 33 = .ok (.ifCond .eq 5, 3) := by decide +kernel
theorem dX6_bar_36 : decode cX6_bar 36 = .ok (.iconst 0, 1) := by decide +kernel
theorem dX6_bar_37 : decode cX6_bar 37 = .ok (.ireturn, 1) := by decide +kernel
theorem dX6_bar_38 : decode cX6_bar 38 = .ok (.aload_n 0, 1) := by decide +kernel
theorem dX6_bar_39 : decode cX6_bar 39 = .ok (.getfield 10, 3) := by decide +kernel
theorem dX6_bar_42 : decode cX6_bar 42 = .ok (.iload_n 1, 1) := by decide +kernel
theorem dX6_bar_43 : decode cX6_bar 43 = .ok (.iload_n 2, 1) := by decide +kernel
theorem dX6_bar_44 : decode cX6_bar 44 = .ok (.iload_n 3, 1) := by decide +kernel
theorem dX6_bar_45 : decode cX6_bar 45 = .ok (.invokevirtual 91, 3) := by decide +kernel
theorem dX6_bar_48 : decode cX6_bar 48 = .ok (.aload_n 0, 1) := by decide +kernel
theorem dX6_bar_49 : decode cX6_bar 49 = .ok (.getfield 35, 3) := by decide +kernel
theorem dX6_bar_52 : decode cX6_bar 52 = .ok (.invokevirtual 68, 3) := by decide +kernel
theorem dX6_bar_55 : decode cX6_bar 55 = .ok (.iconst 1, 1) := by decide +kernel
theorem dX6_bar_56 : decode cX6_bar 56 = .ok (.ireturn, 1) := by decide +kernel
theorem dX6_work_0 : decode cX6_work 0 = .ok (.iload_n 1, 1) := by decide +kernel
theorem dX6_work_1 : decode cX6_work 1 = .ok (.ifCond .lt 27, 3) := by decide +kernel
theorem dX6_work_4 : decode cX6_work 4 = .ok (.aload_n 0, 1) := by decide +kernel
theorem dX6_work_5 : decode cX6_work 5 = .ok (.getfield 19, 3) := by decide +kernel
theorem dX6_work_8 : decode cX6_work 8 = .ok (.getfield 95, 3) := by decide +kernel
theorem dX6_work_11 : decode cX6_work 11 = .ok (.bipush 40, 2) := by decide +kernel
theorem dX6_work_13 : decode cX6_work 13 = .ok (.if_icmp .ge 15, 3) := by decide +kernel
theorem dX6_work_16 : decode cX6_work 16 = .ok (.iload_n 2, 1) := by decide +kernel
theorem dX6_work_17 : decode cX6_work 17 = .ok (.iconst (-1), 1) := by decide +kernel
theorem dX6_work_18 : decode cX6_work 18 = .ok (.if_icmp .eq 12, 3) := by decide +kernel
theorem dX6_work_21 : decode cX6_work 21 = .ok (.iload_n 2, 1) := by decide +kernel
theorem dX6_work_22 : decode cX6_work 22 = .ok (.invokestatic 78, 3) := by decide +kernel
theorem dX6_work_25 : decode cX6_work 25 = .ok (.ifCond .ne 5, 3) := by decide +kernel
theorem dX6_work_28 : decode cX6_work 28 = .ok (.iconst (-1), 1) := by decide +kernel
theorem dX6_work_29 : decode cX6_work 29 = .ok (.ireturn, 1) := by decide +kernel
theorem dX6_work_30 : decode cX6_work 30 = .ok (.new 98, 3) := by decide +kernel
theorem dX6_work_33 : decode cX6_work 33 = .ok (.dup, 1) := by decide +kernel
theorem dX6_work_34 : decode cX6_work 34 = .ok (.aload_n 0, 1) := by decide +kernel
theorem dX6_work_35 : decode cX6_work 35 = .ok (.getfield 19, 3) := by decide +kernel
theorem dX6_work_38 : decode cX6_work 38 = .ok (.getfield 95, 3) := by decide +kernel
theorem dX6_work_41 : decode cX6_work 41 = .ok (.iload_n 1, 1) := by decide +kernel
theorem dX6_work_42 : decode cX6_work 42 = .ok (.iload_n 2, 1) := by decide +kernel
theorem dX6_work_43 : decode cX6_work 43 = .ok (.invokespecial 100, 3) := by decide +kernel
theorem dX6_work_46 : decode cX6_work 46 = .ok (.astore_n 3, 1) := by decide +kernel
theorem dX6_work_47 : decode cX6_work 47 = .ok (.aload_n 0, 1) := by decide +kernel
theorem dX6_work_48 : decode cX6_work 48 = .ok (.aload_n 3, 1) := by decide +kernel
theorem dX6_work_49 : decode cX6_work 49 = .ok (.invokevirtual 102, 3) := by decide +kernel
theorem dX6_work_52 : decode cX6_work 52 = .ok (.ifCond .ne 5, 3) := by decide +kernel
theorem dX6_work_55 : decode cX6_work 55 = .ok (.iconst (-1), 1) := by decide +kernel
theorem dX6_work_56 : decode cX6_work 56 = .ok (.ireturn, 1) := by decide +kernel
theorem dX6_work_57 : decode cX6_work 57 = .ok (.aload_n 0, 1) := by decide +kernel
theorem dX6_work_58 : decode cX6_work 58 = .ok (.getfield 19, 3) := by decide +kernel
theorem dX6_work_61 : decode cX6_work 61 = .ok (.aload_n 3, 1) := by decide +kernel
theorem dX6_work_62 : decode cX6_work 62 = .ok (.invokevirtual 106, 3) := by decide +kernel
theorem dX6_work_65 : decode cX6_work 65 = .ok (.aload_n 0, 1) := by decide +kernel
theorem dX6_work_66 : decode cX6_work 66 = .ok (.getfield 35, 3) := by decide +kernel
theorem dX6_work_69 : decode cX6_work 69 = .ok (.invokevirtual 68, 3) := by decide +kernel
theorem dX6_work_72 : decode cX6_work 72 = .ok (.aload_n 3, 1) := by decide +kernel
theorem dX6_work_73 : decode cX6_work 73 = .ok (.getfield 110, 3) := by decide +kernel
theorem dX6_work_76 : decode cX6_work 76 = .ok (.ireturn, 1) := by decide +kernel
theorem dX6_need_0 : decode cX6_need 0 = .ok (.aload_n 0, 1) := by decide +kernel
theorem dX6_need_1 : decode cX6_need 1 = .ok (.getfield 19, 3) := by decide +kernel
theorem dX6_need_4 : decode cX6_need 4 = .ok (.iload_n 1, 1) := by decide +kernel
theorem dX6_need_5 : decode cX6_need 5 = .ok (.invokevirtual 113, 3) := by decide +kernel
theorem dX6_need_8 : decode cX6_need 8 = .ok (.astore_n 3, 1) := by decide +kernel
theorem dX6_need_9 : decode cX6_need 9 = .ok (.aload_n 0, 1) := by decide +kernel
theorem dX6_need_10 : decode cX6_need 10 = .ok (.getfield 19, 3) := by decide +kernel
theorem dX6_need_13 : decode cX6_need 13 = .ok (.iload_n 2, 1) := by decide +kernel
theorem dX6_need_14 : decode cX6_need 14 = .ok (.invokevirtual 113, 3) := by decide +kernel
theorem dX6_need_17 : decode cX6_need 17 = .ok (.astore 4, 2) := by decide +kernel
theorem dX6_need_19 : decode cX6_need 19 = .ok (.aload_n 3, 1) := by decide +kernel
theorem dX6_need_20 : decode cX6_need 20 = .ok (.ifnull 27, 3) := by decide +kernel
theorem dX6_need_23 : decode cX6_need 23 = .ok (.aload 4, 2) := by decide +kernel
theorem dX6_need_25 : decode cX6_need 25 = .ok (.ifnull 22, 3) := by decide +kernel
theorem dX6_need_28 : decode cX6_need 28 = .ok (.aload_n 0, 1) := by decide +kernel
theorem dX6_need_29 : decode cX6_need 29 = .ok (.aload_n 3, 1) := by decide +kernel
theorem dX6_need_30 : decode cX6_need 30 = .ok (.aload 4, 2) := by decide +kernel
theorem dX6_need_32 : decode cX6_need 32 = .ok (.invokevirtual 117, 3) := by decide +kernel
theorem dX6_need_35 : decode cX6_need 35 = .ok (.ifCond .eq 12, 3) := by decide +kernel
theorem dX6_need_38 : decode cX6_need 38 = .ok (.aload_n 3, 1) := by decide +kernel
theorem dX6_need_39 : decode cX6_need 39 = .ok (.aload 4, 2) := by decide +kernel
theorem dX6_need_41 : decode cX6_need 41 = .ok (.invokevirtual 121, 3) := by decide +kernel
theorem dX6_need_44 : decode cX6_need 44 = .ok (.ifCond .eq 5, 3) := by decide +kernel
theorem dX6_need_47 : decode cX6_need 47 = .ok (.iconst 0, 1) := by decide +kernel
theorem dX6_need_48 : decode cX6_need 48 = .ok (.ireturn, 1) := by decide +kernel
theorem dX6_need_49 : decode cX6_need 49 = .ok (.aload_n 0, 1) := by decide +kernel
theorem dX6_need_50 : decode cX6_need 50 = .ok (.getfield 19, 3) := by decide +kernel
theorem dX6_need_53 : decode cX6_need 53 = .ok (.aload_n 3, 1) := by decide +kernel
theorem dX6_need_54 : decode cX6_need 54 = .ok (.aload 4, 2) := by decide +kernel
theorem dX6_need_56 : decode cX6_need 56 = .ok (.invokevirtual 124, 3) := by decide +kernel
theorem dX6_need_59 : decode cX6_need 59 = .ok (.iconst 1, 1) := by decide +kernel
theorem dX6_need_60 : decode cX6_need 60 = .ok (.ireturn, 1) := by decide +kernel
theorem dX6_tells_0 : decode cX6_tells 0 = .ok (.aload_n 0, 1) := by decide +kernel
theorem dX6_tells_1 : decode cX6_tells 1 = .ok (.getfield 19, 3) := by decide +kernel
theorem dX6_tells_4 : decode cX6_tells 4 = .ok (.iload_n 1, 1) := by decide +kernel
theorem dX6_tells_5 : decode cX6_tells 5 = .ok (.invokevirtual 113, 3) := by decide +kernel
theorem dX6_tells_8 : decode cX6_tells 8 = .ok (.astore_n 3, 1) := by decide +kernel
theorem dX6_tells_9 : decode cX6_tells 9 = .ok (.aload_n 0, 1) := by decide +kernel
theorem dX6_tells_10 : decode cX6_tells 10 = .ok (.getfield 19, 3) := by decide +kernel
theorem dX6_tells_13 : decode cX6_tells 13 = .ok (.iload_n 2, 1) := by decide +kernel
theorem dX6_tells_14 : decode cX6_tells 14 = .ok (.invokevirtual 113, 3) := by decide +kernel
theorem dX6_tells_17 : decode cX6_tells 17 = .ok (.astore 4, 2) := by decide +kernel
theorem dX6_tells_19 : decode cX6_tells 19 = .ok (.aload_n 3, 1) := by decide +kernel
theorem dX6_tells_20 : decode cX6_tells 20 = .ok (.ifnull 26, 3) := by decide +kernel
theorem dX6_tells_23 : decode cX6_tells 23 = .ok (.aload 4, 2) := by decide +kernel
theorem dX6_tells_25 : decode cX6_tells 25 = .ok (.ifnull 21, 3) := by decide +kernel
theorem dX6_tells_28 : decode cX6_tells 28 = .ok (.aload_n 3, 1) := by decide +kernel
theorem dX6_tells_29 : decode cX6_tells 29 = .ok (.getfield 128, 3) := by decide +kernel
theorem dX6_tells_32 : decode cX6_tells 32 = .ok (.iconst 4, 1) := by decide +kernel
theorem dX6_tells_33 : decode cX6_tells 33 = .ok (.if_icmp .ne 13, 3) := by decide +kernel
theorem dX6_tells_36 : decode cX6_tells 36 = .ok (.aload_n 0, 1) := by decide +kernel
theorem dX6_tells_37 : decode cX6_tells 37 = .ok (.aload_n 3, 1) := by decide +kernel
theorem dX6_tells_38 : decode cX6_tells 38 = .ok (.aload 4, 2) := by decide +kernel
theorem dX6_tells_40 : decode cX6_tells 40 = .ok (.invokevirtual 117, 3) := by decide +kernel
theorem dX6_tells_43 : decode cX6_tells 43 = .ok (.ifCond .ne 5, 3) := by decide +kernel
theorem dX6_tells_46 : decode cX6_tells 46 = .ok (.iconst 0, 1) := by decide +kernel
theorem dX6_tells_47 : decode cX6_tells 47 = .ok (.ireturn, 1) := by decide +kernel
theorem dX6_tells_48 : decode cX6_tells 48 = .ok (.aload_n 3, 1) := by decide +kernel
theorem dX6_tells_49 : decode cX6_tells 49 = .ok (.getfield 131, 3) := by decide +kernel
theorem dX6_tells_52 : decode cX6_tells 52 = .ok (.aload 4, 2) := by decide +kernel
theorem dX6_tells_54 : decode cX6_tells 54 = .ok (.getfield 135, 3) := by decide +kernel
theorem dX6_tells_57 : decode cX6_tells 57 = .ok (.land, 1) := by decide +kernel
theorem dX6_tells_58 : decode cX6_tells 58 = .ok (.lconst 0, 1) := by decide +kernel
theorem dX6_tells_59 : decode cX6_tells 59 = .ok (.lcmp, 1) := by decide +kernel
theorem dX6_tells_60 : decode cX6_tells 60 = .ok (.ifCond .eq 5, 3) := by decide +kernel
theorem dX6_tells_63 : decode cX6_tells 63 = .ok (.iconst 0, 1) := by decide +kernel
theorem dX6_tells_64 : decode cX6_tells 64 = .ok (.ireturn, 1) := by decide +kernel
theorem dX6_tells_65 : decode cX6_tells 65 = .ok (.aload_n 3, 1) := by decide +kernel
theorem dX6_tells_66 : decode cX6_tells 66 = .ok (.dup, 1) := by decide +kernel
theorem dX6_tells_67 : decode cX6_tells 67 = .ok (.getfield 131, 3) := by decide +kernel
theorem dX6_tells_70 : decode cX6_tells 70 = .ok (.aload 4, 2) := by decide +kernel
theorem dX6_tells_72 : decode cX6_tells 72 = .ok (.getfield 135, 3) := by decide +kernel
theorem dX6_tells_75 : decode cX6_tells 75 = .ok (.lor, 1) := by decide +kernel
theorem dX6_tells_76 : decode cX6_tells 76 = .ok (.putfield 131, 3) := by decide +kernel
theorem dX6_tells_79 : decode cX6_tells 79 = .ok (.aload_n 0, 1) := by decide +kernel
theorem dX6_tells_80 : decode cX6_tells 80 = .ok (.getfield 19, 3) := by decide +kernel
theorem dX6_tells_83 : decode cX6_tells 83 = .ok (.aload_n 3, 1) := by decide +kernel
theorem dX6_tells_84 : decode cX6_tells 84 = .ok (.aload 4, 2) := by decide +kernel
theorem dX6_tells_86 : decode cX6_tells 86 = .ok (.invokevirtual 124, 3) := by decide +kernel
theorem dX6_tells_89 : decode cX6_tells 89 = .ok (.iconst 1, 1) := by decide +kernel
theorem dX6_tells_90 : decode cX6_tells 90 = .ok (.ireturn, 1) := by decide +kernel
theorem dX6_put_0 : decode cX6_put 0 = .ok (.aload_n 0, 1) := by decide +kernel
theorem dX6_put_1 : decode cX6_put 1 = .ok (.getfield 19, 3) := by decide +kernel
theorem dX6_put_4 : decode cX6_put 4 = .ok (.iload_n 1, 1) := by decide +kernel
theorem dX6_put_5 : decode cX6_put 5 = .ok (.invokevirtual 113, 3) := by decide +kernel
theorem dX6_put_8 : decode cX6_put 8 = .ok (.astore_n 3, 1) := by decide +kernel
theorem dX6_put_9 : decode cX6_put 9 = .ok (.aload_n 3, 1) := by decide +kernel
theorem dX6_put_10 : decode cX6_put 10 = .ok (.ifnull 40, 3) := by decide +kernel
theorem dX6_put_13 : decode cX6_put 13 = .ok (.aload_n 3, 1) := by decide +kernel
theorem dX6_put_14 : decode cX6_put 14 = .ok (.aload_n 0, 1) := by decide +kernel
theorem dX6_put_15 : decode cX6_put 15 = .ok (.getfield 26, 3) := by decide +kernel
theorem dX6_put_18 : decode cX6_put 18 = .ok (.getfield 138, 3) := by decide +kernel
theorem dX6_put_21 : decode cX6_put 21 = .ok (.invokevirtual 141, 3) := by decide +kernel
theorem dX6_put_24 : decode cX6_put 24 = .ok (.ifCond .ne 26, 3) := by decide +kernel
theorem dX6_put_27 : decode cX6_put 27 = .ok (.iload_n 2, 1) := by decide +kernel
theorem dX6_put_28 : decode cX6_put 28 = .ok (.aload_n 0, 1) := by decide +kernel
theorem dX6_put_29 : decode cX6_put 29 = .ok (.getfield 26, 3) := by decide +kernel
theorem dX6_put_32 : decode cX6_put 32 = .ok (.getfield 138, 3) := by decide +kernel
theorem dX6_put_35 : decode cX6_put 35 = .ok (.if_icmp .lt 15, 3) := by decide +kernel
theorem dX6_put_38 : decode cX6_put 38 = .ok (.iload_n 2, 1) := by decide +kernel
theorem dX6_put_39 : decode cX6_put 39 = .ok (.sipush 400, 3) := by decide +kernel
theorem dX6_put_42 : decode cX6_put 42 = .ok (.aload_n 3, 1) := by decide +kernel
theorem dX6_put_43 : decode cX6_put 43 = .ok (.getfield 144, 3) := by decide +kernel
theorem dX6_put_46 : decode cX6_put 46 = .ok (.isub, 1) := by decide +kernel
theorem dX6_put_47 : decode cX6_put 47 = .ok (.if_icmp .le 5, 3) := by decide +kernel
theorem dX6_put_50 : decode cX6_put 50 = .ok (.iconst 0, 1) := by decide +kernel
theorem dX6_put_51 : decode cX6_put 51 = .ok (.ireturn, 1) := by decide +kernel
theorem dX6_put_52 : decode cX6_put 52 = .ok (.aload_n 0, 1) := by decide +kernel
theorem dX6_put_53 : decode cX6_put 53 = .ok (.getfield 26, 3) := by decide +kernel
theorem dX6_put_56 : decode cX6_put 56 = .ok (.aload_n 3, 1) := by decide +kernel
theorem dX6_put_57 : decode cX6_put 57 = .ok (.invokevirtual 147, 3) := by decide +kernel
theorem dX6_put_60 : decode cX6_put 60 = .ok (.aload_n 0, 1) := by decide +kernel
theorem dX6_put_61 : decode cX6_put 61 = .ok (.getfield 26, 3) := by decide +kernel
theorem dX6_put_64 : decode cX6_put 64 = .ok (.aload_n 3, 1) := by decide +kernel
theorem dX6_put_65 : decode cX6_put 65 = .ok (.iload_n 2, 1) := by decide +kernel
theorem dX6_put_66 : decode cX6_put 66 = .ok (.invokevirtual 150, 3) := by decide +kernel
theorem dX6_put_69 : decode cX6_put 69 = .ok (.iconst 1, 1) := by decide +kernel
theorem dX6_put_70 : decode cX6_put 70 = .ok (.ireturn, 1) := by decide +kernel
theorem dX6_take_0 : decode cX6_take 0 = .ok (.aload_n 0, 1) := by decide +kernel
theorem dX6_take_1 : decode cX6_take 1 = .ok (.getfield 19, 3) := by decide +kernel
theorem dX6_take_4 : decode cX6_take 4 = .ok (.iload_n 1, 1) := by decide +kernel
theorem dX6_take_5 : decode cX6_take 5 = .ok (.invokevirtual 113, 3) := by decide +kernel
theorem dX6_take_8 : decode cX6_take 8 = .ok (.astore_n 2, 1) := by decide +kernel
theorem dX6_take_9 : decode cX6_take 9 = .ok (.aload_n 2, 1) := by decide +kernel
theorem dX6_take_10 : decode cX6_take 10 = .ok (.ifnull 24, 3) := by decide +kernel
theorem dX6_take_13 : decode cX6_take 13 = .ok (.aload_n 2, 1) := by decide +kernel
theorem dX6_take_14 : decode cX6_take 14 = .ok (.invokevirtual 154, 3) := by decide +kernel
theorem dX6_take_17 : decode cX6_take 17 = .ok (.ifCond .ne 17, 3) := by decide +kernel
theorem dX6_take_20 : decode cX6_take 20 = .ok (.aload_n 2, 1) := by decide +kernel
theorem dX6_take_21 : decode cX6_take 21 = .ok (.aload_n 0, 1) := by decide +kernel
theorem dX6_take_22 : decode cX6_take 22 = .ok (.getfield 26, 3) := by decide +kernel
theorem dX6_take_25 : decode cX6_take 25 = .ok (.getfield 138, 3) := by decide +kernel
theorem dX6_take_28 : decode cX6_take 28 = .ok (.invokevirtual 141, 3) := by decide +kernel
theorem dX6_take_31 : decode cX6_take 31 = .ok (.ifCond .eq 5, 3) := by decide +kernel
theorem dX6_take_34 : decode cX6_take 34 = .ok (.iconst 0, 1) := by decide +kernel
theorem dX6_take_35 : decode cX6_take 35 = .ok (.ireturn, 1) := by decide +kernel
theorem dX6_take_36 : decode cX6_take 36 = .ok (.aload_n 0, 1) := by decide +kernel
theorem dX6_take_37 : decode cX6_take 37 = .ok (.getfield 26, 3) := by decide +kernel
theorem dX6_take_40 : decode cX6_take 40 = .ok (.aload_n 2, 1) := by decide +kernel
theorem dX6_take_41 : decode cX6_take 41 = .ok (.invokevirtual 147, 3) := by decide +kernel
theorem dX6_take_44 : decode cX6_take 44 = .ok (.iconst 1, 1) := by decide +kernel
theorem dX6_take_45 : decode cX6_take 45 = .ok (.ireturn, 1) := by decide +kernel
theorem dX6_may_0 : decode cX6_may 0 = .ok (.iload_n 2, 1) := by decide +kernel
theorem dX6_may_1 : decode cX6_may 1 = .ok (.ifCond .lt 17, 3) := by decide +kernel
theorem dX6_may_4 : decode cX6_may 4 = .ok (.aload_n 0, 1) := by decide +kernel
theorem dX6_may_5 : decode cX6_may 5 = .ok (.iload_n 1, 1) := by decide +kernel
theorem dX6_may_6 : decode cX6_may 6 = .ok (.iload_n 2, 1) := by decide +kernel
theorem dX6_may_7 : decode cX6_may 7 = .ok (.invokevirtual 158, 3) := by decide +kernel
theorem dX6_may_10 : decode cX6_may 10 = .ok (.iload_n 2, 1) := by decide +kernel
theorem dX6_may_11 : decode cX6_may 11 = .ok (.if_icmp .ne 7, 3) := by decide +kernel
theorem dX6_may_14 : decode cX6_may 14 = .ok (.iconst 1, 1) := by decide +kernel
theorem dX6_may_15 : decode cX6_may 15 = .ok (.goto 4, 3) := by decide +kernel
theorem dX6_may_18 : decode cX6_may 18 = .ok (.iconst 0, 1) := by decide +kernel
theorem dX6_may_19 : decode cX6_may 19 = .ok (.ireturn, 1) := by decide +kernel
theorem dX6_first_0 : decode cX6_first 0 = .ok (.aload_n 0, 1) := by decide +kernel
theorem dX6_first_1 : decode cX6_first 1 = .ok (.getfield 19, 3) := by decide +kernel
theorem dX6_first_4 : decode cX6_first 4 = .ok (.iload_n 1, 1) := by decide +kernel
theorem dX6_first_5 : decode cX6_first 5 = .ok (.invokevirtual 113, 3) := by decide +kernel
theorem dX6_first_8 : decode cX6_first 8 = .ok (.astore_n 3, 1) := by decide +kernel
theorem dX6_first_9 : decode cX6_first 9 = .ok (.aload_n 3, 1) := by decide +kernel
theorem dX6_first_10 : decode cX6_first 10 = .ok (.ifnull 17, 3) := by decide +kernel
theorem dX6_first_13 : decode cX6_first 13 = .ok (.aload_n 3, 1) := by decide +kernel
theorem dX6_first_14 : decode cX6_first 14 = .ok (.aload_n 0, 1) := by decide +kernel
theorem dX6_first_15 : decode cX6_first 15 = .ok (.getfield 26, 3) := by decide +kernel
theorem dX6_first_18 : decode cX6_first 18 = .ok (.getfield 138, 3) := by decide +kernel
theorem dX6_first_21 : decode cX6_first 21 = .ok (.invokevirtual 141, 3) := by decide +kernel
theorem dX6_first_24 : decode cX6_first 24 = .ok (.ifCond .eq 5, 3) := by decide +kernel
theorem dX6_first_27 : decode cX6_first 27 = .ok (.iconst (-1), 1) := by decide +kernel
theorem dX6_first_28 : decode cX6_first 28 = .ok (.ireturn, 1) := by decide +kernel
theorem dX6_first_29 : decode cX6_first 29 = .ok (.aload_n 0, 1) := by decide +kernel
theorem dX6_first_30 : decode cX6_first 30 = .ok (.getfield 35, 3) := by decide +kernel
theorem dX6_first_33 : decode cX6_first 33 = .ok (.aload_n 3, 1) := by decide +kernel
theorem dX6_first_34 : decode cX6_first 34 = .ok (.iload_n 2, 1) := by decide +kernel
theorem dX6_first_35 : decode cX6_first 35 = .ok (.invokevirtual 162, 3) := by decide +kernel
theorem dX6_first_38 : decode cX6_first 38 = .ok (.ireturn, 1) := by decide +kernel
theorem dX6_why_0 : decode cX6_why 0 = .ok (.iconst 0, 1) := by decide +kernel
theorem dX6_why_1 : decode cX6_why 1 = .ok (.istore_n 2, 1) := by decide +kernel
theorem dX6_why_2 : decode cX6_why 2 = .ok (.iload_n 2, 1) := by decide +kernel
theorem dX6_why_3 : decode cX6_why 3 = .ok (.aload_n 0, 1) := by decide +kernel
theorem dX6_why_4 : decode cX6_why 4 = .ok (.getfield 19, 3) := by decide +kernel
theorem dX6_why_7 : decode cX6_why 7 = .ok (.getfield 95, 3) := by decide +kernel
theorem dX6_why_10 : decode cX6_why 10 = .ok (.if_icmp .ge 44, 3) := by decide +kernel
theorem dX6_why_13 : decode cX6_why 13 = .ok (.aload_n 0, 1) := by decide +kernel
theorem dX6_why_14 : decode cX6_why 14 = .ok (.getfield 19, 3) := by decide +kernel
theorem dX6_why_17 : decode cX6_why 17 = .ok (.getfield 166, 3) := by decide +kernel
theorem dX6_why_20 : decode cX6_why 20 = .ok (.iload_n 2, 1) := by decide +kernel
theorem dX6_why_21 : decode cX6_why 21 = .ok (.aaload, 1) := by decide +kernel
theorem dX6_why_22 : decode cX6_why 22 = .ok (.astore_n 3, 1) := by decide +kernel
theorem dX6_why_23 : decode cX6_why 23 = .ok (.aload_n 0, 1) := by decide +kernel
theorem dX6_why_24 : decode cX6_why 24 = .ok (.getfield 35, 3) := by decide +kernel
theorem dX6_why_27 : decode cX6_why 27 = .ok (.aload_n 3, 1) := by decide +kernel
theorem dX6_why_28 : decode cX6_why 28 = .ok (.invokevirtual 170, 3) := by decide +kernel
theorem dX6_why_31 : decode cX6_why 31 = .ok (.istore 4, 2) := by decide +kernel
theorem dX6_why_33 : decode cX6_why 33 = .ok (.iload 4, 2) := by decide +kernel
theorem dX6_why_35 : decode cX6_why 35 = .ok (.iconst (-1), 1) := by decide +kernel
theorem dX6_why_36 : decode cX6_why 36 = .ok (.if_icmp .eq 12, 3) := by decide +kernel
theorem dX6_why_39 : decode cX6_why 39 = .ok (.aload_n 0, 1) := by decide +kernel
theorem dX6_why_40 : decode cX6_why 40 = .ok (.aload_n 3, 1) := by decide +kernel
theorem dX6_why_41 : decode cX6_why 41 = .ok (.iload 4, 2) := by decide +kernel
theorem dX6_why_43 : decode cX6_why 43 = .ok (.iload_n 1, 1) := by decide +kernel
theorem dX6_why_44 : decode cX6_why 44 = .ok (.invokevirtual 174, 3) := by decide +kernel
theorem dX6_why_47 : decode cX6_why 47 = .ok (.ireturn, 1) := by decide +kernel
theorem dX6_why_48 : decode cX6_why 48 = .ok (.iinc 2 1, 3) := by decide +kernel
theorem dX6_why_51 : decode cX6_why 51 = .ok (.goto (-49), 3) := by decide +kernel
theorem dX6_why_54 : decode cX6_why 54 = .ok (.iconst (-1), 1) := by decide +kernel
theorem dX6_why_55 : decode cX6_why 55 = .ok (.ireturn, 1) := by decide +kernel
theorem dX6_told_0 : decode cX6_told 0 = .ok (.aload_n 0, 1) := by decide +kernel
theorem dX6_told_1 : decode cX6_told 1 = .ok (.getfield 19, 3) := by decide +kernel
theorem dX6_told_4 : decode cX6_told 4 = .ok (.iload_n 1, 1) := by decide +kernel
theorem dX6_told_5 : decode cX6_told 5 = .ok (.invokevirtual 113, 3) := by decide +kernel
theorem dX6_told_8 : decode cX6_told 8 = .ok (.astore_n 3, 1) := by decide +kernel
theorem dX6_told_9 : decode cX6_told 9 = .ok (.aload_n 3, 1) := by decide +kernel
theorem dX6_told_10 : decode cX6_told 10 = .ok (.ifnonnull 5, 3) := by decide +kernel
theorem dX6_told_13 : decode cX6_told 13 = .ok (.iconst (-1), 1) := by decide +kernel
theorem dX6_told_14 : decode cX6_told 14 = .ok (.ireturn, 1) := by decide +kernel
theorem dX6_told_15 : decode cX6_told 15 = .ok (.iload_n 2, 1) := by decide +kernel
theorem dX6_told_16 : decode cX6_told 16 = .ok (.tableswitch 141 0 12 #[68, 73, 78, 83, 88, 93, 98, 104, 109, 114, 119, 128, 136], 68) := by decide +kernel
theorem dX6_told_84 : decode cX6_told 84 = .ok (.aload_n 3, 1) := by decide +kernel
theorem dX6_told_85 : decode cX6_told 85 = .ok (.getfield 144, 3) := by decide +kernel
theorem dX6_told_88 : decode cX6_told 88 = .ok (.ireturn, 1) := by decide +kernel
theorem dX6_told_89 : decode cX6_told 89 = .ok (.aload_n 3, 1) := by decide +kernel
theorem dX6_told_90 : decode cX6_told 90 = .ok (.getfield 178, 3) := by decide +kernel
theorem dX6_told_93 : decode cX6_told 93 = .ok (.ireturn, 1) := by decide +kernel
theorem dX6_told_94 : decode cX6_told 94 = .ok (.aload_n 3, 1) := by decide +kernel
theorem dX6_told_95 : decode cX6_told 95 = .ok (.getfield 181, 3) := by decide +kernel
theorem dX6_told_98 : decode cX6_told 98 = .ok (.ireturn, 1) := by decide +kernel
theorem dX6_told_99 : decode cX6_told 99 = .ok (.aload_n 3, 1) := by decide +kernel
theorem dX6_told_100 : decode cX6_told 100 = .ok (.getfield 184, 3) := by decide +kernel
theorem dX6_told_103 : decode cX6_told 103 = .ok (.ireturn, 1) := by decide +kernel
theorem dX6_told_104 : decode cX6_told 104 = .ok (.aload_n 3, 1) := by decide +kernel
theorem dX6_told_105 : decode cX6_told 105 = .ok (.getfield 128, 3) := by decide +kernel
theorem dX6_told_108 : decode cX6_told 108 = .ok (.ireturn, 1) := by decide +kernel
theorem dX6_told_109 : decode cX6_told 109 = .ok (.aload_n 3, 1) := by decide +kernel
theorem dX6_told_110 : decode cX6_told 110 = .ok (.getfield 187, 3) := by decide +kernel
theorem dX6_told_113 : decode cX6_told 113 = .ok (.ireturn, 1) := by decide +kernel
theorem dX6_told_114 : decode cX6_told 114 = .ok (.aload_n 0, 1) := by decide +kernel
theorem dX6_told_115 : decode cX6_told 115 = .ok (.aload_n 3, 1) := by decide +kernel
theorem dX6_told_116 : decode cX6_told 116 = .ok (.invokevirtual 190, 3) := by decide +kernel
theorem dX6_told_119 : decode cX6_told 119 = .ok (.ireturn, 1) := by decide +kernel
theorem dX6_told_120 : decode cX6_told 120 = .ok (.aload_n 3, 1) := by decide +kernel
theorem dX6_told_121 : decode cX6_told 121 = .ok (.getfield 193, 3) := by decide +kernel
theorem dX6_told_124 : decode cX6_told 124 = .ok (.ireturn, 1) := by decide +kernel
theorem dX6_told_125 : decode cX6_told 125 = .ok (.aload_n 3, 1) := by decide +kernel
theorem dX6_told_126 : decode cX6_told 126 = .ok (.getfield 196, 3) := by decide +kernel
theorem dX6_told_129 : decode cX6_told 129 = .ok (.ireturn, 1) := by decide +kernel
theorem dX6_told_130 : decode cX6_told 130 = .ok (.aload_n 3, 1) := by decide +kernel
theorem dX6_told_131 : decode cX6_told 131 = .ok (.getfield 199, 3) := by decide +kernel
theorem dX6_told_134 : decode cX6_told 134 = .ok (.ireturn, 1) := by decide +kernel
theorem dX6_told_135 : decode cX6_told 135 = .ok (.aload_n 0, 1) := by decide +kernel
theorem dX6_told_136 : decode cX6_told 136 = .ok (.getfield 19, 3) := by decide +kernel
theorem dX6_told_139 : decode cX6_told 139 = .ok (.aload_n 3, 1) := by decide +kernel
theorem dX6_told_140 : decode cX6_told 140 = .ok (.invokevirtual 202, 3) := by decide +kernel
theorem dX6_told_143 : decode cX6_told 143 = .ok (.ireturn, 1) := by decide +kernel
theorem dX6_told_144 : decode cX6_told 144 = .ok (.aload_n 3, 1) := by decide +kernel
theorem dX6_told_145 : decode cX6_told 145 = .ok (.getfield 205, 3) := by decide +kernel
theorem dX6_told_148 : decode cX6_told 148 = .ok (.invokestatic 208, 3) := by decide +kernel
theorem dX6_told_151 : decode cX6_told 151 = .ok (.ireturn, 1) := by decide +kernel
theorem dX6_told_152 : decode cX6_told 152 = .ok (.aload_n 3, 1) := by decide +kernel
theorem dX6_told_153 : decode cX6_told 153 = .ok (.getfield 214, 3) := by decide +kernel
theorem dX6_told_156 : decode cX6_told 156 = .ok (.ireturn, 1) := by decide +kernel
theorem dX6_told_157 : decode cX6_told 157 = .ok (.iconst (-1), 1) := by decide +kernel
theorem dX6_told_158 : decode cX6_told 158 = .ok (.ireturn, 1) := by decide +kernel
theorem dX6_load_0 : decode cX6_load 0 = .ok (.iload_n 1, 1) := by decide +kernel
theorem dX6_load_1 : decode cX6_load 1 = .ok (.ifCond .lt 20, 3) := by decide +kernel
theorem dX6_load_4 : decode cX6_load 4 = .ok (.iload_n 1, 1) := by decide +kernel
theorem dX6_load_5 : decode cX6_load 5 = .ok (.sipush 400, 3) := by decide +kernel
theorem dX6_load_8 : decode cX6_load 8 = .ok (.if_icmp .ge 13, 3) := by decide +kernel
theorem dX6_load_11 : decode cX6_load 11 = .ok (.iload_n 2, 1) := by decide +kernel
theorem dX6_load_12 : decode cX6_load 12 = .ok (.ifCond .lt 9, 3) := by decide +kernel
theorem dX6_load_15 : decode cX6_load 15 = .ok (.iload_n 2, 1) := by decide +kernel
theorem dX6_load_16 : decode cX6_load 16 = .ok (.bipush 8, 2) := by decide +kernel
theorem dX6_load_18 : decode cX6_load 18 = .ok (.if_icmp .le 5, 3) := by decide +kernel
theorem dX6_load_21 : decode cX6_load 21 = .ok (.iconst (-1), 1) := by decide +kernel
theorem dX6_load_22 : decode cX6_load 22 = .ok (.ireturn, 1) := by decide +kernel
theorem dX6_load_23 : decode cX6_load 23 = .ok (.iload_n 2, 1) := by decide +kernel
theorem dX6_load_24 : decode cX6_load 24 = .ok (.iconst 4, 1) := by decide +kernel
theorem dX6_load_25 : decode cX6_load 25 = .ok (.if_icmp .ge 15, 3) := by decide +kernel
theorem dX6_load_28 : decode cX6_load 28 = .ok (.aload_n 0, 1) := by decide +kernel
theorem dX6_load_29 : decode cX6_load 29 = .ok (.getfield 26, 3) := by decide +kernel
theorem dX6_load_32 : decode cX6_load 32 = .ok (.getfield 217, 3) := by decide +kernel
theorem dX6_load_35 : decode cX6_load 35 = .ok (.iload_n 2, 1) := by decide +kernel
theorem dX6_load_36 : decode cX6_load 36 = .ok (.aaload, 1) := by decide +kernel
theorem dX6_load_37 : decode cX6_load 37 = .ok (.iload_n 1, 1) := by decide +kernel
theorem dX6_load_38 : decode cX6_load 38 = .ok (.iaload, 1) := by decide +kernel
theorem dX6_load_39 : decode cX6_load 39 = .ok (.ireturn, 1) := by decide +kernel
theorem dX6_load_40 : decode cX6_load 40 = .ok (.iload_n 2, 1) := by decide +kernel
theorem dX6_load_41 : decode cX6_load 41 = .ok (.bipush 8, 2) := by decide +kernel
theorem dX6_load_43 : decode cX6_load 43 = .ok (.if_icmp .ge 28, 3) := by decide +kernel
theorem dX6_load_46 : decode cX6_load 46 = .ok (.aload_n 0, 1) := by decide +kernel
theorem dX6_load_47 : decode cX6_load 47 = .ok (.getfield 26, 3) := by decide +kernel
theorem dX6_load_50 : decode cX6_load 50 = .ok (.getfield 220, 3) := by decide +kernel
theorem dX6_load_53 : decode cX6_load 53 = .ok (.iload_n 1, 1) := by decide +kernel
theorem dX6_load_54 : decode cX6_load 54 = .ok (.laload, 1) := by decide +kernel
theorem dX6_load_55 : decode cX6_load 55 = .ok (.aload_n 0, 1) := by decide +kernel
theorem dX6_load_56 : decode cX6_load 56 = .ok (.getfield 19, 3) := by decide +kernel
theorem dX6_load_59 : decode cX6_load 59 = .ok (.getfield 224, 3) := by decide +kernel
theorem dX6_load_62 : decode cX6_load 62 = .ok (.iload_n 2, 1) := by decide +kernel
theorem dX6_load_63 : decode cX6_load 63 = .ok (.iconst 4, 1) := by decide +kernel
theorem dX6_load_64 : decode cX6_load 64 = .ok (.isub, 1) := by decide +kernel
theorem dX6_load_65 : decode cX6_load 65 = .ok (.laload, 1) := by decide +kernel
theorem dX6_load_66 : decode cX6_load 66 = .ok (.land, 1) := by decide +kernel
theorem dX6_load_67 : decode cX6_load 67 = .ok (.invokestatic 208, 3) := by decide +kernel
theorem dX6_load_70 : decode cX6_load 70 = .ok (.ireturn, 1) := by decide +kernel
theorem dX6_load_71 : decode cX6_load 71 = .ok (.aload_n 0, 1) := by decide +kernel
theorem dX6_load_72 : decode cX6_load 72 = .ok (.getfield 26, 3) := by decide +kernel
theorem dX6_load_75 : decode cX6_load 75 = .ok (.getfield 220, 3) := by decide +kernel
theorem dX6_load_78 : decode cX6_load 78 = .ok (.iload_n 1, 1) := by decide +kernel
theorem dX6_load_79 : decode cX6_load 79 = .ok (.laload, 1) := by decide +kernel
theorem dX6_load_80 : decode cX6_load 80 = .ok (.invokestatic 208, 3) := by decide +kernel
theorem dX6_load_83 : decode cX6_load 83 = .ok (.ireturn, 1) := by decide +kernel
theorem dX6_plan_0 : decode cX6_plan 0 = .ok (.lconst 0, 1) := by decide +kernel
theorem dX6_plan_1 : decode cX6_plan 1 = .ok (.lstore_n 1, 1) := by decide +kernel
theorem dX6_plan_2 : decode cX6_plan 2 = .ok (.iconst 0, 1) := by decide +kernel
theorem dX6_plan_3 : decode cX6_plan 3 = .ok (.istore_n 3, 1) := by decide +kernel
theorem dX6_plan_4 : decode cX6_plan 4 = .ok (.iconst 0, 1) := by decide +kernel
theorem dX6_plan_5 : decode cX6_plan 5 = .ok (.istore 4, 2) := by decide +kernel
theorem dX6_plan_7 : decode cX6_plan 7 = .ok (.iload 4, 2) := by decide +kernel
theorem dX6_plan_9 : decode cX6_plan 9 = .ok (.aload_n 0, 1) := by decide +kernel
theorem dX6_plan_10 : decode cX6_plan 10 = .ok (.getfield 19, 3) := by decide +kernel
theorem dX6_plan_13 : decode cX6_plan 13 = .ok (.getfield 95, 3) := by decide +kernel
theorem dX6_plan_16 : decode cX6_plan 16 = .ok (.if_icmp .ge 72, 3) := by decide +kernel
theorem dX6_plan_19 : decode cX6_plan 19 = .ok (.aload_n 0, 1) := by decide +kernel
theorem dX6_plan_20 : decode cX6_plan 20 = .ok (.getfield 19, 3) := by decide +kernel
theorem dX6_plan_23 : decode cX6_plan 23 = .ok (.lload_n 1, 1) := by decide +kernel
theorem dX6_plan_24 : decode cX6_plan 24 = .ok (.invokevirtual 227, 3) := by decide +kernel
theorem dX6_plan_27 : decode cX6_plan 27 = .ok (.astore 5, 2) := by decide +kernel
theorem dX6_plan_29 : decode cX6_plan 29 = .ok (.aload 5, 2) := by decide +kernel
theorem dX6_plan_31 : decode cX6_plan 31 = .ok (.ifnonnull 5, 3) := by decide +kernel
theorem dX6_plan_34 : decode cX6_plan 34 = .ok (.iload_n 3, 1) := by decide +kernel
theorem dX6_plan_35 : decode cX6_plan 35 = .ok (.ireturn, 1) := by decide +kernel
theorem dX6_plan_36 : decode cX6_plan 36 = .ok (.lload_n 1, 1) := by decide +kernel
theorem dX6_plan_37 : decode cX6_plan 37 = .ok (.aload 5, 2) := by decide +kernel
theorem dX6_plan_39 : decode cX6_plan 39 = .ok (.getfield 135, 3) := by decide +kernel
theorem dX6_plan_42 : decode cX6_plan 42 = .ok (.lor, 1) := by decide +kernel
theorem dX6_plan_43 : decode cX6_plan 43 = .ok (.lstore_n 1, 1) := by decide +kernel
theorem dX6_plan_44 : decode cX6_plan 44 = .ok (.aload_n 0, 1) := by decide +kernel
theorem dX6_plan_45 : decode cX6_plan 45 = .ok (.getfield 35, 3) := by decide +kernel
theorem dX6_plan_48 : decode cX6_plan 48 = .ok (.aload 5, 2) := by decide +kernel
theorem dX6_plan_50 : decode cX6_plan 50 = .ok (.aload_n 0, 1) := by decide +kernel
theorem dX6_plan_51 : decode cX6_plan 51 = .ok (.getfield 26, 3) := by decide +kernel
theorem dX6_plan_54 : decode cX6_plan 54 = .ok (.getfield 138, 3) := by decide +kernel
theorem dX6_plan_57 : decode cX6_plan 57 = .ok (.invokevirtual 162, 3) := by decide +kernel
theorem dX6_plan_60 : decode cX6_plan 60 = .ok (.istore 6, 2) := by decide +kernel
theorem dX6_plan_62 : decode cX6_plan 62 = .ok (.iload 6, 2) := by decide +kernel
theorem dX6_plan_64 : decode cX6_plan 64 = .ok (.iconst (-1), 1) := by decide +kernel
theorem dX6_plan_65 : decode cX6_plan 65 = .ok (.if_icmp .eq 17, 3) := by decide +kernel
theorem dX6_plan_68 : decode cX6_plan 68 = .ok (.aload_n 0, 1) := by decide +kernel
theorem dX6_plan_69 : decode cX6_plan 69 = .ok (.getfield 26, 3) := by decide +kernel
theorem dX6_plan_72 : decode cX6_plan 72 = .ok (.aload 5, 2) := by decide +kernel
theorem dX6_plan_74 : decode cX6_plan 74 = .ok (.iload 6, 2) := by decide +kernel
theorem dX6_plan_76 : decode cX6_plan 76 = .ok (.invokevirtual 150, 3) := by decide +kernel
theorem dX6_plan_79 : decode cX6_plan 79 = .ok (.iinc 3 1, 3) := by decide +kernel
theorem dX6_plan_82 : decode cX6_plan 82 = .ok (.iinc 4 1, 3) := by decide +kernel
theorem dX6_plan_85 : decode cX6_plan 85 = .ok (.goto (-78), 3) := by decide +kernel
