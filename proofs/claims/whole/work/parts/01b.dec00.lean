theorem dX0_init_0 : decode cX0_init 0 = .ok (.aload_n 0, 1) := by decide +kernel
theorem dX0_init_1 : decode cX0_init 1 = .ok (.invokespecial 3, 3) := by decide +kernel
theorem dX0_init_4 : decode cX0_init 4 = .ok (.aload_n 0, 1) := by decide +kernel
theorem dX0_init_5 : decode cX0_init 5 = .ok (.sipush 400, 3) := by decide +kernel
theorem dX0_init_8 : decode cX0_init 8 = .ok (.newarray .long, 2) := by decide +kernel
theorem dX0_init_10 : decode cX0_init 10 = .ok (.putfield 9, 3) := by decide +kernel
theorem dX0_init_13 : decode cX0_init 13 = .ok (.aload_n 0, 1) := by decide +kernel
theorem dX0_init_14 : decode cX0_init 14 = .ok (.iconst 4, 1) := by decide +kernel
theorem dX0_init_15 : decode cX0_init 15 = .ok (.sipush 400, 3) := by decide +kernel
theorem dX0_init_18 : decode cX0_init 18 = .ok (.multianewarray 15 2, 4) := by decide +kernel
theorem dX0_init_22 : decode cX0_init 22 = .ok (.putfield 17, 3) := by decide +kernel
theorem dX0_init_25 : decode cX0_init 25 = .ok (.return_, 1) := by decide +kernel
theorem dX0_lay_0 : decode cX0_lay 0 = .ok (.aload_n 1, 1) := by decide +kernel
theorem dX0_lay_1 : decode cX0_lay 1 = .ok (.iload_n 2, 1) := by decide +kernel
theorem dX0_lay_2 : decode cX0_lay 2 = .ok (.putfield 20, 3) := by decide +kernel
theorem dX0_lay_5 : decode cX0_lay 5 = .ok (.aload_n 0, 1) := by decide +kernel
theorem dX0_lay_6 : decode cX0_lay 6 = .ok (.getfield 17, 3) := by decide +kernel
theorem dX0_lay_9 : decode cX0_lay 9 = .ok (.aload_n 1, 1) := by decide +kernel
theorem dX0_lay_10 : decode cX0_lay 10 = .ok (.getfield 26, 3) := by decide +kernel
theorem dX0_lay_13 : decode cX0_lay 13 = .ok (.aaload, 1) := by decide +kernel
theorem dX0_lay_14 : decode cX0_lay 14 = .ok (.astore_n 3, 1) := by decide +kernel
theorem dX0_lay_15 : decode cX0_lay 15 = .ok (.iload_n 2, 1) := by decide +kernel
theorem dX0_lay_16 : decode cX0_lay 16 = .ok (.istore 4, 2) := by decide +kernel
theorem dX0_lay_18 : decode cX0_lay 18 = .ok (.iload 4, 2) := by decide +kernel
theorem dX0_lay_20 : decode cX0_lay 20 = .ok (.aload_n 1, 1) := by decide +kernel
theorem dX0_lay_21 : decode cX0_lay 21 = .ok (.invokevirtual 29, 3) := by decide +kernel
theorem dX0_lay_24 : decode cX0_lay 24 = .ok (.if_icmp .ge 34, 3) := by decide +kernel
theorem dX0_lay_27 : decode cX0_lay 27 = .ok (.aload_n 0, 1) := by decide +kernel
theorem dX0_lay_28 : decode cX0_lay 28 = .ok (.getfield 9, 3) := by decide +kernel
theorem dX0_lay_31 : decode cX0_lay 31 = .ok (.iload 4, 2) := by decide +kernel
theorem dX0_lay_33 : decode cX0_lay 33 = .ok (.dup2, 1) := by decide +kernel
theorem dX0_lay_34 : decode cX0_lay 34 = .ok (.laload, 1) := by decide +kernel
theorem dX0_lay_35 : decode cX0_lay 35 = .ok (.aload_n 1, 1) := by decide +kernel
theorem dX0_lay_36 : decode cX0_lay 36 = .ok (.getfield 33, 3) := by decide +kernel
theorem dX0_lay_39 : decode cX0_lay 39 = .ok (.lor, 1) := by decide +kernel
theorem dX0_lay_40 : decode cX0_lay 40 = .ok (.lastore, 1) := by decide +kernel
theorem dX0_lay_41 : decode cX0_lay 41 = .ok (.aload_n 3, 1) := by decide +kernel
theorem dX0_lay_42 : decode cX0_lay 42 = .ok (.iload 4, 2) := by decide +kernel
theorem dX0_lay_44 : decode cX0_lay 44 = .ok (.dup2, 1) := by decide +kernel
theorem dX0_lay_45 : decode cX0_lay 45 = .ok (.iaload, 1) := by decide +kernel
theorem dX0_lay_46 : decode cX0_lay 46 = .ok (.aload_n 1, 1) := by decide +kernel
theorem dX0_lay_47 : decode cX0_lay 47 = .ok (.getfield 37, 3) := by decide +kernel
theorem dX0_lay_50 : decode cX0_lay 50 = .ok (.iadd, 1) := by decide +kernel
theorem dX0_lay_51 : decode cX0_lay 51 = .ok (.iastore, 1) := by decide +kernel
theorem dX0_lay_52 : decode cX0_lay 52 = .ok (.iinc 4 1, 3) := by decide +kernel
theorem dX0_lay_55 : decode cX0_lay 55 = .ok (.goto (-37), 3) := by decide +kernel
theorem dX0_lay_58 : decode cX0_lay 58 = .ok (.return_, 1) := by decide +kernel
theorem dX0_lift_0 : decode cX0_lift 0 = .ok (.aload_n 1, 1) := by decide +kernel
theorem dX0_lift_1 : decode cX0_lift 1 = .ok (.invokevirtual 39, 3) := by decide +kernel
theorem dX0_lift_4 : decode cX0_lift 4 = .ok (.ifCond .eq 4, 3) := by decide +kernel
theorem dX0_lift_7 : decode cX0_lift 7 = .ok (.return_, 1) := by decide +kernel
theorem dX0_lift_8 : decode cX0_lift 8 = .ok (.aload_n 0, 1) := by decide +kernel
theorem dX0_lift_9 : decode cX0_lift 9 = .ok (.getfield 17, 3) := by decide +kernel
theorem dX0_lift_12 : decode cX0_lift 12 = .ok (.aload_n 1, 1) := by decide +kernel
theorem dX0_lift_13 : decode cX0_lift 13 = .ok (.getfield 26, 3) := by decide +kernel
theorem dX0_lift_16 : decode cX0_lift 16 = .ok (.aaload, 1) := by decide +kernel
theorem dX0_lift_17 : decode cX0_lift 17 = .ok (.astore_n 2, 1) := by decide +kernel
theorem dX0_lift_18 : decode cX0_lift 18 = .ok (.aload_n 1, 1) := by decide +kernel
theorem dX0_lift_19 : decode cX0_lift 19 = .ok (.getfield 20, 3) := by decide +kernel
theorem dX0_lift_22 : decode cX0_lift 22 = .ok (.istore_n 3, 1) := by decide +kernel
theorem dX0_lift_23 : decode cX0_lift 23 = .ok (.iload_n 3, 1) := by decide +kernel
theorem dX0_lift_24 : decode cX0_lift 24 = .ok (.aload_n 1, 1) := by decide +kernel
theorem dX0_lift_25 : decode cX0_lift 25 = .ok (.invokevirtual 29, 3) := by decide +kernel
theorem dX0_lift_28 : decode cX0_lift 28 = .ok (.if_icmp .ge 36, 3) := by decide +kernel
theorem dX0_lift_31 : decode cX0_lift 31 = .ok (.aload_n 0, 1) := by decide +kernel
theorem dX0_lift_32 : decode cX0_lift 32 = .ok (.getfield 9, 3) := by decide +kernel
theorem dX0_lift_35 : decode cX0_lift 35 = .ok (.iload_n 3, 1) := by decide +kernel
theorem dX0_lift_36 : decode cX0_lift 36 = .ok (.dup2, 1) := by decide +kernel
theorem dX0_lift_37 : decode cX0_lift 37 = .ok (.laload, 1) := by decide +kernel
theorem dX0_lift_38 : decode cX0_lift 38 = .ok (.aload_n 1, 1) := by decide +kernel
theorem dX0_lift_39 : decode cX0_lift 39 = .ok (.getfield 33, 3) := by decide +kernel
theorem dX0_lift_42 : decode cX0_lift 42 = .ok (.ldc2_w 43, 3) := by decide +kernel
theorem dX0_lift_45 : decode cX0_lift 45 = .ok (.lxor, 1) := by decide +kernel
theorem dX0_lift_46 : decode cX0_lift 46 = .ok (.land, 1) := by decide +kernel
theorem dX0_lift_47 : decode cX0_lift 47 = .ok (.lastore, 1) := by decide +kernel
theorem dX0_lift_48 : decode cX0_lift 48 = .ok (.aload_n 2, 1) := by decide +kernel
theorem dX0_lift_49 : decode cX0_lift 49 = .ok (.iload_n 3, 1) := by decide +kernel
theorem dX0_lift_50 : decode cX0_lift 50 = .ok (.dup2, 1) := by decide +kernel
theorem dX0_lift_51 : decode cX0_lift 51 = .ok (.iaload, 1) := by decide +kernel
theorem dX0_lift_52 : decode cX0_lift 52 = .ok (.aload_n 1, 1) := by decide +kernel
theorem dX0_lift_53 : decode cX0_lift 53 = .ok (.getfield 37, 3) := by decide +kernel
theorem dX0_lift_56 : decode cX0_lift 56 = .ok (.isub, 1) := by decide +kernel
theorem dX0_lift_57 : decode cX0_lift 57 = .ok (.iastore, 1) := by decide +kernel
theorem dX0_lift_58 : decode cX0_lift 58 = .ok (.iinc 3 1, 3) := by decide +kernel
theorem dX0_lift_61 : decode cX0_lift 61 = .ok (.goto (-38), 3) := by decide +kernel
theorem dX0_lift_64 : decode cX0_lift 64 = .ok (.aload_n 1, 1) := by decide +kernel
theorem dX0_lift_65 : decode cX0_lift 65 = .ok (.iconst (-1), 1) := by decide +kernel
theorem dX0_lift_66 : decode cX0_lift 66 = .ok (.putfield 20, 3) := by decide +kernel
theorem dX0_lift_69 : decode cX0_lift 69 = .ok (.return_, 1) := by decide +kernel
theorem dX0_lengthen_0 : decode cX0_lengthen 0 = .ok (.aload_n 1, 1) := by decide +kernel
theorem dX0_lengthen_1 : decode cX0_lengthen 1 = .ok (.getfield 20, 3) := by decide +kernel
theorem dX0_lengthen_4 : decode cX0_lengthen 4 = .ok (.istore_n 3, 1) := by decide +kernel
theorem dX0_lengthen_5 : decode cX0_lengthen 5 = .ok (.aload_n 0, 1) := by decide +kernel
theorem dX0_lengthen_6 : decode cX0_lengthen 6 = .ok (.aload_n 1, 1) := by decide +kernel
theorem dX0_lengthen_7 : decode cX0_lengthen 7 = .ok (.invokevirtual 45, 3) := by decide +kernel
theorem dX0_lengthen_10 : decode cX0_lengthen 10 = .ok (.aload_n 1, 1) := by decide +kernel
theorem dX0_lengthen_11 : decode cX0_lengthen 11 = .ok (.dup, 1) := by decide +kernel
theorem dX0_lengthen_12 : decode cX0_lengthen 12 = .ok (.getfield 49, 3) := by decide +kernel
theorem dX0_lengthen_15 : decode cX0_lengthen 15 = .ok (.iload_n 2, 1) := by decide +kernel
theorem dX0_lengthen_16 : decode cX0_lengthen 16 = .ok (.iadd, 1) := by decide +kernel
theorem dX0_lengthen_17 : decode cX0_lengthen 17 = .ok (.putfield 49, 3) := by decide +kernel
theorem dX0_lengthen_20 : decode cX0_lengthen 20 = .ok (.iload_n 3, 1) := by decide +kernel
theorem dX0_lengthen_21 : decode cX0_lengthen 21 = .ok (.iconst (-1), 1) := by decide +kernel
theorem dX0_lengthen_22 : decode cX0_lengthen 22 = .ok (.if_icmp .eq 9, 3) := by decide +kernel
theorem dX0_lengthen_25 : decode cX0_lengthen 25 = .ok (.aload_n 0, 1) := by decide +kernel
theorem dX0_lengthen_26 : decode cX0_lengthen 26 = .ok (.aload_n 1, 1) := by decide +kernel
theorem dX0_lengthen_27 : decode cX0_lengthen 27 = .ok (.iload_n 3, 1) := by decide +kernel
theorem dX0_lengthen_28 : decode cX0_lengthen 28 = .ok (.invokevirtual 52, 3) := by decide +kernel
theorem dX0_lengthen_31 : decode cX0_lengthen 31 = .ok (.return_, 1) := by decide +kernel
theorem dX1_init_0 : decode cX1_init 0 = .ok (.aload_n 0, 1) := by decide +kernel
theorem dX1_init_1 : decode cX1_init 1 = .ok (.invokespecial 3, 3) := by decide +kernel
theorem dX1_init_4 : decode cX1_init 4 = .ok (.aload_n 0, 1) := by decide +kernel
theorem dX1_init_5 : decode cX1_init 5 = .ok (.bipush 20, 2) := by decide +kernel
theorem dX1_init_7 : decode cX1_init 7 = .ok (.newarray .int, 2) := by decide +kernel
theorem dX1_init_9 : decode cX1_init 9 = .ok (.putfield 9, 3) := by decide +kernel
theorem dX1_init_12 : decode cX1_init 12 = .ok (.aload_n 0, 1) := by decide +kernel
theorem dX1_init_13 : decode cX1_init 13 = .ok (.bipush 20, 2) := by decide +kernel
theorem dX1_init_15 : decode cX1_init 15 = .ok (.newarray .int, 2) := by decide +kernel
theorem dX1_init_17 : decode cX1_init 17 = .ok (.putfield 15, 3) := by decide +kernel
theorem dX1_init_20 : decode cX1_init 20 = .ok (.aload_n 0, 1) := by decide +kernel
theorem dX1_init_21 : decode cX1_init 21 = .ok (.bipush 15, 2) := by decide +kernel
theorem dX1_init_23 : decode cX1_init 23 = .ok (.newarray .int, 2) := by decide +kernel
theorem dX1_init_25 : decode cX1_init 25 = .ok (.putfield 18, 3) := by decide +kernel
theorem dX1_init_28 : decode cX1_init 28 = .ok (.return_, 1) := by decide +kernel
theorem dX1_addSpace_0 : decode cX1_addSpace 0 = .ok (.aload_n 0, 1) := by decide +kernel
theorem dX1_addSpace_1 : decode cX1_addSpace 1 = .ok (.getfield 9, 3) := by decide +kernel
theorem dX1_addSpace_4 : decode cX1_addSpace 4 = .ok (.aload_n 0, 1) := by decide +kernel
theorem dX1_addSpace_5 : decode cX1_addSpace 5 = .ok (.getfield 21, 3) := by decide +kernel
theorem dX1_addSpace_8 : decode cX1_addSpace 8 = .ok (.iload_n 1, 1) := by decide +kernel
theorem dX1_addSpace_9 : decode cX1_addSpace 9 = .ok (.iastore, 1) := by decide +kernel
theorem dX1_addSpace_10 : decode cX1_addSpace 10 = .ok (.aload_n 0, 1) := by decide +kernel
theorem dX1_addSpace_11 : decode cX1_addSpace 11 = .ok (.dup, 1) := by decide +kernel
theorem dX1_addSpace_12 : decode cX1_addSpace 12 = .ok (.getfield 21, 3) := by decide +kernel
theorem dX1_addSpace_15 : decode cX1_addSpace 15 = .ok (.iconst 1, 1) := by decide +kernel
theorem dX1_addSpace_16 : decode cX1_addSpace 16 = .ok (.iadd, 1) := by decide +kernel
theorem dX1_addSpace_17 : decode cX1_addSpace 17 = .ok (.putfield 21, 3) := by decide +kernel
theorem dX1_addSpace_20 : decode cX1_addSpace 20 = .ok (.aload_n 0, 1) := by decide +kernel
theorem dX1_addSpace_21 : decode cX1_addSpace 21 = .ok (.getfield 21, 3) := by decide +kernel
theorem dX1_addSpace_24 : decode cX1_addSpace 24 = .ok (.iconst 1, 1) := by decide +kernel
theorem dX1_addSpace_25 : decode cX1_addSpace 25 = .ok (.isub, 1) := by decide +kernel
theorem dX1_addSpace_26 : decode cX1_addSpace 26 = .ok (.ireturn, 1) := by decide +kernel
theorem dX1_hasSpace_0 : decode cX1_hasSpace 0 = .ok (.iload_n 1, 1) := by decide +kernel
theorem dX1_hasSpace_1 : decode cX1_hasSpace 1 = .ok (.ifCond .lt 15, 3) := by decide +kernel
theorem dX1_hasSpace_4 : decode cX1_hasSpace 4 = .ok (.iload_n 1, 1) := by decide +kernel
theorem dX1_hasSpace_5 : decode cX1_hasSpace 5 = .ok (.aload_n 0, 1) := by decide +kernel
theorem dX1_hasSpace_6 : decode cX1_hasSpace 6 = .ok (.getfield 21, 3) := by decide +kernel
theorem dX1_hasSpace_9 : decode cX1_hasSpace 9 = .ok (.if_icmp .ge 7, 3) := by decide +kernel
theorem dX1_hasSpace_12 : decode cX1_hasSpace 12 = .ok (.iconst 1, 1) := by decide +kernel
theorem dX1_hasSpace_13 : decode cX1_hasSpace 13 = .ok (.goto 4, 3) := by decide +kernel
theorem dX1_hasSpace_16 : decode cX1_hasSpace 16 = .ok (.iconst 0, 1) := by decide +kernel
theorem dX1_hasSpace_17 : decode cX1_hasSpace 17 = .ok (.ireturn, 1) := by decide +kernel
theorem dX1_areNear_0 : decode cX1_areNear 0 = .ok (.aload_n 0, 1) := by decide +kernel
theorem dX1_areNear_1 : decode cX1_areNear 1 = .ok (.getfield 15, 3) := by decide +kernel
theorem dX1_areNear_4 : decode cX1_areNear 4 = .ok (.iload_n 1, 1) := by decide +kernel
theorem dX1_areNear_5 : decode cX1_areNear 5 = .ok (.iaload, 1) := by decide +kernel
theorem dX1_areNear_6 : decode cX1_areNear 6 = .ok (.iconst 1, 1) := by decide +kernel
theorem dX1_areNear_7 : decode cX1_areNear 7 = .ok (.iload_n 2, 1) := by decide +kernel
theorem dX1_areNear_8 : decode cX1_areNear 8 = .ok (.ishl, 1) := by decide +kernel
theorem dX1_areNear_9 : decode cX1_areNear 9 = .ok (.iand, 1) := by decide +kernel
theorem dX1_areNear_10 : decode cX1_areNear 10 = .ok (.ifCond .eq 7, 3) := by decide +kernel
theorem dX1_areNear_13 : decode cX1_areNear 13 = .ok (.iconst 1, 1) := by decide +kernel
theorem dX1_areNear_14 : decode cX1_areNear 14 = .ok (.goto 4, 3) := by decide +kernel
theorem dX1_areNear_17 : decode cX1_areNear 17 = .ok (.iconst 0, 1) := by decide +kernel
theorem dX1_areNear_18 : decode cX1_areNear 18 = .ok (.ireturn, 1) := by decide +kernel
theorem dX1_join_0 : decode cX1_join 0 = .ok (.aload_n 0, 1) := by decide +kernel
theorem dX1_join_1 : decode cX1_join 1 = .ok (.getfield 15, 3) := by decide +kernel
theorem dX1_join_4 : decode cX1_join 4 = .ok (.iload_n 1, 1) := by decide +kernel
theorem dX1_join_5 : decode cX1_join 5 = .ok (.dup2, 1) := by decide +kernel
theorem dX1_join_6 : decode cX1_join 6 = .ok (.iaload, 1) := by decide +kernel
theorem dX1_join_7 : decode cX1_join 7 = .ok (.iconst 1, 1) := by decide +kernel
theorem dX1_join_8 : decode cX1_join 8 = .ok (.iload_n 2, 1) := by decide +kernel
theorem dX1_join_9 : decode cX1_join 9 = .ok (.ishl, 1) := by decide +kernel
theorem dX1_join_10 : decode cX1_join 10 = .ok (.ior, 1) := by decide +kernel
theorem dX1_join_11 : decode cX1_join 11 = .ok (.iastore, 1) := by decide +kernel
theorem dX1_join_12 : decode cX1_join 12 = .ok (.aload_n 0, 1) := by decide +kernel
theorem dX1_join_13 : decode cX1_join 13 = .ok (.getfield 15, 3) := by decide +kernel
theorem dX1_join_16 : decode cX1_join 16 = .ok (.iload_n 2, 1) := by decide +kernel
theorem dX1_join_17 : decode cX1_join 17 = .ok (.dup2, 1) := by decide +kernel
theorem dX1_join_18 : decode cX1_join 18 = .ok (.iaload, 1) := by decide +kernel
theorem dX1_join_19 : decode cX1_join 19 = .ok (.iconst 1, 1) := by decide +kernel
theorem dX1_join_20 : decode cX1_join 20 = .ok (.iload_n 1, 1) := by decide +kernel
theorem dX1_join_21 : decode cX1_join 21 = .ok (.ishl, 1) := by decide +kernel
theorem dX1_join_22 : decode cX1_join 22 = .ok (.ior, 1) := by decide +kernel
theorem dX1_join_23 : decode cX1_join 23 = .ok (.iastore, 1) := by decide +kernel
theorem dX1_join_24 : decode cX1_join 24 = .ok (.return_, 1) := by decide +kernel
theorem dX1_isBarred_0 : decode cX1_isBarred 0 = .ok (.aload_n 0, 1) := by decide +kernel
theorem dX1_isBarred_1 : decode cX1_isBarred 1 = .ok (.getfield 18, 3) := by decide +kernel
theorem dX1_isBarred_4 : decode cX1_isBarred 4 = .ok (.iload_n 3, 1) := by decide +kernel
theorem dX1_isBarred_5 : decode cX1_isBarred 5 = .ok (.iconst 5, 1) := by decide +kernel
theorem dX1_isBarred_6 : decode cX1_isBarred 6 = .ok (.imul, 1) := by decide +kernel
theorem dX1_isBarred_7 : decode cX1_isBarred 7 = .ok (.iload_n 1, 1) := by decide +kernel
theorem dX1_isBarred_8 : decode cX1_isBarred 8 = .ok (.iadd, 1) := by decide +kernel
theorem dX1_isBarred_9 : decode cX1_isBarred 9 = .ok (.iaload, 1) := by decide +kernel
theorem dX1_isBarred_10 : decode cX1_isBarred 10 = .ok (.iconst 1, 1) := by decide +kernel
theorem dX1_isBarred_11 : decode cX1_isBarred 11 = .ok (.iload_n 2, 1) := by decide +kernel
theorem dX1_isBarred_12 : decode cX1_isBarred 12 = .ok (.ishl, 1) := by decide +kernel
theorem dX1_isBarred_13 : decode cX1_isBarred 13 = .ok (.iand, 1) := by decide +kernel
theorem dX1_isBarred_14 : decode cX1_isBarred 14 = .ok (.ifCond .eq 7, 3) := by decide +kernel
theorem dX1_isBarred_17 : decode cX1_isBarred 17 = .ok (.iconst 1, 1) := by decide +kernel
theorem dX1_isBarred_18 : decode cX1_isBarred 18 = .ok (.goto 4, 3) := by decide +kernel
theorem dX1_isBarred_21 : decode cX1_isBarred 21 = .ok (.iconst 0, 1) := by decide +kernel
theorem dX1_isBarred_22 : decode cX1_isBarred 22 = .ok (.ireturn, 1) := by decide +kernel
theorem dX1_forbid_0 : decode cX1_forbid 0 = .ok (.aload_n 0, 1) := by decide +kernel
theorem dX1_forbid_1 : decode cX1_forbid 1 = .ok (.getfield 18, 3) := by decide +kernel
theorem dX1_forbid_4 : decode cX1_forbid 4 = .ok (.iload_n 3, 1) := by decide +kernel
theorem dX1_forbid_5 : decode cX1_forbid 5 = .ok (.iconst 5, 1) := by decide +kernel
theorem dX1_forbid_6 : decode cX1_forbid 6 = .ok (.imul, 1) := by decide +kernel
theorem dX1_forbid_7 : decode cX1_forbid 7 = .ok (.iload_n 1, 1) := by decide +kernel
theorem dX1_forbid_8 : decode cX1_forbid 8 = .ok (.iadd, 1) := by decide +kernel
theorem dX1_forbid_9 : decode cX1_forbid 9 = .ok (.dup2, 1) := by decide +kernel
theorem dX1_forbid_10 : decode cX1_forbid 10 = .ok (.iaload, 1) := by decide +kernel
theorem dX1_forbid_11 : decode cX1_forbid 11 = .ok (.iconst 1, 1) := by decide +kernel
theorem dX1_forbid_12 : decode cX1_forbid 12 = .ok (.iload_n 2, 1) := by decide +kernel
theorem dX1_forbid_13 : decode cX1_forbid 13 = .ok (.ishl, 1) := by decide +kernel
theorem dX1_forbid_14 : decode cX1_forbid 14 = .ok (.ior, 1) := by decide +kernel
theorem dX1_forbid_15 : decode cX1_forbid 15 = .ok (.iastore, 1) := by decide +kernel
theorem dX1_forbid_16 : decode cX1_forbid 16 = .ok (.aload_n 0, 1) := by decide +kernel
theorem dX1_forbid_17 : decode cX1_forbid 17 = .ok (.getfield 18, 3) := by decide +kernel
theorem dX1_forbid_20 : decode cX1_forbid 20 = .ok (.iload_n 3, 1) := by decide +kernel
theorem dX1_forbid_21 : decode cX1_forbid 21 = .ok (.iconst 5, 1) := by decide +kernel
theorem dX1_forbid_22 : decode cX1_forbid 22 = .ok (.imul, 1) := by decide +kernel
theorem dX1_forbid_23 : decode cX1_forbid 23 = .ok (.iload_n 2, 1) := by decide +kernel
theorem dX1_forbid_24 : decode cX1_forbid 24 = .ok (.iadd, 1) := by decide +kernel
theorem dX1_forbid_25 : decode cX1_forbid 25 = .ok (.dup2, 1) := by decide +kernel
theorem dX1_forbid_26 : decode cX1_forbid 26 = .ok (.iaload, 1) := by decide +kernel
theorem dX1_forbid_27 : decode cX1_forbid 27 = .ok (.iconst 1, 1) := by decide +kernel
theorem dX1_forbid_28 : decode cX1_forbid 28 = .ok (.iload_n 1, 1) := by decide +kernel
theorem dX1_forbid_29 : decode cX1_forbid 29 = .ok (.ishl, 1) := by decide +kernel
theorem dX1_forbid_30 : decode cX1_forbid 30 = .ok (.ior, 1) := by decide +kernel
theorem dX1_forbid_31 : decode cX1_forbid 31 = .ok (.iastore, 1) := by decide +kernel
theorem dX1_forbid_32 : decode cX1_forbid 32 = .ok (.aload_n 0, 1) := by decide +kernel
theorem dX1_forbid_33 : decode cX1_forbid 33 = .ok (.dup, 1) := by decide +kernel
theorem dX1_forbid_34 : decode cX1_forbid 34 = .ok (.getfield 25, 3) := by decide +kernel
theorem dX1_forbid_37 : decode cX1_forbid 37 = .ok (.iconst 1, 1) := by decide +kernel
theorem dX1_forbid_38 : decode cX1_forbid 38 = .ok (.iadd, 1) := by decide +kernel
theorem dX1_forbid_39 : decode cX1_forbid 39 = .ok (.putfield 25, 3) := by decide +kernel
theorem dX1_forbid_42 : decode cX1_forbid 42 = .ok (.return_, 1) := by decide +kernel
theorem dX1_keepsApart_0 : decode cX1_keepsApart 0 = .ok (.aload_n 0, 1) := by decide +kernel
theorem dX1_keepsApart_1 : decode cX1_keepsApart 1 = .ok (.aload_n 1, 1) := by decide +kernel
theorem dX1_keepsApart_2 : decode cX1_keepsApart 2 = .ok (.getfield 28, 3) := by decide +kernel
theorem dX1_keepsApart_5 : decode cX1_keepsApart 5 = .ok (.aload_n 2, 1) := by decide +kernel
theorem dX1_keepsApart_6 : decode cX1_keepsApart 6 = .ok (.getfield 28, 3) := by decide +kernel
theorem dX1_keepsApart_9 : decode cX1_keepsApart 9 = .ok (.iconst 2, 1) := by decide +kernel
theorem dX1_keepsApart_10 : decode cX1_keepsApart 10 = .ok (.invokevirtual 33, 3) := by decide +kernel
theorem dX1_keepsApart_13 : decode cX1_keepsApart 13 = .ok (.ifCond .eq 5, 3) := by decide +kernel
theorem dX1_keepsApart_16 : decode cX1_keepsApart 16 = .ok (.iconst 1, 1) := by decide +kernel
theorem dX1_keepsApart_17 : decode cX1_keepsApart 17 = .ok (.ireturn, 1) := by decide +kernel
theorem dX1_keepsApart_18 : decode cX1_keepsApart 18 = .ok (.aload_n 1, 1) := by decide +kernel
theorem dX1_keepsApart_19 : decode cX1_keepsApart 19 = .ok (.getfield 37, 3) := by decide +kernel
theorem dX1_keepsApart_22 : decode cX1_keepsApart 22 = .ok (.aload_n 2, 1) := by decide +kernel
theorem dX1_keepsApart_23 : decode cX1_keepsApart 23 = .ok (.getfield 37, 3) := by decide +kernel
theorem dX1_keepsApart_26 : decode cX1_keepsApart 26 = .ok (.if_icmp .ne 41, 3) := by decide +kernel
theorem dX1_keepsApart_29 : decode cX1_keepsApart 29 = .ok (.aload_n 0, 1) := by decide +kernel
theorem dX1_keepsApart_30 : decode cX1_keepsApart 30 = .ok (.aload_n 1, 1) := by decide +kernel
theorem dX1_keepsApart_31 : decode cX1_keepsApart 31 = .ok (.getfield 28, 3) := by decide +kernel
theorem dX1_keepsApart_34 : decode cX1_keepsApart 34 = .ok (.aload_n 2, 1) := by decide +kernel
theorem dX1_keepsApart_35 : decode cX1_keepsApart 35 = .ok (.getfield 28, 3) := by decide +kernel
theorem dX1_keepsApart_38 : decode cX1_keepsApart 38 = .ok (.iconst 0, 1) := by decide +kernel
theorem dX1_keepsApart_39 : decode cX1_keepsApart 39 = .ok (.invokevirtual 33, 3) := by decide +kernel
theorem dX1_keepsApart_42 : decode cX1_keepsApart 42 = .ok (.ifCond .ne 19, 3) := by decide +kernel
theorem dX1_keepsApart_45 : decode cX1_keepsApart 45 = .ok (.aload_n 0, 1) := by decide +kernel
theorem dX1_keepsApart_46 : decode cX1_keepsApart 46 = .ok (.aload_n 1, 1) := by decide +kernel
theorem dX1_keepsApart_47 : decode cX1_keepsApart 47 = .ok (.getfield 28, 3) := by decide +kernel
theorem dX1_keepsApart_50 : decode cX1_keepsApart 50 = .ok (.aload_n 2, 1) := by decide +kernel
theorem dX1_keepsApart_51 : decode cX1_keepsApart 51 = .ok (.getfield 28, 3) := by decide +kernel
theorem dX1_keepsApart_54 : decode cX1_keepsApart 54 = .ok (.iconst 1, 1) := by decide +kernel
theorem dX1_keepsApart_55 : decode cX1_keepsApart 55 = .ok (.invokevirtual 33, 3) := by decide +kernel
theorem dX1_keepsApart_58 : decode cX1_keepsApart 58 = .ok (.ifCond .eq 7, 3) := by decide +kernel
theorem dX1_keepsApart_61 : decode cX1_keepsApart 61 = .ok (.iconst 1, 1) := by decide +kernel
theorem dX1_keepsApart_62 : decode cX1_keepsApart 62 = .ok (.goto 4, 3) := by decide +kernel
theorem dX1_keepsApart_65 : decode cX1_keepsApart 65 = .ok (.iconst 0, 1) := by decide +kernel
theorem dX1_keepsApart_66 : decode cX1_keepsApart 66 = .ok (.ireturn, 1) := by decide +kernel
theorem dX1_keepsApart_67 : decode cX1_keepsApart 67 = .ok (.aload_n 0, 1) := by decide +kernel
theorem dX1_keepsApart_68 : decode cX1_keepsApart 68 = .ok (.aload_n 1, 1) := by decide +kernel
theorem dX1_keepsApart_69 : decode cX1_keepsApart 69 = .ok (.getfield 37, 3) := by decide +kernel
theorem dX1_keepsApart_72 : decode cX1_keepsApart 72 = .ok (.aload_n 2, 1) := by decide +kernel
theorem dX1_keepsApart_73 : decode cX1_keepsApart 73 = .ok (.getfield 37, 3) := by decide +kernel
theorem dX1_keepsApart_76 : decode cX1_keepsApart 76 = .ok (.invokevirtual 40, 3) := by decide +kernel
theorem dX1_keepsApart_79 : decode cX1_keepsApart 79 = .ok (.ifCond .eq 23, 3) := by decide +kernel
theorem dX1_keepsApart_82 : decode cX1_keepsApart 82 = .ok (.aload_n 0, 1) := by decide +kernel
theorem dX1_keepsApart_83 : decode cX1_keepsApart 83 = .ok (.aload_n 1, 1) := by decide +kernel
theorem dX1_keepsApart_84 : decode cX1_keepsApart 84 = .ok (.getfield 28, 3) := by decide +kernel
theorem dX1_keepsApart_87 : decode cX1_keepsApart 87 = .ok (.aload_n 2, 1) := by decide +kernel
theorem dX1_keepsApart_88 : decode cX1_keepsApart 88 = .ok (.getfield 28, 3) := by decide +kernel
theorem dX1_keepsApart_91 : decode cX1_keepsApart 91 = .ok (.iconst 1, 1) := by decide +kernel
theorem dX1_keepsApart_92 : decode cX1_keepsApart 92 = .ok (.invokevirtual 33, 3) := by decide +kernel
theorem dX1_keepsApart_95 : decode cX1_keepsApart 95 = .ok (.ifCond .eq 7, 3) := by decide +kernel
theorem dX1_keepsApart_98 : decode cX1_keepsApart 98 = .ok (.iconst 1, 1) := by decide +kernel
theorem dX1_keepsApart_99 : decode cX1_keepsApart 99 = .ok (.goto 4, 3) := by decide +kernel
theorem dX1_keepsApart_102 : decode cX1_keepsApart 102 = .ok (.iconst 0, 1) := by decide +kernel
theorem dX1_keepsApart_103 : decode cX1_keepsApart 103 = .ok (.ireturn, 1) := by decide +kernel
theorem dX2_init_0 : decode cX2_init 0 = .ok (.aload_n 0, 1) := by decide +kernel
theorem dX2_init_1 : decode cX2_init 1 = .ok (.invokespecial 3, 3) := by decide +kernel
theorem dX2_init_4 : decode cX2_init 4 = .ok (.aload_n 0, 1) := by decide +kernel
theorem dX2_init_5 : decode cX2_init 5 = .ok (.bipush 40, 2) := by decide +kernel
theorem dX2_init_7 : decode cX2_init 7 = .ok (.anewarray 9, 3) := by decide +kernel
theorem dX2_init_10 : decode cX2_init 10 = .ok (.putfield 11, 3) := by decide +kernel
theorem dX2_init_13 : decode cX2_init 13 = .ok (.aload_n 0, 1) := by decide +kernel
theorem dX2_init_14 : decode cX2_init 14 = .ok (.bipush 40, 2) := by decide +kernel
theorem dX2_init_16 : decode cX2_init 16 = .ok (.newarray .int, 2) := by decide +kernel
theorem dX2_init_18 : decode cX2_init 18 = .ok (.putfield 17, 3) := by decide +kernel
theorem dX2_init_21 : decode cX2_init 21 = .ok (.aload_n 0, 1) := by decide +kernel
theorem dX2_init_22 : decode cX2_init 22 = .ok (.iconst 4, 1) := by decide +kernel
theorem dX2_init_23 : decode cX2_init 23 = .ok (.newarray .long, 2) := by decide +kernel
theorem dX2_init_25 : decode cX2_init 25 = .ok (.putfield 21, 3) := by decide +kernel
theorem dX2_init_28 : decode cX2_init 28 = .ok (.aload_n 0, 1) := by decide +kernel
theorem dX2_init_29 : decode cX2_init 29 = .ok (.bipush 20, 2) := by decide +kernel
theorem dX2_init_31 : decode cX2_init 31 = .ok (.newarray .long, 2) := by decide +kernel
theorem dX2_init_33 : decode cX2_init 33 = .ok (.putfield 25, 3) := by decide +kernel
theorem dX2_init_36 : decode cX2_init 36 = .ok (.return_, 1) := by decide +kernel
theorem dX2_find_0 : decode cX2_find 0 = .ok (.iload_n 1, 1) := by decide +kernel
theorem dX2_find_1 : decode cX2_find 1 = .ok (.ifCond .lt 20, 3) := by decide +kernel
theorem dX2_find_4 : decode cX2_find 4 = .ok (.iload_n 1, 1) := by decide +kernel
theorem dX2_find_5 : decode cX2_find 5 = .ok (.aload_n 0, 1) := by decide +kernel
theorem dX2_find_6 : decode cX2_find 6 = .ok (.getfield 28, 3) := by decide +kernel
theorem dX2_find_9 : decode cX2_find 9 = .ok (.if_icmp .ge 12, 3) := by decide +kernel
theorem dX2_find_12 : decode cX2_find 12 = .ok (.aload_n 0, 1) := by decide +kernel
theorem dX2_find_13 : decode cX2_find 13 = .ok (.getfield 11, 3) := by decide +kernel
theorem dX2_find_16 : decode cX2_find 16 = .ok (.iload_n 1, 1) := by decide +kernel
theorem dX2_find_17 : decode cX2_find 17 = .ok (.aaload, 1) := by decide +kernel
theorem dX2_find_18 : decode cX2_find 18 = .ok (.goto 4, 3) := by decide +kernel
theorem dX2_find_21 : decode cX2_find 21 = .ok (.aconst_null, 1) := by decide +kernel
theorem dX2_find_22 : decode cX2_find 22 = .ok (.areturn, 1) := by decide +kernel
theorem dX2_addWork_0 : decode cX2_addWork 0 = .ok (.aload_n 0, 1) := by decide +kernel
theorem dX2_addWork_1 : decode cX2_addWork 1 = .ok (.getfield 11, 3) := by decide +kernel
theorem dX2_addWork_4 : decode cX2_addWork 4 = .ok (.aload_n 0, 1) := by decide +kernel
theorem dX2_addWork_5 : decode cX2_addWork 5 = .ok (.getfield 28, 3) := by decide +kernel
theorem dX2_addWork_8 : decode cX2_addWork 8 = .ok (.aload_n 1, 1) := by decide +kernel
theorem dX2_addWork_9 : decode cX2_addWork 9 = .ok (.aastore, 1) := by decide +kernel
theorem dX2_addWork_10 : decode cX2_addWork 10 = .ok (.aload_n 0, 1) := by decide +kernel
theorem dX2_addWork_11 : decode cX2_addWork 11 = .ok (.dup, 1) := by decide +kernel
theorem dX2_addWork_12 : decode cX2_addWork 12 = .ok (.getfield 28, 3) := by decide +kernel
theorem dX2_addWork_15 : decode cX2_addWork 15 = .ok (.iconst 1, 1) := by decide +kernel
theorem dX2_addWork_16 : decode cX2_addWork 16 = .ok (.iadd, 1) := by decide +kernel
theorem dX2_addWork_17 : decode cX2_addWork 17 = .ok (.putfield 28, 3) := by decide +kernel
theorem dX2_addWork_20 : decode cX2_addWork 20 = .ok (.aload_n 0, 1) := by decide +kernel
theorem dX2_addWork_21 : decode cX2_addWork 21 = .ok (.getfield 25, 3) := by decide +kernel
theorem dX2_addWork_24 : decode cX2_addWork 24 = .ok (.aload_n 1, 1) := by decide +kernel
theorem dX2_addWork_25 : decode cX2_addWork 25 = .ok (.getfield 32, 3) := by decide +kernel
theorem dX2_addWork_28 : decode cX2_addWork 28 = .ok (.dup2, 1) := by decide +kernel
theorem dX2_addWork_29 : decode cX2_addWork 29 = .ok (.laload, 1) := by decide +kernel
theorem dX2_addWork_30 : decode cX2_addWork 30 = .ok (.aload_n 1, 1) := by decide +kernel
theorem dX2_addWork_31 : decode cX2_addWork 31 = .ok (.getfield 35, 3) := by decide +kernel
theorem dX2_addWork_34 : decode cX2_addWork 34 = .ok (.lor, 1) := by decide +kernel
theorem dX2_addWork_35 : decode cX2_addWork 35 = .ok (.lastore, 1) := by decide +kernel
theorem dX2_addWork_36 : decode cX2_addWork 36 = .ok (.aload_n 1, 1) := by decide +kernel
theorem dX2_addWork_37 : decode cX2_addWork 37 = .ok (.getfield 39, 3) := by decide +kernel
theorem dX2_addWork_40 : decode cX2_addWork 40 = .ok (.iconst (-1), 1) := by decide +kernel
theorem dX2_addWork_41 : decode cX2_addWork 41 = .ok (.if_icmp .eq 19, 3) := by decide +kernel
theorem dX2_addWork_44 : decode cX2_addWork 44 = .ok (.aload_n 0, 1) := by decide +kernel
theorem dX2_addWork_45 : decode cX2_addWork 45 = .ok (.getfield 21, 3) := by decide +kernel
theorem dX2_addWork_48 : decode cX2_addWork 48 = .ok (.aload_n 1, 1) := by decide +kernel
theorem dX2_addWork_49 : decode cX2_addWork 49 = .ok (.getfield 39, 3) := by decide +kernel
theorem dX2_addWork_52 : decode cX2_addWork 52 = .ok (.dup2, 1) := by decide +kernel
theorem dX2_addWork_53 : decode cX2_addWork 53 = .ok (.laload, 1) := by decide +kernel
theorem dX2_addWork_54 : decode cX2_addWork 54 = .ok (.aload_n 1, 1) := by decide +kernel
theorem dX2_addWork_55 : decode cX2_addWork 55 = .ok (.getfield 35, 3) := by decide +kernel
theorem dX2_addWork_58 : decode cX2_addWork 58 = .ok (.lor, 1) := by decide +kernel
theorem dX2_addWork_59 : decode cX2_addWork 59 = .ok (.lastore, 1) := by decide +kernel
theorem dX2_addWork_60 : decode cX2_addWork 60 = .ok (.aload_n 0, 1) := by decide +kernel
theorem dX2_addWork_61 : decode cX2_addWork 61 = .ok (.invokevirtual 42, 3) := by decide +kernel
theorem dX2_addWork_64 : decode cX2_addWork 64 = .ok (.return_, 1) := by decide +kernel
theorem dX2_link_0 : decode cX2_link 0 = .ok (.aload_n 1, 1) := by decide +kernel
theorem dX2_link_1 : decode cX2_link 1 = .ok (.dup, 1) := by decide +kernel
theorem dX2_link_2 : decode cX2_link 2 = .ok (.getfield 45, 3) := by decide +kernel
theorem dX2_link_5 : decode cX2_link 5 = .ok (.aload_n 2, 1) := by decide +kernel
theorem dX2_link_6 : decode cX2_link 6 = .ok (.getfield 35, 3) := by decide +kernel
theorem dX2_link_9 : decode cX2_link 9 = .ok (.lor, 1) := by decide +kernel
theorem dX2_link_10 : decode cX2_link 10 = .ok (.putfield 45, 3) := by decide +kernel
theorem dX2_link_13 : decode cX2_link 13 = .ok (.aload_n 2, 1) := by decide +kernel
theorem dX2_link_14 : decode cX2_link 14 = .ok (.getfield 48, 3) := by decide +kernel
theorem dX2_link_17 : decode cX2_link 17 = .ok (.aload_n 2, 1) := by decide +kernel
theorem dX2_link_18 : decode cX2_link 18 = .ok (.getfield 35, 3) := by decide +kernel
theorem dX2_link_21 : decode cX2_link 21 = .ok (.lor, 1) := by decide +kernel
theorem dX2_link_22 : decode cX2_link 22 = .ok (.lstore_n 3, 1) := by decide +kernel
theorem dX2_link_23 : decode cX2_link 23 = .ok (.iconst 0, 1) := by decide +kernel
theorem dX2_link_24 : decode cX2_link 24 = .ok (.istore 5, 2) := by decide +kernel
theorem dX2_link_26 : decode cX2_link 26 = .ok (.iload 5, 2) := by decide +kernel
theorem dX2_link_28 : decode cX2_link 28 = .ok (.aload_n 0, 1) := by decide +kernel
theorem dX2_link_29 : decode cX2_link 29 = .ok (.getfield 28, 3) := by decide +kernel
theorem dX2_link_32 : decode cX2_link 32 = .ok (.if_icmp .ge 44, 3) := by decide +kernel
theorem dX2_link_35 : decode cX2_link 35 = .ok (.aload_n 0, 1) := by decide +kernel
theorem dX2_link_36 : decode cX2_link 36 = .ok (.getfield 11, 3) := by decide +kernel
theorem dX2_link_39 : decode cX2_link 39 = .ok (.iload 5, 2) := by decide +kernel
theorem dX2_link_41 : decode cX2_link 41 = .ok (.aaload, 1) := by decide +kernel
theorem dX2_link_42 : decode cX2_link 42 = .ok (.astore 6, 2) := by decide +kernel
theorem dX2_link_44 : decode cX2_link 44 = .ok (.aload 6, 2) := by decide +kernel
theorem dX2_link_46 : decode cX2_link 46 = .ok (.aload_n 1, 1) := by decide +kernel
theorem dX2_link_47 : decode cX2_link 47 = .ok (.if_acmp .eq 12, 3) := by decide +kernel
theorem dX2_link_50 : decode cX2_link 50 = .ok (.aload 6, 2) := by decide +kernel
theorem dX2_link_52 : decode cX2_link 52 = .ok (.aload_n 1, 1) := by decide +kernel
theorem dX2_link_53 : decode cX2_link 53 = .ok (.invokevirtual 51, 3) := by decide +kernel
theorem dX2_link_56 : decode cX2_link 56 = .ok (.ifCond .eq 14, 3) := by decide +kernel
theorem dX2_link_59 : decode cX2_link 59 = .ok (.aload 6, 2) := by decide +kernel
theorem dX2_link_61 : decode cX2_link 61 = .ok (.dup, 1) := by decide +kernel
theorem dX2_link_62 : decode cX2_link 62 = .ok (.getfield 48, 3) := by decide +kernel
theorem dX2_link_65 : decode cX2_link 65 = .ok (.lload_n 3, 1) := by decide +kernel
theorem dX2_link_66 : decode cX2_link 66 = .ok (.lor, 1) := by decide +kernel
theorem dX2_link_67 : decode cX2_link 67 = .ok (.putfield 48, 3) := by decide +kernel
theorem dX2_link_70 : decode cX2_link 70 = .ok (.iinc 5 1, 3) := by decide +kernel
theorem dX2_link_73 : decode cX2_link 73 = .ok (.goto (-47), 3) := by decide +kernel
theorem dX2_link_76 : decode cX2_link 76 = .ok (.aload_n 0, 1) := by decide +kernel
theorem dX2_link_77 : decode cX2_link 77 = .ok (.invokevirtual 42, 3) := by decide +kernel
theorem dX2_link_80 : decode cX2_link 80 = .ok (.return_, 1) := by decide +kernel
theorem dX2_weigh_0 : decode cX2_weigh 0 = .ok (.aload_n 0, 1) := by decide +kernel
theorem dX2_weigh_1 : decode cX2_weigh 1 = .ok (.invokevirtual 55, 3) := by decide +kernel
theorem dX2_weigh_4 : decode cX2_weigh 4 = .ok (.iconst 0, 1) := by decide +kernel
theorem dX2_weigh_5 : decode cX2_weigh 5 = .ok (.istore_n 1, 1) := by decide +kernel
theorem dX2_weigh_6 : decode cX2_weigh 6 = .ok (.iload_n 1, 1) := by decide +kernel
theorem dX2_weigh_7 : decode cX2_weigh 7 = .ok (.aload_n 0, 1) := by decide +kernel
theorem dX2_weigh_8 : decode cX2_weigh 8 = .ok (.getfield 28, 3) := by decide +kernel
theorem dX2_weigh_11 : decode cX2_weigh 11 = .ok (.if_icmp .ge 29, 3) := by decide +kernel
theorem dX2_weigh_14 : decode cX2_weigh 14 = .ok (.aload_n 0, 1) := by decide +kernel
theorem dX2_weigh_15 : decode cX2_weigh 15 = .ok (.getfield 11, 3) := by decide +kernel
theorem dX2_weigh_18 : decode cX2_weigh 18 = .ok (.iload_n 1, 1) := by decide +kernel
theorem dX2_weigh_19 : decode cX2_weigh 19 = .ok (.aaload, 1) := by decide +kernel
theorem dX2_weigh_20 : decode cX2_weigh 20 = .ok (.iconst 0, 1) := by decide +kernel
theorem dX2_weigh_21 : decode cX2_weigh 21 = .ok (.putfield 58, 3) := by decide +kernel
theorem dX2_weigh_24 : decode cX2_weigh 24 = .ok (.aload_n 0, 1) := by decide +kernel
theorem dX2_weigh_25 : decode cX2_weigh 25 = .ok (.getfield 11, 3) := by decide +kernel
theorem dX2_weigh_28 : decode cX2_weigh 28 = .ok (.iload_n 1, 1) := by decide +kernel
theorem dX2_weigh_29 : decode cX2_weigh 29 = .ok (.aaload, 1) := by decide +kernel
theorem dX2_weigh_30 : decode cX2_weigh 30 = .ok (.iconst 0, 1) := by decide +kernel
theorem dX2_weigh_31 : decode cX2_weigh 31 = .ok (.putfield 61, 3) := by decide +kernel
theorem dX2_weigh_34 : decode cX2_weigh 34 = .ok (.iinc 1 1, 3) := by decide +kernel
theorem dX2_weigh_37 : decode cX2_weigh 37 = .ok (.goto (-31), 3) := by decide +kernel
theorem dX2_weigh_40 : decode cX2_weigh 40 = .ok (.iconst 0, 1) := by decide +kernel
theorem dX2_weigh_41 : decode cX2_weigh 41 = .ok (.istore_n 1, 1) := by decide +kernel
theorem dX2_weigh_42 : decode cX2_weigh 42 = .ok (.iload_n 1, 1) := by decide +kernel
theorem dX2_weigh_43 : decode cX2_weigh 43 = .ok (.aload_n 0, 1) := by decide +kernel
theorem dX2_weigh_44 : decode cX2_weigh 44 = .ok (.getfield 28, 3) := by decide +kernel
theorem dX2_weigh_47 : decode cX2_weigh 47 = .ok (.if_icmp .ge 24, 3) := by decide +kernel
theorem dX2_weigh_50 : decode cX2_weigh 50 = .ok (.aload_n 0, 1) := by decide +kernel
theorem dX2_weigh_51 : decode cX2_weigh 51 = .ok (.aload_n 0, 1) := by decide +kernel
theorem dX2_weigh_52 : decode cX2_weigh 52 = .ok (.getfield 11, 3) := by decide +kernel
theorem dX2_weigh_55 : decode cX2_weigh 55 = .ok (.aload_n 0, 1) := by decide +kernel
theorem dX2_weigh_56 : decode cX2_weigh 56 = .ok (.getfield 17, 3) := by decide +kernel
theorem dX2_weigh_59 : decode cX2_weigh 59 = .ok (.iload_n 1, 1) := by decide +kernel
theorem dX2_weigh_60 : decode cX2_weigh 60 = .ok (.iaload, 1) := by decide +kernel
theorem dX2_weigh_61 : decode cX2_weigh 61 = .ok (.aaload, 1) := by decide +kernel
theorem dX2_weigh_62 : decode cX2_weigh 62 = .ok (.invokevirtual 64, 3) := by decide +kernel
theorem dX2_weigh_65 : decode cX2_weigh 65 = .ok (.iinc 1 1, 3) := by decide +kernel
theorem dX2_weigh_68 : decode cX2_weigh 68 = .ok (.goto (-26), 3) := by decide +kernel
theorem dX2_weigh_71 : decode cX2_weigh 71 = .ok (.aload_n 0, 1) := by decide +kernel
theorem dX2_weigh_72 : decode cX2_weigh 72 = .ok (.getfield 28, 3) := by decide +kernel
theorem dX2_weigh_75 : decode cX2_weigh 75 = .ok (.iconst 1, 1) := by decide +kernel
theorem dX2_weigh_76 : decode cX2_weigh 76 = .ok (.isub, 1) := by decide +kernel
theorem dX2_weigh_77 : decode cX2_weigh 77 = .ok (.istore_n 1, 1) := by decide +kernel
theorem dX2_weigh_78 : decode cX2_weigh 78 = .ok (.iload_n 1, 1) := by decide +kernel
theorem dX2_weigh_79 : decode cX2_weigh 79 = .ok (.ifCond .lt 24, 3) := by decide +kernel
theorem dX2_weigh_82 : decode cX2_weigh 82 = .ok (.aload_n 0, 1) := by decide +kernel
theorem dX2_weigh_83 : decode cX2_weigh 83 = .ok (.aload_n 0, 1) := by decide +kernel
theorem dX2_weigh_84 : decode cX2_weigh 84 = .ok (.getfield 11, 3) := by decide +kernel
theorem dX2_weigh_87 : decode cX2_weigh 87 = .ok (.aload_n 0, 1) := by decide +kernel
theorem dX2_weigh_88 : decode cX2_weigh 88 = .ok (.getfield 17, 3) := by decide +kernel
theorem dX2_weigh_91 : decode cX2_weigh 91 = .ok (.iload_n 1, 1) := by decide +kernel
theorem dX2_weigh_92 : decode cX2_weigh 92 = .ok (.iaload, 1) := by decide +kernel
theorem dX2_weigh_93 : decode cX2_weigh 93 = .ok (.aaload, 1) := by decide +kernel
theorem dX2_weigh_94 : decode cX2_weigh 94 = .ok (.invokevirtual 68, 3) := by decide +kernel
theorem dX2_weigh_97 : decode cX2_weigh 97 = .ok (.iinc 1 (-1), 3) := by decide +kernel
theorem dX2_weigh_100 : decode cX2_weigh 100 = .ok (.goto (-22), 3) := by decide +kernel
theorem dX2_weigh_103 : decode cX2_weigh 103 = .ok (.aload_n 0, 1) := by decide +kernel
theorem dX2_weigh_104 : decode cX2_weigh 104 = .ok (.iconst 0, 1) := by decide +kernel
theorem dX2_weigh_105 : decode cX2_weigh 105 = .ok (.putfield 71, 3) := by decide +kernel
theorem dX2_weigh_108 : decode cX2_weigh 108 = .ok (.iconst 0, 1) := by decide +kernel
theorem dX2_weigh_109 : decode cX2_weigh 109 = .ok (.istore_n 1, 1) := by decide +kernel
theorem dX2_weigh_110 : decode cX2_weigh 110 = .ok (.iload_n 1, 1) := by decide +kernel
theorem dX2_weigh_111 : decode cX2_weigh 111 = .ok (.aload_n 0, 1) := by decide +kernel
theorem dX2_weigh_112 : decode cX2_weigh 112 = .ok (.getfield 28, 3) := by decide +kernel
theorem dX2_weigh_115 : decode cX2_weigh 115 = .ok (.if_icmp .ge 29, 3) := by decide +kernel
theorem dX2_weigh_118 : decode cX2_weigh 118 = .ok (.aload_n 0, 1) := by decide +kernel
theorem dX2_weigh_119 : decode cX2_weigh 119 = .ok (.aload_n 0, 1) := by decide +kernel
theorem dX2_weigh_120 : decode cX2_weigh 120 = .ok (.getfield 71, 3) := by decide +kernel
theorem dX2_weigh_123 : decode cX2_weigh 123 = .ok (.aload_n 0, 1) := by decide +kernel
theorem dX2_weigh_124 : decode cX2_weigh 124 = .ok (.getfield 11, 3) := by decide +kernel
theorem dX2_weigh_127 : decode cX2_weigh 127 = .ok (.iload_n 1, 1) := by decide +kernel
theorem dX2_weigh_128 : decode cX2_weigh 128 = .ok (.aaload, 1) := by decide +kernel
theorem dX2_weigh_129 : decode cX2_weigh 129 = .ok (.invokevirtual 74, 3) := by decide +kernel
theorem dX2_weigh_132 : decode cX2_weigh 132 = .ok (.invokestatic 78, 3) := by decide +kernel
theorem dX2_weigh_135 : decode cX2_weigh 135 = .ok (.putfield 71, 3) := by decide +kernel
theorem dX2_weigh_138 : decode cX2_weigh 138 = .ok (.iinc 1 1, 3) := by decide +kernel
theorem dX2_weigh_141 : decode cX2_weigh 141 = .ok (.goto (-31), 3) := by decide +kernel
theorem dX2_weigh_144 : decode cX2_weigh 144 = .ok (.return_, 1) := by decide +kernel
theorem dX2_rank_0 : decode cX2_rank 0 = .ok (.iconst 0, 1) := by decide +kernel
theorem dX2_rank_1 : decode cX2_rank 1 = .ok (.istore_n 1, 1) := by decide +kernel
theorem dX2_rank_2 : decode cX2_rank 2 = .ok (.iconst 0, 1) := by decide +kernel
theorem dX2_rank_3 : decode cX2_rank 3 = .ok (.istore_n 2, 1) := by decide +kernel
theorem dX2_rank_4 : decode cX2_rank 4 = .ok (.iload_n 2, 1) := by decide +kernel
theorem dX2_rank_5 : decode cX2_rank 5 = .ok (.aload_n 0, 1) := by decide +kernel
theorem dX2_rank_6 : decode cX2_rank 6 = .ok (.getfield 28, 3) := by decide +kernel
theorem dX2_rank_9 : decode cX2_rank 9 = .ok (.if_icmp .ge 51, 3) := by decide +kernel
theorem dX2_rank_12 : decode cX2_rank 12 = .ok (.iconst 0, 1) := by decide +kernel
theorem dX2_rank_13 : decode cX2_rank 13 = .ok (.istore_n 3, 1) := by decide +kernel
theorem dX2_rank_14 : decode cX2_rank 14 = .ok (.iload_n 3, 1) := by decide +kernel
theorem dX2_rank_15 : decode cX2_rank 15 = .ok (.aload_n 0, 1) := by decide +kernel
theorem dX2_rank_16 : decode cX2_rank 16 = .ok (.getfield 28, 3) := by decide +kernel
theorem dX2_rank_19 : decode cX2_rank 19 = .ok (.if_icmp .ge 35, 3) := by decide +kernel
theorem dX2_rank_22 : decode cX2_rank 22 = .ok (.aload_n 0, 1) := by decide +kernel
theorem dX2_rank_23 : decode cX2_rank 23 = .ok (.getfield 11, 3) := by decide +kernel
theorem dX2_rank_26 : decode cX2_rank 26 = .ok (.iload_n 3, 1) := by decide +kernel
theorem dX2_rank_27 : decode cX2_rank 27 = .ok (.aaload, 1) := by decide +kernel
theorem dX2_rank_28 : decode cX2_rank 28 = .ok (.getfield 48, 3) := by decide +kernel
theorem dX2_rank_31 : decode cX2_rank 31 = .ok (.invokestatic 84, 3) := by decide +kernel
theorem dX2_rank_34 : decode cX2_rank 34 = .ok (.iload_n 2, 1) := by decide +kernel
theorem dX2_rank_35 : decode cX2_rank 35 = .ok (.if_icmp .ne 13, 3) := by decide +kernel
theorem dX2_rank_38 : decode cX2_rank 38 = .ok (.aload_n 0, 1) := by decide +kernel
theorem dX2_rank_39 : decode cX2_rank 39 = .ok (.getfield 17, 3) := by decide +kernel
theorem dX2_rank_42 : decode cX2_rank 42 = .ok (.iload_n 1, 1) := by decide +kernel
theorem dX2_rank_43 : decode cX2_rank 43 = .ok (.iload_n 3, 1) := by decide +kernel
theorem dX2_rank_44 : decode cX2_rank 44 = .ok (.iastore, 1) := by decide +kernel
theorem dX2_rank_45 : decode cX2_rank 45 = .ok (.iinc 1 1, 3) := by decide +kernel
theorem dX2_rank_48 : decode cX2_rank 48 = .ok (.iinc 3 1, 3) := by decide +kernel
theorem dX2_rank_51 : decode cX2_rank 51 = .ok (.goto (-37), 3) := by decide +kernel
theorem dX2_rank_54 : decode cX2_rank 54 = .ok (.iinc 2 1, 3) := by decide +kernel
theorem dX2_rank_57 : decode cX2_rank 57 = .ok (.goto (-53), 3) := by decide +kernel
theorem dX2_rank_60 : decode cX2_rank 60 = .ok (.return_, 1) := by decide +kernel
theorem dX2_pushEarly_0 : decode cX2_pushEarly 0 = .ok (.iconst 0, 1) := by decide +kernel
theorem dX2_pushEarly_1 : decode cX2_pushEarly 1 = .ok (.istore_n 2, 1) := by decide +kernel
theorem dX2_pushEarly_2 : decode cX2_pushEarly 2 = .ok (.iload_n 2, 1) := by decide +kernel
theorem dX2_pushEarly_3 : decode cX2_pushEarly 3 = .ok (.aload_n 0, 1) := by decide +kernel
theorem dX2_pushEarly_4 : decode cX2_pushEarly 4 = .ok (.getfield 28, 3) := by decide +kernel
theorem dX2_pushEarly_7 : decode cX2_pushEarly 7 = .ok (.if_icmp .ge 44, 3) := by decide +kernel
theorem dX2_pushEarly_10 : decode cX2_pushEarly 10 = .ok (.aload_n 0, 1) := by decide +kernel
theorem dX2_pushEarly_11 : decode cX2_pushEarly 11 = .ok (.getfield 11, 3) := by decide +kernel
theorem dX2_pushEarly_14 : decode cX2_pushEarly 14 = .ok (.iload_n 2, 1) := by decide +kernel
theorem dX2_pushEarly_15 : decode cX2_pushEarly 15 = .ok (.aaload, 1) := by decide +kernel
theorem dX2_pushEarly_16 : decode cX2_pushEarly 16 = .ok (.astore_n 3, 1) := by decide +kernel
theorem dX2_pushEarly_17 : decode cX2_pushEarly 17 = .ok (.aload_n 3, 1) := by decide +kernel
theorem dX2_pushEarly_18 : decode cX2_pushEarly 18 = .ok (.aload_n 1, 1) := by decide +kernel
theorem dX2_pushEarly_19 : decode cX2_pushEarly 19 = .ok (.invokevirtual 90, 3) := by decide +kernel
theorem dX2_pushEarly_22 : decode cX2_pushEarly 22 = .ok (.ifCond .eq 23, 3) := by decide +kernel
theorem dX2_pushEarly_25 : decode cX2_pushEarly 25 = .ok (.aload_n 3, 1) := by decide +kernel
theorem dX2_pushEarly_26 : decode cX2_pushEarly 26 = .ok (.aload_n 3, 1) := by decide +kernel
theorem dX2_pushEarly_27 : decode cX2_pushEarly 27 = .ok (.getfield 58, 3) := by decide +kernel
theorem dX2_pushEarly_30 : decode cX2_pushEarly 30 = .ok (.aload_n 1, 1) := by decide +kernel
theorem dX2_pushEarly_31 : decode cX2_pushEarly 31 = .ok (.getfield 58, 3) := by decide +kernel
theorem dX2_pushEarly_34 : decode cX2_pushEarly 34 = .ok (.aload_n 1, 1) := by decide +kernel
theorem dX2_pushEarly_35 : decode cX2_pushEarly 35 = .ok (.getfield 93, 3) := by decide +kernel
theorem dX2_pushEarly_38 : decode cX2_pushEarly 38 = .ok (.iadd, 1) := by decide +kernel
theorem dX2_pushEarly_39 : decode cX2_pushEarly 39 = .ok (.invokestatic 78, 3) := by decide +kernel
theorem dX2_pushEarly_42 : decode cX2_pushEarly 42 = .ok (.putfield 58, 3) := by decide +kernel
theorem dX2_pushEarly_45 : decode cX2_pushEarly 45 = .ok (.iinc 2 1, 3) := by decide +kernel
theorem dX2_pushEarly_48 : decode cX2_pushEarly 48 = .ok (.goto (-46), 3) := by decide +kernel
theorem dX2_pushEarly_51 : decode cX2_pushEarly 51 = .ok (.return_, 1) := by decide +kernel
theorem dX2_pushTail_0 : decode cX2_pushTail 0 = .ok (.iconst 0, 1) := by decide +kernel
theorem dX2_pushTail_1 : decode cX2_pushTail 1 = .ok (.istore_n 2, 1) := by decide +kernel
theorem dX2_pushTail_2 : decode cX2_pushTail 2 = .ok (.iload_n 2, 1) := by decide +kernel
theorem dX2_pushTail_3 : decode cX2_pushTail 3 = .ok (.aload_n 0, 1) := by decide +kernel
theorem dX2_pushTail_4 : decode cX2_pushTail 4 = .ok (.getfield 28, 3) := by decide +kernel
theorem dX2_pushTail_7 : decode cX2_pushTail 7 = .ok (.if_icmp .ge 44, 3) := by decide +kernel
theorem dX2_pushTail_10 : decode cX2_pushTail 10 = .ok (.aload_n 0, 1) := by decide +kernel
theorem dX2_pushTail_11 : decode cX2_pushTail 11 = .ok (.getfield 11, 3) := by decide +kernel
theorem dX2_pushTail_14 : decode cX2_pushTail 14 = .ok (.iload_n 2, 1) := by decide +kernel
theorem dX2_pushTail_15 : decode cX2_pushTail 15 = .ok (.aaload, 1) := by decide +kernel
theorem dX2_pushTail_16 : decode cX2_pushTail 16 = .ok (.astore_n 3, 1) := by decide +kernel
theorem dX2_pushTail_17 : decode cX2_pushTail 17 = .ok (.aload_n 1, 1) := by decide +kernel
theorem dX2_pushTail_18 : decode cX2_pushTail 18 = .ok (.aload_n 3, 1) := by decide +kernel
theorem dX2_pushTail_19 : decode cX2_pushTail 19 = .ok (.invokevirtual 90, 3) := by decide +kernel
theorem dX2_pushTail_22 : decode cX2_pushTail 22 = .ok (.ifCond .eq 23, 3) := by decide +kernel
theorem dX2_pushTail_25 : decode cX2_pushTail 25 = .ok (.aload_n 3, 1) := by decide +kernel
theorem dX2_pushTail_26 : decode cX2_pushTail 26 = .ok (.aload_n 3, 1) := by decide +kernel
theorem dX2_pushTail_27 : decode cX2_pushTail 27 = .ok (.getfield 61, 3) := by decide +kernel
theorem dX2_pushTail_30 : decode cX2_pushTail 30 = .ok (.aload_n 1, 1) := by decide +kernel
theorem dX2_pushTail_31 : decode cX2_pushTail 31 = .ok (.getfield 93, 3) := by decide +kernel
theorem dX2_pushTail_34 : decode cX2_pushTail 34 = .ok (.aload_n 1, 1) := by decide +kernel
theorem dX2_pushTail_35 : decode cX2_pushTail 35 = .ok (.getfield 61, 3) := by decide +kernel
theorem dX2_pushTail_38 : decode cX2_pushTail 38 = .ok (.iadd, 1) := by decide +kernel
theorem dX2_pushTail_39 : decode cX2_pushTail 39 = .ok (.invokestatic 78, 3) := by decide +kernel
theorem dX2_pushTail_42 : decode cX2_pushTail 42 = .ok (.putfield 61, 3) := by decide +kernel
theorem dX2_pushTail_45 : decode cX2_pushTail 45 = .ok (.iinc 2 1, 3) := by decide +kernel
theorem dX2_pushTail_48 : decode cX2_pushTail 48 = .ok (.goto (-46), 3) := by decide +kernel
theorem dX2_pushTail_51 : decode cX2_pushTail 51 = .ok (.return_, 1) := by decide +kernel
theorem dX2_slackOf_0 : decode cX2_slackOf 0 = .ok (.aload_n 0, 1) := by decide +kernel
theorem dX2_slackOf_1 : decode cX2_slackOf 1 = .ok (.getfield 71, 3) := by decide +kernel
theorem dX2_slackOf_4 : decode cX2_slackOf 4 = .ok (.aload_n 1, 1) := by decide +kernel
theorem dX2_slackOf_5 : decode cX2_slackOf 5 = .ok (.invokevirtual 74, 3) := by decide +kernel
theorem dX2_slackOf_8 : decode cX2_slackOf 8 = .ok (.isub, 1) := by decide +kernel
theorem dX2_slackOf_9 : decode cX2_slackOf 9 = .ok (.ireturn, 1) := by decide +kernel
theorem dX2_allThatArePut_0 : decode cX2_allThatArePut 0 = .ok (.lconst 0, 1) := by decide +kernel
theorem dX2_allThatArePut_1 : decode cX2_allThatArePut 1 = .ok (.lstore_n 1, 1) := by decide +kernel
theorem dX2_allThatArePut_2 : decode cX2_allThatArePut 2 = .ok (.iconst 0, 1) := by decide +kernel
theorem dX2_allThatArePut_3 : decode cX2_allThatArePut 3 = .ok (.istore_n 3, 1) := by decide +kernel
theorem dX2_allThatArePut_4 : decode cX2_allThatArePut 4 = .ok (.iload_n 3, 1) := by decide +kernel
theorem dX2_allThatArePut_5 : decode cX2_allThatArePut 5 = .ok (.aload_n 0, 1) := by decide +kernel
theorem dX2_allThatArePut_6 : decode cX2_allThatArePut 6 = .ok (.getfield 28, 3) := by decide +kernel
theorem dX2_allThatArePut_9 : decode cX2_allThatArePut 9 = .ok (.if_icmp .ge 33, 3) := by decide +kernel
theorem dX2_allThatArePut_12 : decode cX2_allThatArePut 12 = .ok (.aload_n 0, 1) := by decide +kernel
theorem dX2_allThatArePut_13 : decode cX2_allThatArePut 13 = .ok (.getfield 11, 3) := by decide +kernel
theorem dX2_allThatArePut_16 : decode cX2_allThatArePut 16 = .ok (.iload_n 3, 1) := by decide +kernel
theorem dX2_allThatArePut_17 : decode cX2_allThatArePut 17 = .ok (.aaload, 1) := by decide +kernel
theorem dX2_allThatArePut_18 : decode cX2_allThatArePut 18 = .ok (.invokevirtual 96, 3) := by decide +kernel
theorem dX2_allThatArePut_21 : decode cX2_allThatArePut 21 = .ok (.ifCond .ne 15, 3) := by decide +kernel
theorem dX2_allThatArePut_24 : decode cX2_allThatArePut 24 = .ok (.lload_n 1, 1) := by decide +kernel
theorem dX2_allThatArePut_25 : decode cX2_allThatArePut 25 = .ok (.aload_n 0, 1) := by decide +kernel
theorem dX2_allThatArePut_26 : decode cX2_allThatArePut 26 = .ok (.getfield 11, 3) := by decide +kernel
theorem dX2_allThatArePut_29 : decode cX2_allThatArePut 29 = .ok (.iload_n 3, 1) := by decide +kernel
theorem dX2_allThatArePut_30 : decode cX2_allThatArePut 30 = .ok (.aaload, 1) := by decide +kernel
theorem dX2_allThatArePut_31 : decode cX2_allThatArePut 31 = .ok (.getfield 35, 3) := by decide +kernel
theorem dX2_allThatArePut_34 : decode cX2_allThatArePut 34 = .ok (.lor, 1) := by decide +kernel
theorem dX2_allThatArePut_35 : decode cX2_allThatArePut 35 = .ok (.lstore_n 1, 1) := by decide +kernel
theorem dX2_allThatArePut_36 : decode cX2_allThatArePut 36 = .ok (.iinc 3 1, 3) := by decide +kernel
theorem dX2_allThatArePut_39 : decode cX2_allThatArePut 39 = .ok (.goto (-35), 3) := by decide +kernel
theorem dX2_allThatArePut_42 : decode cX2_allThatArePut 42 = .ok (.lload_n 1, 1) := by decide +kernel
theorem dX2_allThatArePut_43 : decode cX2_allThatArePut 43 = .ok (.lreturn, 1) := by decide +kernel
theorem dX2_allDone_0 : decode cX2_allDone 0 = .ok (.lconst 0, 1) := by decide +kernel
theorem dX2_allDone_1 : decode cX2_allDone 1 = .ok (.lstore_n 2, 1) := by decide +kernel
theorem dX2_allDone_2 : decode cX2_allDone 2 = .ok (.iconst 0, 1) := by decide +kernel
theorem dX2_allDone_3 : decode cX2_allDone 3 = .ok (.istore 4, 2) := by decide +kernel
theorem dX2_allDone_5 : decode cX2_allDone 5 = .ok (.iload 4, 2) := by decide +kernel
theorem dX2_allDone_7 : decode cX2_allDone 7 = .ok (.aload_n 0, 1) := by decide +kernel
theorem dX2_allDone_8 : decode cX2_allDone 8 = .ok (.getfield 28, 3) := by decide +kernel
theorem dX2_allDone_11 : decode cX2_allDone 11 = .ok (.if_icmp .ge 36, 3) := by decide +kernel
theorem dX2_allDone_14 : decode cX2_allDone 14 = .ok (.aload_n 0, 1) := by decide +kernel
theorem dX2_allDone_15 : decode cX2_allDone 15 = .ok (.getfield 11, 3) := by decide +kernel
theorem dX2_allDone_18 : decode cX2_allDone 18 = .ok (.iload 4, 2) := by decide +kernel
theorem dX2_allDone_20 : decode cX2_allDone 20 = .ok (.aaload, 1) := by decide +kernel
theorem dX2_allDone_21 : decode cX2_allDone 21 = .ok (.iload_n 1, 1) := by decide +kernel
theorem dX2_allDone_22 : decode cX2_allDone 22 = .ok (.invokevirtual 100, 3) := by decide +kernel
theorem dX2_allDone_25 : decode cX2_allDone 25 = .ok (.ifCond .eq 16, 3) := by decide +kernel
theorem dX2_allDone_28 : decode cX2_allDone 28 = .ok (.lload_n 2, 1) := by decide +kernel
theorem dX2_allDone_29 : decode cX2_allDone 29 = .ok (.aload_n 0, 1) := by decide +kernel
theorem dX2_allDone_30 : decode cX2_allDone 30 = .ok (.getfield 11, 3) := by decide +kernel
theorem dX2_allDone_33 : decode cX2_allDone 33 = .ok (.iload 4, 2) := by decide +kernel
theorem dX2_allDone_35 : decode cX2_allDone 35 = .ok (.aaload, 1) := by decide +kernel
theorem dX2_allDone_36 : decode cX2_allDone 36 = .ok (.getfield 35, 3) := by decide +kernel
theorem dX2_allDone_39 : decode cX2_allDone 39 = .ok (.lor, 1) := by decide +kernel
theorem dX2_allDone_40 : decode cX2_allDone 40 = .ok (.lstore_n 2, 1) := by decide +kernel
theorem dX2_allDone_41 : decode cX2_allDone 41 = .ok (.iinc 4 1, 3) := by decide +kernel
theorem dX2_allDone_44 : decode cX2_allDone 44 = .ok (.goto (-39), 3) := by decide +kernel
theorem dX2_allDone_47 : decode cX2_allDone 47 = .ok (.lload_n 2, 1) := by decide +kernel
theorem dX2_allDone_48 : decode cX2_allDone 48 = .ok (.lreturn, 1) := by decide +kernel
theorem dX2_mostPressing_0 : decode cX2_mostPressing 0 = .ok (.aload_n 0, 1) := by decide +kernel
theorem dX2_mostPressing_1 : decode cX2_mostPressing 1 = .ok (.invokevirtual 104, 3) := by decide +kernel
theorem dX2_mostPressing_4 : decode cX2_mostPressing 4 = .ok (.lstore_n 3, 1) := by decide +kernel
theorem dX2_mostPressing_5 : decode cX2_mostPressing 5 = .ok (.aconst_null, 1) := by decide +kernel
theorem dX2_mostPressing_6 : decode cX2_mostPressing 6 = .ok (.astore 5, 2) := by decide +kernel
theorem dX2_mostPressing_8 : decode cX2_mostPressing 8 = .ok (.iconst 0, 1) := by decide +kernel
theorem dX2_mostPressing_9 : decode cX2_mostPressing 9 = .ok (.istore 6, 2) := by decide +kernel
theorem dX2_mostPressing_11 : decode cX2_mostPressing 11 = .ok (.iload 6, 2) := by decide +kernel
theorem dX2_mostPressing_13 : decode cX2_mostPressing 13 = .ok (.aload_n 0, 1) := by decide +kernel
theorem dX2_mostPressing_14 : decode cX2_mostPressing 14 = .ok (.getfield 28, 3) := by decide +kernel
theorem dX2_mostPressing_17 : decode cX2_mostPressing 17 = .ok (.if_icmp .ge 75, 3) := by decide +kernel
theorem dX2_mostPressing_20 : decode cX2_mostPressing 20 = .ok (.aload_n 0, 1) := by decide +kernel
theorem dX2_mostPressing_21 : decode cX2_mostPressing 21 = .ok (.getfield 11, 3) := by decide +kernel
theorem dX2_mostPressing_24 : decode cX2_mostPressing 24 = .ok (.iload 6, 2) := by decide +kernel
theorem dX2_mostPressing_26 : decode cX2_mostPressing 26 = .ok (.aaload, 1) := by decide +kernel
theorem dX2_mostPressing_27 : decode cX2_mostPressing 27 = .ok (.astore 7, 2) := by decide +kernel
theorem dX2_mostPressing_29 : decode cX2_mostPressing 29 = .ok (.lload_n 1, 1) := by decide +kernel
theorem dX2_mostPressing_30 : decode cX2_mostPressing 30 = .ok (.aload 7, 2) := by decide +kernel
theorem dX2_mostPressing_32 : decode cX2_mostPressing 32 = .ok (.getfield 35, 3) := by decide +kernel
theorem dX2_mostPressing_35 : decode cX2_mostPressing 35 = .ok (.land, 1) := by decide +kernel
theorem dX2_mostPressing_36 : decode cX2_mostPressing 36 = .ok (.lconst 0, 1) := by decide +kernel
theorem dX2_mostPressing_37 : decode cX2_mostPressing 37 = .ok (.lcmp, 1) := by decide +kernel
theorem dX2_mostPressing_38 : decode cX2_mostPressing 38 = .ok (.ifCond .ne 16, 3) := by decide +kernel
theorem dX2_mostPressing_41 : decode cX2_mostPressing 41 = .ok (.aload 7, 2) := by decide +kernel
theorem dX2_mostPressing_43 : decode cX2_mostPressing 43 = .ok (.lload_n 3, 1) := by decide +kernel
theorem dX2_mostPressing_44 : decode cX2_mostPressing 44 = .ok (.invokevirtual 108, 3) := by decide +kernel
theorem dX2_mostPressing_47 : decode cX2_mostPressing 47 = .ok (.ifCond .eq 7, 3) := by decide +kernel
theorem dX2_mostPressing_50 : decode cX2_mostPressing 50 = .ok (.iconst 1, 1) := by decide +kernel
theorem dX2_mostPressing_51 : decode cX2_mostPressing 51 = .ok (.goto 4, 3) := by decide +kernel
theorem dX2_mostPressing_54 : decode cX2_mostPressing 54 = .ok (.iconst 0, 1) := by decide +kernel
theorem dX2_mostPressing_55 : decode cX2_mostPressing 55 = .ok (.istore 8, 2) := by decide +kernel
theorem dX2_mostPressing_57 : decode cX2_mostPressing 57 = .ok (.iload 8, 2) := by decide +kernel
theorem dX2_mostPressing_59 : decode cX2_mostPressing 59 = .ok (.ifCond .eq 27, 3) := by decide +kernel
theorem dX2_mostPressing_62 : decode cX2_mostPressing 62 = .ok (.aload 5, 2) := by decide +kernel
theorem dX2_mostPressing_64 : decode cX2_mostPressing 64 = .ok (.ifnull 18, 3) := by decide +kernel
theorem dX2_mostPressing_67 : decode cX2_mostPressing 67 = .ok (.aload_n 0, 1) := by decide +kernel
theorem dX2_mostPressing_68 : decode cX2_mostPressing 68 = .ok (.aload 7, 2) := by decide +kernel
theorem dX2_mostPressing_70 : decode cX2_mostPressing 70 = .ok (.invokevirtual 112, 3) := by decide +kernel
theorem dX2_mostPressing_73 : decode cX2_mostPressing 73 = .ok (.aload_n 0, 1) := by decide +kernel
theorem dX2_mostPressing_74 : decode cX2_mostPressing 74 = .ok (.aload 5, 2) := by decide +kernel
theorem dX2_mostPressing_76 : decode cX2_mostPressing 76 = .ok (.invokevirtual 112, 3) := by decide +kernel
theorem dX2_mostPressing_79 : decode cX2_mostPressing 79 = .ok (.if_icmp .ge 7, 3) := by decide +kernel
theorem dX2_mostPressing_82 : decode cX2_mostPressing 82 = .ok (.aload 7, 2) := by decide +kernel
theorem dX2_mostPressing_84 : decode cX2_mostPressing 84 = .ok (.astore 5, 2) := by decide +kernel
theorem dX2_mostPressing_86 : decode cX2_mostPressing 86 = .ok (.iinc 6 1, 3) := by decide +kernel
theorem dX2_mostPressing_89 : decode cX2_mostPressing 89 = .ok (.goto (-78), 3) := by decide +kernel
theorem dX2_mostPressing_92 : decode cX2_mostPressing 92 = .ok (.aload 5, 2) := by decide +kernel
theorem dX2_mostPressing_94 : decode cX2_mostPressing 94 = .ok (.areturn, 1) := by decide +kernel
theorem dX2_readyFrom_0 : decode cX2_readyFrom 0 = .ok (.iconst 0, 1) := by decide +kernel
theorem dX2_readyFrom_1 : decode cX2_readyFrom 1 = .ok (.istore_n 2, 1) := by decide +kernel
theorem dX2_readyFrom_2 : decode cX2_readyFrom 2 = .ok (.iconst 0, 1) := by decide +kernel
theorem dX2_readyFrom_3 : decode cX2_readyFrom 3 = .ok (.istore_n 3, 1) := by decide +kernel
theorem dX2_readyFrom_4 : decode cX2_readyFrom 4 = .ok (.iload_n 3, 1) := by decide +kernel
theorem dX2_readyFrom_5 : decode cX2_readyFrom 5 = .ok (.aload_n 0, 1) := by decide +kernel
theorem dX2_readyFrom_6 : decode cX2_readyFrom 6 = .ok (.getfield 28, 3) := by decide +kernel
theorem dX2_readyFrom_9 : decode cX2_readyFrom 9 = .ok (.if_icmp .ge 50, 3) := by decide +kernel
theorem dX2_readyFrom_12 : decode cX2_readyFrom 12 = .ok (.aload_n 0, 1) := by decide +kernel
theorem dX2_readyFrom_13 : decode cX2_readyFrom 13 = .ok (.getfield 11, 3) := by decide +kernel
theorem dX2_readyFrom_16 : decode cX2_readyFrom 16 = .ok (.iload_n 3, 1) := by decide +kernel
theorem dX2_readyFrom_17 : decode cX2_readyFrom 17 = .ok (.aaload, 1) := by decide +kernel
theorem dX2_readyFrom_18 : decode cX2_readyFrom 18 = .ok (.astore 4, 2) := by decide +kernel
theorem dX2_readyFrom_20 : decode cX2_readyFrom 20 = .ok (.aload_n 1, 1) := by decide +kernel
theorem dX2_readyFrom_21 : decode cX2_readyFrom 21 = .ok (.aload 4, 2) := by decide +kernel
theorem dX2_readyFrom_23 : decode cX2_readyFrom 23 = .ok (.invokevirtual 90, 3) := by decide +kernel
theorem dX2_readyFrom_26 : decode cX2_readyFrom 26 = .ok (.ifCond .eq 27, 3) := by decide +kernel
theorem dX2_readyFrom_29 : decode cX2_readyFrom 29 = .ok (.iload_n 2, 1) := by decide +kernel
theorem dX2_readyFrom_30 : decode cX2_readyFrom 30 = .ok (.aload 4, 2) := by decide +kernel
theorem dX2_readyFrom_32 : decode cX2_readyFrom 32 = .ok (.invokevirtual 96, 3) := by decide +kernel
theorem dX2_readyFrom_35 : decode cX2_readyFrom 35 = .ok (.ifCond .eq 9, 3) := by decide +kernel
