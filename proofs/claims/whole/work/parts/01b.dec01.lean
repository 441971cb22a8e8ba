theorem dX2_readyFrom_38 : decode cX2_readyFrom 38 = .ok (.sipush 400, 3) := by decide +kernel
theorem dX2_readyFrom_41 : decode cX2_readyFrom 41 = .ok (.goto 8, 3) := by decide +kernel
theorem dX2_readyFrom_44 : decode cX2_readyFrom 44 = .ok (.aload 4, 2) := by decide +kernel
theorem dX2_readyFrom_46 : decode cX2_readyFrom 46 = .ok (.invokevirtual 116, 3) := by decide +kernel
theorem dX2_readyFrom_49 : decode cX2_readyFrom 49 = .ok (.invokestatic 78, 3) := by decide +kernel
theorem dX2_readyFrom_52 : decode cX2_readyFrom 52 = .ok (.istore_n 2, 1) := by decide +kernel
theorem dX2_readyFrom_53 : decode cX2_readyFrom 53 = .ok (.iinc 3 1, 3) := by decide +kernel
theorem dX2_readyFrom_56 : decode cX2_readyFrom 56 = .ok (.goto (-52), 3) := by decide +kernel
theorem dX2_readyFrom_59 : decode cX2_readyFrom 59 = .ok (.iload_n 2, 1) := by decide +kernel
theorem dX2_readyFrom_60 : decode cX2_readyFrom 60 = .ok (.ireturn, 1) := by decide +kernel
theorem dX2_dueBy_0 : decode cX2_dueBy 0 = .ok (.sipush 400, 3) := by decide +kernel
theorem dX2_dueBy_3 : decode cX2_dueBy 3 = .ok (.istore_n 2, 1) := by decide +kernel
theorem dX2_dueBy_4 : decode cX2_dueBy 4 = .ok (.iconst 0, 1) := by decide +kernel
theorem dX2_dueBy_5 : decode cX2_dueBy 5 = .ok (.istore_n 3, 1) := by decide +kernel
theorem dX2_dueBy_6 : decode cX2_dueBy 6 = .ok (.iload_n 3, 1) := by decide +kernel
theorem dX2_dueBy_7 : decode cX2_dueBy 7 = .ok (.aload_n 0, 1) := by decide +kernel
theorem dX2_dueBy_8 : decode cX2_dueBy 8 = .ok (.getfield 28, 3) := by decide +kernel
theorem dX2_dueBy_11 : decode cX2_dueBy 11 = .ok (.if_icmp .ge 44, 3) := by decide +kernel
theorem dX2_dueBy_14 : decode cX2_dueBy 14 = .ok (.aload_n 0, 1) := by decide +kernel
theorem dX2_dueBy_15 : decode cX2_dueBy 15 = .ok (.getfield 11, 3) := by decide +kernel
theorem dX2_dueBy_18 : decode cX2_dueBy 18 = .ok (.iload_n 3, 1) := by decide +kernel
theorem dX2_dueBy_19 : decode cX2_dueBy 19 = .ok (.aaload, 1) := by decide +kernel
theorem dX2_dueBy_20 : decode cX2_dueBy 20 = .ok (.astore 4, 2) := by decide +kernel
theorem dX2_dueBy_22 : decode cX2_dueBy 22 = .ok (.aload 4, 2) := by decide +kernel
theorem dX2_dueBy_24 : decode cX2_dueBy 24 = .ok (.aload_n 1, 1) := by decide +kernel
theorem dX2_dueBy_25 : decode cX2_dueBy 25 = .ok (.invokevirtual 90, 3) := by decide +kernel
theorem dX2_dueBy_28 : decode cX2_dueBy 28 = .ok (.ifCond .eq 21, 3) := by decide +kernel
theorem dX2_dueBy_31 : decode cX2_dueBy 31 = .ok (.aload 4, 2) := by decide +kernel
theorem dX2_dueBy_33 : decode cX2_dueBy 33 = .ok (.invokevirtual 96, 3) := by decide +kernel
theorem dX2_dueBy_36 : decode cX2_dueBy 36 = .ok (.ifCond .ne 13, 3) := by decide +kernel
theorem dX2_dueBy_39 : decode cX2_dueBy 39 = .ok (.iload_n 2, 1) := by decide +kernel
theorem dX2_dueBy_40 : decode cX2_dueBy 40 = .ok (.aload 4, 2) := by decide +kernel
theorem dX2_dueBy_42 : decode cX2_dueBy 42 = .ok (.getfield 119, 3) := by decide +kernel
theorem dX2_dueBy_45 : decode cX2_dueBy 45 = .ok (.invokestatic 122, 3) := by decide +kernel
theorem dX2_dueBy_48 : decode cX2_dueBy 48 = .ok (.istore_n 2, 1) := by decide +kernel
theorem dX2_dueBy_49 : decode cX2_dueBy 49 = .ok (.iinc 3 1, 3) := by decide +kernel
theorem dX2_dueBy_52 : decode cX2_dueBy 52 = .ok (.goto (-46), 3) := by decide +kernel
theorem dX2_dueBy_55 : decode cX2_dueBy 55 = .ok (.iload_n 2, 1) := by decide +kernel
theorem dX2_dueBy_56 : decode cX2_dueBy 56 = .ok (.ireturn, 1) := by decide +kernel
theorem dX2_openedWith_0 : decode cX2_openedWith 0 = .ok (.aload_n 0, 1) := by decide +kernel
theorem dX2_openedWith_1 : decode cX2_openedWith 1 = .ok (.iload_n 2, 1) := by decide +kernel
theorem dX2_openedWith_2 : decode cX2_openedWith 2 = .ok (.invokevirtual 125, 3) := by decide +kernel
theorem dX2_openedWith_5 : decode cX2_openedWith 5 = .ok (.lstore_n 3, 1) := by decide +kernel
theorem dX2_openedWith_6 : decode cX2_openedWith 6 = .ok (.aload_n 1, 1) := by decide +kernel
theorem dX2_openedWith_7 : decode cX2_openedWith 7 = .ok (.getfield 35, 3) := by decide +kernel
theorem dX2_openedWith_10 : decode cX2_openedWith 10 = .ok (.aload_n 1, 1) := by decide +kernel
theorem dX2_openedWith_11 : decode cX2_openedWith 11 = .ok (.getfield 129, 3) := by decide +kernel
theorem dX2_openedWith_14 : decode cX2_openedWith 14 = .ok (.lor, 1) := by decide +kernel
theorem dX2_openedWith_15 : decode cX2_openedWith 15 = .ok (.lload_n 3, 1) := by decide +kernel
theorem dX2_openedWith_16 : decode cX2_openedWith 16 = .ok (.land, 1) := by decide +kernel
theorem dX2_openedWith_17 : decode cX2_openedWith 17 = .ok (.lstore 5, 2) := by decide +kernel
theorem dX2_openedWith_19 : decode cX2_openedWith 19 = .ok (.iconst 0, 1) := by decide +kernel
theorem dX2_openedWith_20 : decode cX2_openedWith 20 = .ok (.istore 7, 2) := by decide +kernel
theorem dX2_openedWith_22 : decode cX2_openedWith 22 = .ok (.iload 7, 2) := by decide +kernel
theorem dX2_openedWith_24 : decode cX2_openedWith 24 = .ok (.aload_n 0, 1) := by decide +kernel
theorem dX2_openedWith_25 : decode cX2_openedWith 25 = .ok (.getfield 28, 3) := by decide +kernel
theorem dX2_openedWith_28 : decode cX2_openedWith 28 = .ok (.if_icmp .ge 22, 3) := by decide +kernel
theorem dX2_openedWith_31 : decode cX2_openedWith 31 = .ok (.lload 5, 2) := by decide +kernel
theorem dX2_openedWith_33 : decode cX2_openedWith 33 = .ok (.aload_n 0, 1) := by decide +kernel
theorem dX2_openedWith_34 : decode cX2_openedWith 34 = .ok (.lload 5, 2) := by decide +kernel
theorem dX2_openedWith_36 : decode cX2_openedWith 36 = .ok (.invokevirtual 132, 3) := by decide +kernel
theorem dX2_openedWith_39 : decode cX2_openedWith 39 = .ok (.lload_n 3, 1) := by decide +kernel
theorem dX2_openedWith_40 : decode cX2_openedWith 40 = .ok (.land, 1) := by decide +kernel
theorem dX2_openedWith_41 : decode cX2_openedWith 41 = .ok (.lor, 1) := by decide +kernel
theorem dX2_openedWith_42 : decode cX2_openedWith 42 = .ok (.lstore 5, 2) := by decide +kernel
theorem dX2_openedWith_44 : decode cX2_openedWith 44 = .ok (.iinc 7 1, 3) := by decide +kernel
theorem dX2_openedWith_47 : decode cX2_openedWith 47 = .ok (.goto (-25), 3) := by decide +kernel
theorem dX2_openedWith_50 : decode cX2_openedWith 50 = .ok (.lload 5, 2) := by decide +kernel
theorem dX2_openedWith_52 : decode cX2_openedWith 52 = .ok (.lreturn, 1) := by decide +kernel
theorem dX2_needersOf_0 : decode cX2_needersOf 0 = .ok (.lconst 0, 1) := by decide +kernel
theorem dX2_needersOf_1 : decode cX2_needersOf 1 = .ok (.lstore_n 3, 1) := by decide +kernel
theorem dX2_needersOf_2 : decode cX2_needersOf 2 = .ok (.iconst 0, 1) := by decide +kernel
theorem dX2_needersOf_3 : decode cX2_needersOf 3 = .ok (.istore 5, 2) := by decide +kernel
theorem dX2_needersOf_5 : decode cX2_needersOf 5 = .ok (.iload 5, 2) := by decide +kernel
theorem dX2_needersOf_7 : decode cX2_needersOf 7 = .ok (.aload_n 0, 1) := by decide +kernel
theorem dX2_needersOf_8 : decode cX2_needersOf 8 = .ok (.getfield 28, 3) := by decide +kernel
theorem dX2_needersOf_11 : decode cX2_needersOf 11 = .ok (.if_icmp .ge 39, 3) := by decide +kernel
theorem dX2_needersOf_14 : decode cX2_needersOf 14 = .ok (.aload_n 0, 1) := by decide +kernel
theorem dX2_needersOf_15 : decode cX2_needersOf 15 = .ok (.getfield 11, 3) := by decide +kernel
theorem dX2_needersOf_18 : decode cX2_needersOf 18 = .ok (.iload 5, 2) := by decide +kernel
theorem dX2_needersOf_20 : decode cX2_needersOf 20 = .ok (.aaload, 1) := by decide +kernel
theorem dX2_needersOf_21 : decode cX2_needersOf 21 = .ok (.getfield 45, 3) := by decide +kernel
theorem dX2_needersOf_24 : decode cX2_needersOf 24 = .ok (.lload_n 1, 1) := by decide +kernel
theorem dX2_needersOf_25 : decode cX2_needersOf 25 = .ok (.land, 1) := by decide +kernel
theorem dX2_needersOf_26 : decode cX2_needersOf 26 = .ok (.lconst 0, 1) := by decide +kernel
theorem dX2_needersOf_27 : decode cX2_needersOf 27 = .ok (.lcmp, 1) := by decide +kernel
theorem dX2_needersOf_28 : decode cX2_needersOf 28 = .ok (.ifCond .eq 16, 3) := by decide +kernel
theorem dX2_needersOf_31 : decode cX2_needersOf 31 = .ok (.lload_n 3, 1) := by decide +kernel
theorem dX2_needersOf_32 : decode cX2_needersOf 32 = .ok (.aload_n 0, 1) := by decide +kernel
theorem dX2_needersOf_33 : decode cX2_needersOf 33 = .ok (.getfield 11, 3) := by decide +kernel
theorem dX2_needersOf_36 : decode cX2_needersOf 36 = .ok (.iload 5, 2) := by decide +kernel
theorem dX2_needersOf_38 : decode cX2_needersOf 38 = .ok (.aaload, 1) := by decide +kernel
theorem dX2_needersOf_39 : decode cX2_needersOf 39 = .ok (.getfield 35, 3) := by decide +kernel
theorem dX2_needersOf_42 : decode cX2_needersOf 42 = .ok (.lor, 1) := by decide +kernel
theorem dX2_needersOf_43 : decode cX2_needersOf 43 = .ok (.lstore_n 3, 1) := by decide +kernel
theorem dX2_needersOf_44 : decode cX2_needersOf 44 = .ok (.iinc 5 1, 3) := by decide +kernel
theorem dX2_needersOf_47 : decode cX2_needersOf 47 = .ok (.goto (-42), 3) := by decide +kernel
theorem dX2_needersOf_50 : decode cX2_needersOf 50 = .ok (.lload_n 3, 1) := by decide +kernel
theorem dX2_needersOf_51 : decode cX2_needersOf 51 = .ok (.lreturn, 1) := by decide +kernel
theorem dX2_askedOfTrade_0 : decode cX2_askedOfTrade 0 = .ok (.iconst 0, 1) := by decide +kernel
theorem dX2_askedOfTrade_1 : decode cX2_askedOfTrade 1 = .ok (.istore_n 2, 1) := by decide +kernel
theorem dX2_askedOfTrade_2 : decode cX2_askedOfTrade 2 = .ok (.iconst 0, 1) := by decide +kernel
theorem dX2_askedOfTrade_3 : decode cX2_askedOfTrade 3 = .ok (.istore_n 3, 1) := by decide +kernel
theorem dX2_askedOfTrade_4 : decode cX2_askedOfTrade 4 = .ok (.iload_n 3, 1) := by decide +kernel
theorem dX2_askedOfTrade_5 : decode cX2_askedOfTrade 5 = .ok (.aload_n 0, 1) := by decide +kernel
theorem dX2_askedOfTrade_6 : decode cX2_askedOfTrade 6 = .ok (.getfield 28, 3) := by decide +kernel
theorem dX2_askedOfTrade_9 : decode cX2_askedOfTrade 9 = .ok (.if_icmp .ge 44, 3) := by decide +kernel
theorem dX2_askedOfTrade_12 : decode cX2_askedOfTrade 12 = .ok (.aload_n 0, 1) := by decide +kernel
theorem dX2_askedOfTrade_13 : decode cX2_askedOfTrade 13 = .ok (.getfield 11, 3) := by decide +kernel
theorem dX2_askedOfTrade_16 : decode cX2_askedOfTrade 16 = .ok (.iload_n 3, 1) := by decide +kernel
theorem dX2_askedOfTrade_17 : decode cX2_askedOfTrade 17 = .ok (.aaload, 1) := by decide +kernel
theorem dX2_askedOfTrade_18 : decode cX2_askedOfTrade 18 = .ok (.getfield 136, 3) := by decide +kernel
theorem dX2_askedOfTrade_21 : decode cX2_askedOfTrade 21 = .ok (.iload_n 1, 1) := by decide +kernel
theorem dX2_askedOfTrade_22 : decode cX2_askedOfTrade 22 = .ok (.if_icmp .ne 25, 3) := by decide +kernel
theorem dX2_askedOfTrade_25 : decode cX2_askedOfTrade 25 = .ok (.iload_n 2, 1) := by decide +kernel
theorem dX2_askedOfTrade_26 : decode cX2_askedOfTrade 26 = .ok (.aload_n 0, 1) := by decide +kernel
theorem dX2_askedOfTrade_27 : decode cX2_askedOfTrade 27 = .ok (.getfield 11, 3) := by decide +kernel
theorem dX2_askedOfTrade_30 : decode cX2_askedOfTrade 30 = .ok (.iload_n 3, 1) := by decide +kernel
theorem dX2_askedOfTrade_31 : decode cX2_askedOfTrade 31 = .ok (.aaload, 1) := by decide +kernel
theorem dX2_askedOfTrade_32 : decode cX2_askedOfTrade 32 = .ok (.getfield 93, 3) := by decide +kernel
theorem dX2_askedOfTrade_35 : decode cX2_askedOfTrade 35 = .ok (.aload_n 0, 1) := by decide +kernel
theorem dX2_askedOfTrade_36 : decode cX2_askedOfTrade 36 = .ok (.getfield 11, 3) := by decide +kernel
theorem dX2_askedOfTrade_39 : decode cX2_askedOfTrade 39 = .ok (.iload_n 3, 1) := by decide +kernel
theorem dX2_askedOfTrade_40 : decode cX2_askedOfTrade 40 = .ok (.aaload, 1) := by decide +kernel
theorem dX2_askedOfTrade_41 : decode cX2_askedOfTrade 41 = .ok (.getfield 139, 3) := by decide +kernel
theorem dX2_askedOfTrade_44 : decode cX2_askedOfTrade 44 = .ok (.imul, 1) := by decide +kernel
theorem dX2_askedOfTrade_45 : decode cX2_askedOfTrade 45 = .ok (.iadd, 1) := by decide +kernel
theorem dX2_askedOfTrade_46 : decode cX2_askedOfTrade 46 = .ok (.istore_n 2, 1) := by decide +kernel
theorem dX2_askedOfTrade_47 : decode cX2_askedOfTrade 47 = .ok (.iinc 3 1, 3) := by decide +kernel
theorem dX2_askedOfTrade_50 : decode cX2_askedOfTrade 50 = .ok (.goto (-46), 3) := by decide +kernel
theorem dX2_askedOfTrade_53 : decode cX2_askedOfTrade 53 = .ok (.iload_n 2, 1) := by decide +kernel
theorem dX2_askedOfTrade_54 : decode cX2_askedOfTrade 54 = .ok (.ireturn, 1) := by decide +kernel
theorem dX2_askedOfGood_0 : decode cX2_askedOfGood 0 = .ok (.aload_n 0, 1) := by decide +kernel
theorem dX2_askedOfGood_1 : decode cX2_askedOfGood 1 = .ok (.aload_n 0, 1) := by decide +kernel
theorem dX2_askedOfGood_2 : decode cX2_askedOfGood 2 = .ok (.getfield 21, 3) := by decide +kernel
theorem dX2_askedOfGood_5 : decode cX2_askedOfGood 5 = .ok (.iload_n 1, 1) := by decide +kernel
theorem dX2_askedOfGood_6 : decode cX2_askedOfGood 6 = .ok (.laload, 1) := by decide +kernel
theorem dX2_askedOfGood_7 : decode cX2_askedOfGood 7 = .ok (.invokevirtual 142, 3) := by decide +kernel
theorem dX2_askedOfGood_10 : decode cX2_askedOfGood 10 = .ok (.ireturn, 1) := by decide +kernel
theorem dX2_askedOfSpace_0 : decode cX2_askedOfSpace 0 = .ok (.aload_n 0, 1) := by decide +kernel
theorem dX2_askedOfSpace_1 : decode cX2_askedOfSpace 1 = .ok (.aload_n 0, 1) := by decide +kernel
theorem dX2_askedOfSpace_2 : decode cX2_askedOfSpace 2 = .ok (.getfield 25, 3) := by decide +kernel
theorem dX2_askedOfSpace_5 : decode cX2_askedOfSpace 5 = .ok (.iload_n 1, 1) := by decide +kernel
theorem dX2_askedOfSpace_6 : decode cX2_askedOfSpace 6 = .ok (.laload, 1) := by decide +kernel
theorem dX2_askedOfSpace_7 : decode cX2_askedOfSpace 7 = .ok (.invokevirtual 142, 3) := by decide +kernel
theorem dX2_askedOfSpace_10 : decode cX2_askedOfSpace 10 = .ok (.ireturn, 1) := by decide +kernel
theorem dX2_lengthOf_0 : decode cX2_lengthOf 0 = .ok (.iconst 0, 1) := by decide +kernel
theorem dX2_lengthOf_1 : decode cX2_lengthOf 1 = .ok (.istore_n 3, 1) := by decide +kernel
theorem dX2_lengthOf_2 : decode cX2_lengthOf 2 = .ok (.iconst 0, 1) := by decide +kernel
theorem dX2_lengthOf_3 : decode cX2_lengthOf 3 = .ok (.istore 4, 2) := by decide +kernel
theorem dX2_lengthOf_5 : decode cX2_lengthOf 5 = .ok (.iload 4, 2) := by decide +kernel
theorem dX2_lengthOf_7 : decode cX2_lengthOf 7 = .ok (.aload_n 0, 1) := by decide +kernel
theorem dX2_lengthOf_8 : decode cX2_lengthOf 8 = .ok (.getfield 28, 3) := by decide +kernel
theorem dX2_lengthOf_11 : decode cX2_lengthOf 11 = .ok (.if_icmp .ge 39, 3) := by decide +kernel
theorem dX2_lengthOf_14 : decode cX2_lengthOf 14 = .ok (.lload_n 1, 1) := by decide +kernel
theorem dX2_lengthOf_15 : decode cX2_lengthOf 15 = .ok (.aload_n 0, 1) := by decide +kernel
theorem dX2_lengthOf_16 : decode cX2_lengthOf 16 = .ok (.getfield 11, 3) := by decide +kernel
theorem dX2_lengthOf_19 : decode cX2_lengthOf 19 = .ok (.iload 4, 2) := by decide +kernel
theorem dX2_lengthOf_21 : decode cX2_lengthOf 21 = .ok (.aaload, 1) := by decide +kernel
theorem dX2_lengthOf_22 : decode cX2_lengthOf 22 = .ok (.getfield 35, 3) := by decide +kernel
theorem dX2_lengthOf_25 : decode cX2_lengthOf 25 = .ok (.land, 1) := by decide +kernel
theorem dX2_lengthOf_26 : decode cX2_lengthOf 26 = .ok (.lconst 0, 1) := by decide +kernel
theorem dX2_lengthOf_27 : decode cX2_lengthOf 27 = .ok (.lcmp, 1) := by decide +kernel
theorem dX2_lengthOf_28 : decode cX2_lengthOf 28 = .ok (.ifCond .eq 16, 3) := by decide +kernel
theorem dX2_lengthOf_31 : decode cX2_lengthOf 31 = .ok (.iload_n 3, 1) := by decide +kernel
theorem dX2_lengthOf_32 : decode cX2_lengthOf 32 = .ok (.aload_n 0, 1) := by decide +kernel
theorem dX2_lengthOf_33 : decode cX2_lengthOf 33 = .ok (.getfield 11, 3) := by decide +kernel
theorem dX2_lengthOf_36 : decode cX2_lengthOf 36 = .ok (.iload 4, 2) := by decide +kernel
theorem dX2_lengthOf_38 : decode cX2_lengthOf 38 = .ok (.aaload, 1) := by decide +kernel
theorem dX2_lengthOf_39 : decode cX2_lengthOf 39 = .ok (.getfield 93, 3) := by decide +kernel
theorem dX2_lengthOf_42 : decode cX2_lengthOf 42 = .ok (.iadd, 1) := by decide +kernel
theorem dX2_lengthOf_43 : decode cX2_lengthOf 43 = .ok (.istore_n 3, 1) := by decide +kernel
theorem dX2_lengthOf_44 : decode cX2_lengthOf 44 = .ok (.iinc 4 1, 3) := by decide +kernel
theorem dX2_lengthOf_47 : decode cX2_lengthOf 47 = .ok (.goto (-42), 3) := by decide +kernel
theorem dX2_lengthOf_50 : decode cX2_lengthOf 50 = .ok (.iload_n 3, 1) := by decide +kernel
theorem dX2_lengthOf_51 : decode cX2_lengthOf 51 = .ok (.ireturn, 1) := by decide +kernel
theorem dX3_init_0 : decode cX3_init 0 = .ok (.aload_n 0, 1) := by decide +kernel
theorem dX3_init_1 : decode cX3_init 1 = .ok (.invokespecial 3, 3) := by decide +kernel
theorem dX3_init_4 : decode cX3_init 4 = .ok (.aload_n 0, 1) := by decide +kernel
theorem dX3_init_5 : decode cX3_init 5 = .ok (.bipush 6, 2) := by decide +kernel
theorem dX3_init_7 : decode cX3_init 7 = .ok (.newarray .int, 2) := by decide +kernel
theorem dX3_init_9 : decode cX3_init 9 = .ok (.putfield 9, 3) := by decide +kernel
theorem dX3_init_12 : decode cX3_init 12 = .ok (.aload_n 0, 1) := by decide +kernel
theorem dX3_init_13 : decode cX3_init 13 = .ok (.aload_n 1, 1) := by decide +kernel
theorem dX3_init_14 : decode cX3_init 14 = .ok (.putfield 15, 3) := by decide +kernel
theorem dX3_init_17 : decode cX3_init 17 = .ok (.aload_n 0, 1) := by decide +kernel
theorem dX3_init_18 : decode cX3_init 18 = .ok (.aload_n 2, 1) := by decide +kernel
theorem dX3_init_19 : decode cX3_init 19 = .ok (.putfield 19, 3) := by decide +kernel
theorem dX3_init_22 : decode cX3_init 22 = .ok (.aload_n 0, 1) := by decide +kernel
theorem dX3_init_23 : decode cX3_init 23 = .ok (.aload_n 3, 1) := by decide +kernel
theorem dX3_init_24 : decode cX3_init 24 = .ok (.putfield 23, 3) := by decide +kernel
theorem dX3_init_27 : decode cX3_init 27 = .ok (.return_, 1) := by decide +kernel
theorem dX3_layBest_0 : decode cX3_layBest 0 = .ok (.aload_n 0, 1) := by decide +kernel
theorem dX3_layBest_1 : decode cX3_layBest 1 = .ok (.sipush 401, 3) := by decide +kernel
theorem dX3_layBest_4 : decode cX3_layBest 4 = .ok (.putfield 27, 3) := by decide +kernel
theorem dX3_layBest_7 : decode cX3_layBest 7 = .ok (.aload_n 0, 1) := by decide +kernel
theorem dX3_layBest_8 : decode cX3_layBest 8 = .ok (.iconst 0, 1) := by decide +kernel
theorem dX3_layBest_9 : decode cX3_layBest 9 = .ok (.iconst 0, 1) := by decide +kernel
theorem dX3_layBest_10 : decode cX3_layBest 10 = .ok (.invokevirtual 31, 3) := by decide +kernel
theorem dX3_layBest_13 : decode cX3_layBest 13 = .ok (.aload_n 0, 1) := by decide +kernel
theorem dX3_layBest_14 : decode cX3_layBest 14 = .ok (.getfield 27, 3) := by decide +kernel
theorem dX3_layBest_17 : decode cX3_layBest 17 = .ok (.sipush 400, 3) := by decide +kernel
theorem dX3_layBest_20 : decode cX3_layBest 20 = .ok (.if_icmp .le 5, 3) := by decide +kernel
theorem dX3_layBest_23 : decode cX3_layBest 23 = .ok (.iconst (-1), 1) := by decide +kernel
theorem dX3_layBest_24 : decode cX3_layBest 24 = .ok (.ireturn, 1) := by decide +kernel
theorem dX3_layBest_25 : decode cX3_layBest 25 = .ok (.iconst 0, 1) := by decide +kernel
theorem dX3_layBest_26 : decode cX3_layBest 26 = .ok (.istore_n 1, 1) := by decide +kernel
theorem dX3_layBest_27 : decode cX3_layBest 27 = .ok (.iload_n 1, 1) := by decide +kernel
theorem dX3_layBest_28 : decode cX3_layBest 28 = .ok (.aload_n 0, 1) := by decide +kernel
theorem dX3_layBest_29 : decode cX3_layBest 29 = .ok (.getfield 15, 3) := by decide +kernel
theorem dX3_layBest_32 : decode cX3_layBest 32 = .ok (.getfield 35, 3) := by decide +kernel
theorem dX3_layBest_35 : decode cX3_layBest 35 = .ok (.if_icmp .ge 37, 3) := by decide +kernel
theorem dX3_layBest_38 : decode cX3_layBest 38 = .ok (.iload_n 1, 1) := by decide +kernel
theorem dX3_layBest_39 : decode cX3_layBest 39 = .ok (.bipush 6, 2) := by decide +kernel
theorem dX3_layBest_41 : decode cX3_layBest 41 = .ok (.if_icmp .ge 31, 3) := by decide +kernel
theorem dX3_layBest_44 : decode cX3_layBest 44 = .ok (.aload_n 0, 1) := by decide +kernel
theorem dX3_layBest_45 : decode cX3_layBest 45 = .ok (.getfield 19, 3) := by decide +kernel
theorem dX3_layBest_48 : decode cX3_layBest 48 = .ok (.aload_n 0, 1) := by decide +kernel
theorem dX3_layBest_49 : decode cX3_layBest 49 = .ok (.getfield 15, 3) := by decide +kernel
theorem dX3_layBest_52 : decode cX3_layBest 52 = .ok (.getfield 40, 3) := by decide +kernel
theorem dX3_layBest_55 : decode cX3_layBest 55 = .ok (.iload_n 1, 1) := by decide +kernel
theorem dX3_layBest_56 : decode cX3_layBest 56 = .ok (.aaload, 1) := by decide +kernel
theorem dX3_layBest_57 : decode cX3_layBest 57 = .ok (.aload_n 0, 1) := by decide +kernel
theorem dX3_layBest_58 : decode cX3_layBest 58 = .ok (.getfield 9, 3) := by decide +kernel
theorem dX3_layBest_61 : decode cX3_layBest 61 = .ok (.iload_n 1, 1) := by decide +kernel
theorem dX3_layBest_62 : decode cX3_layBest 62 = .ok (.iaload, 1) := by decide +kernel
theorem dX3_layBest_63 : decode cX3_layBest 63 = .ok (.invokevirtual 44, 3) := by decide +kernel
theorem dX3_layBest_66 : decode cX3_layBest 66 = .ok (.iinc 1 1, 3) := by decide +kernel
theorem dX3_layBest_69 : decode cX3_layBest 69 = .ok (.goto (-42), 3) := by decide +kernel
theorem dX3_layBest_72 : decode cX3_layBest 72 = .ok (.aload_n 0, 1) := by decide +kernel
theorem dX3_layBest_73 : decode cX3_layBest 73 = .ok (.getfield 27, 3) := by decide +kernel
theorem dX3_layBest_76 : decode cX3_layBest 76 = .ok (.ireturn, 1) := by decide +kernel
theorem dX3_layNext_0 : decode cX3_layNext 0 = .ok (.iload_n 1, 1) := by decide +kernel
theorem dX3_layNext_1 : decode cX3_layNext 1 = .ok (.aload_n 0, 1) := by decide +kernel
theorem dX3_layNext_2 : decode cX3_layNext 2 = .ok (.getfield 15, 3) := by decide +kernel
theorem dX3_layNext_5 : decode cX3_layNext 5 = .ok (.getfield 35, 3) := by decide +kernel
theorem dX3_layNext_8 : decode cX3_layNext 8 = .ok (.if_icmp .ge 9, 3) := by decide +kernel
theorem dX3_layNext_11 : decode cX3_layNext 11 = .ok (.iload_n 1, 1) := by decide +kernel
theorem dX3_layNext_12 : decode cX3_layNext 12 = .ok (.bipush 6, 2) := by decide +kernel
theorem dX3_layNext_14 : decode cX3_layNext 14 = .ok (.if_icmp .lt 9, 3) := by decide +kernel
theorem dX3_layNext_17 : decode cX3_layNext 17 = .ok (.aload_n 0, 1) := by decide +kernel
theorem dX3_layNext_18 : decode cX3_layNext 18 = .ok (.iload_n 2, 1) := by decide +kernel
theorem dX3_layNext_19 : decode cX3_layNext 19 = .ok (.invokevirtual 50, 3) := by decide +kernel
theorem dX3_layNext_22 : decode cX3_layNext 22 = .ok (.return_, 1) := by decide +kernel
theorem dX3_layNext_23 : decode cX3_layNext 23 = .ok (.aload_n 0, 1) := by decide +kernel
theorem dX3_layNext_24 : decode cX3_layNext 24 = .ok (.getfield 15, 3) := by decide +kernel
theorem dX3_layNext_27 : decode cX3_layNext 27 = .ok (.invokevirtual 54, 3) := by decide +kernel
theorem dX3_layNext_30 : decode cX3_layNext 30 = .ok (.lstore_n 3, 1) := by decide +kernel
theorem dX3_layNext_31 : decode cX3_layNext 31 = .ok (.iconst 0, 1) := by decide +kernel
theorem dX3_layNext_32 : decode cX3_layNext 32 = .ok (.istore 5, 2) := by decide +kernel
theorem dX3_layNext_34 : decode cX3_layNext 34 = .ok (.iload 5, 2) := by decide +kernel
theorem dX3_layNext_36 : decode cX3_layNext 36 = .ok (.aload_n 0, 1) := by decide +kernel
theorem dX3_layNext_37 : decode cX3_layNext 37 = .ok (.getfield 15, 3) := by decide +kernel
theorem dX3_layNext_40 : decode cX3_layNext 40 = .ok (.getfield 35, 3) := by decide +kernel
theorem dX3_layNext_43 : decode cX3_layNext 43 = .ok (.if_icmp .ge 42, 3) := by decide +kernel
theorem dX3_layNext_46 : decode cX3_layNext 46 = .ok (.aload_n 0, 1) := by decide +kernel
theorem dX3_layNext_47 : decode cX3_layNext 47 = .ok (.getfield 15, 3) := by decide +kernel
theorem dX3_layNext_50 : decode cX3_layNext 50 = .ok (.getfield 40, 3) := by decide +kernel
theorem dX3_layNext_53 : decode cX3_layNext 53 = .ok (.iload 5, 2) := by decide +kernel
theorem dX3_layNext_55 : decode cX3_layNext 55 = .ok (.aaload, 1) := by decide +kernel
theorem dX3_layNext_56 : decode cX3_layNext 56 = .ok (.lload_n 3, 1) := by decide +kernel
theorem dX3_layNext_57 : decode cX3_layNext 57 = .ok (.invokevirtual 58, 3) := by decide +kernel
theorem dX3_layNext_60 : decode cX3_layNext 60 = .ok (.ifCond .eq 19, 3) := by decide +kernel
theorem dX3_layNext_63 : decode cX3_layNext 63 = .ok (.aload_n 0, 1) := by decide +kernel
theorem dX3_layNext_64 : decode cX3_layNext 64 = .ok (.aload_n 0, 1) := by decide +kernel
theorem dX3_layNext_65 : decode cX3_layNext 65 = .ok (.getfield 15, 3) := by decide +kernel
theorem dX3_layNext_68 : decode cX3_layNext 68 = .ok (.getfield 40, 3) := by decide +kernel
theorem dX3_layNext_71 : decode cX3_layNext 71 = .ok (.iload 5, 2) := by decide +kernel
theorem dX3_layNext_73 : decode cX3_layNext 73 = .ok (.aaload, 1) := by decide +kernel
theorem dX3_layNext_74 : decode cX3_layNext 74 = .ok (.iload_n 1, 1) := by decide +kernel
theorem dX3_layNext_75 : decode cX3_layNext 75 = .ok (.iload_n 2, 1) := by decide +kernel
theorem dX3_layNext_76 : decode cX3_layNext 76 = .ok (.invokevirtual 64, 3) := by decide +kernel
theorem dX3_layNext_79 : decode cX3_layNext 79 = .ok (.iinc 5 1, 3) := by decide +kernel
theorem dX3_layNext_82 : decode cX3_layNext 82 = .ok (.goto (-48), 3) := by decide +kernel
theorem dX3_layNext_85 : decode cX3_layNext 85 = .ok (.return_, 1) := by decide +kernel
theorem dX3_layAndGoOn_0 : decode cX3_layAndGoOn 0 = .ok (.aload_n 0, 1) := by decide +kernel
theorem dX3_layAndGoOn_1 : decode cX3_layAndGoOn 1 = .ok (.getfield 23, 3) := by decide +kernel
theorem dX3_layAndGoOn_4 : decode cX3_layAndGoOn 4 = .ok (.aload_n 1, 1) := by decide +kernel
theorem dX3_layAndGoOn_5 : decode cX3_layAndGoOn 5 = .ok (.iconst 0, 1) := by decide +kernel
theorem dX3_layAndGoOn_6 : decode cX3_layAndGoOn 6 = .ok (.invokevirtual 68, 3) := by decide +kernel
theorem dX3_layAndGoOn_9 : decode cX3_layAndGoOn 9 = .ok (.istore 4, 2) := by decide +kernel
theorem dX3_layAndGoOn_11 : decode cX3_layAndGoOn 11 = .ok (.iload 4, 2) := by decide +kernel
theorem dX3_layAndGoOn_13 : decode cX3_layAndGoOn 13 = .ok (.iconst (-1), 1) := by decide +kernel
theorem dX3_layAndGoOn_14 : decode cX3_layAndGoOn 14 = .ok (.if_icmp .eq 21, 3) := by decide +kernel
theorem dX3_layAndGoOn_17 : decode cX3_layAndGoOn 17 = .ok (.iload_n 3, 1) := by decide +kernel
theorem dX3_layAndGoOn_18 : decode cX3_layAndGoOn 18 = .ok (.iload 4, 2) := by decide +kernel
theorem dX3_layAndGoOn_20 : decode cX3_layAndGoOn 20 = .ok (.aload_n 1, 1) := by decide +kernel
theorem dX3_layAndGoOn_21 : decode cX3_layAndGoOn 21 = .ok (.getfield 74, 3) := by decide +kernel
theorem dX3_layAndGoOn_24 : decode cX3_layAndGoOn 24 = .ok (.iadd, 1) := by decide +kernel
theorem dX3_layAndGoOn_25 : decode cX3_layAndGoOn 25 = .ok (.invokestatic 77, 3) := by decide +kernel
theorem dX3_layAndGoOn_28 : decode cX3_layAndGoOn 28 = .ok (.aload_n 0, 1) := by decide +kernel
theorem dX3_layAndGoOn_29 : decode cX3_layAndGoOn 29 = .ok (.getfield 27, 3) := by decide +kernel
theorem dX3_layAndGoOn_32 : decode cX3_layAndGoOn 32 = .ok (.if_icmp .lt 4, 3) := by decide +kernel
theorem dX3_layAndGoOn_35 : decode cX3_layAndGoOn 35 = .ok (.return_, 1) := by decide +kernel
theorem dX3_layAndGoOn_36 : decode cX3_layAndGoOn 36 = .ok (.aload_n 0, 1) := by decide +kernel
theorem dX3_layAndGoOn_37 : decode cX3_layAndGoOn 37 = .ok (.getfield 19, 3) := by decide +kernel
theorem dX3_layAndGoOn_40 : decode cX3_layAndGoOn 40 = .ok (.aload_n 1, 1) := by decide +kernel
theorem dX3_layAndGoOn_41 : decode cX3_layAndGoOn 41 = .ok (.iload 4, 2) := by decide +kernel
theorem dX3_layAndGoOn_43 : decode cX3_layAndGoOn 43 = .ok (.invokevirtual 44, 3) := by decide +kernel
theorem dX3_layAndGoOn_46 : decode cX3_layAndGoOn 46 = .ok (.aload_n 0, 1) := by decide +kernel
theorem dX3_layAndGoOn_47 : decode cX3_layAndGoOn 47 = .ok (.iload_n 2, 1) := by decide +kernel
theorem dX3_layAndGoOn_48 : decode cX3_layAndGoOn 48 = .ok (.iconst 1, 1) := by decide +kernel
theorem dX3_layAndGoOn_49 : decode cX3_layAndGoOn 49 = .ok (.iadd, 1) := by decide +kernel
theorem dX3_layAndGoOn_50 : decode cX3_layAndGoOn 50 = .ok (.iload_n 3, 1) := by decide +kernel
theorem dX3_layAndGoOn_51 : decode cX3_layAndGoOn 51 = .ok (.aload_n 1, 1) := by decide +kernel
theorem dX3_layAndGoOn_52 : decode cX3_layAndGoOn 52 = .ok (.invokevirtual 83, 3) := by decide +kernel
theorem dX3_layAndGoOn_55 : decode cX3_layAndGoOn 55 = .ok (.invokestatic 77, 3) := by decide +kernel
theorem dX3_layAndGoOn_58 : decode cX3_layAndGoOn 58 = .ok (.invokevirtual 31, 3) := by decide +kernel
theorem dX3_layAndGoOn_61 : decode cX3_layAndGoOn 61 = .ok (.aload_n 0, 1) := by decide +kernel
theorem dX3_layAndGoOn_62 : decode cX3_layAndGoOn 62 = .ok (.getfield 19, 3) := by decide +kernel
theorem dX3_layAndGoOn_65 : decode cX3_layAndGoOn 65 = .ok (.aload_n 1, 1) := by decide +kernel
theorem dX3_layAndGoOn_66 : decode cX3_layAndGoOn 66 = .ok (.invokevirtual 87, 3) := by decide +kernel
theorem dX3_layAndGoOn_69 : decode cX3_layAndGoOn 69 = .ok (.return_, 1) := by decide +kernel
theorem dX3_keep_0 : decode cX3_keep 0 = .ok (.aload_n 0, 1) := by decide +kernel
theorem dX3_keep_1 : decode cX3_keep 1 = .ok (.iload_n 1, 1) := by decide +kernel
theorem dX3_keep_2 : decode cX3_keep 2 = .ok (.putfield 27, 3) := by decide +kernel
theorem dX3_keep_5 : decode cX3_keep 5 = .ok (.iconst 0, 1) := by decide +kernel
theorem dX3_keep_6 : decode cX3_keep 6 = .ok (.istore_n 2, 1) := by decide +kernel
theorem dX3_keep_7 : decode cX3_keep 7 = .ok (.iload_n 2, 1) := by decide +kernel
theorem dX3_keep_8 : decode cX3_keep 8 = .ok (.aload_n 0, 1) := by decide +kernel
theorem dX3_keep_9 : decode cX3_keep 9 = .ok (.getfield 15, 3) := by decide +kernel
theorem dX3_keep_12 : decode cX3_keep 12 = .ok (.getfield 35, 3) := by decide +kernel
theorem dX3_keep_15 : decode cX3_keep 15 = .ok (.if_icmp .ge 33, 3) := by decide +kernel
theorem dX3_keep_18 : decode cX3_keep 18 = .ok (.iload_n 2, 1) := by decide +kernel
theorem dX3_keep_19 : decode cX3_keep 19 = .ok (.bipush 6, 2) := by decide +kernel
theorem dX3_keep_21 : decode cX3_keep 21 = .ok (.if_icmp .ge 27, 3) := by decide +kernel
theorem dX3_keep_24 : decode cX3_keep 24 = .ok (.aload_n 0, 1) := by decide +kernel
theorem dX3_keep_25 : decode cX3_keep 25 = .ok (.getfield 9, 3) := by decide +kernel
theorem dX3_keep_28 : decode cX3_keep 28 = .ok (.iload_n 2, 1) := by decide +kernel
theorem dX3_keep_29 : decode cX3_keep 29 = .ok (.aload_n 0, 1) := by decide +kernel
theorem dX3_keep_30 : decode cX3_keep 30 = .ok (.getfield 15, 3) := by decide +kernel
theorem dX3_keep_33 : decode cX3_keep 33 = .ok (.getfield 40, 3) := by decide +kernel
theorem dX3_keep_36 : decode cX3_keep 36 = .ok (.iload_n 2, 1) := by decide +kernel
theorem dX3_keep_37 : decode cX3_keep 37 = .ok (.aaload, 1) := by decide +kernel
theorem dX3_keep_38 : decode cX3_keep 38 = .ok (.getfield 91, 3) := by decide +kernel
theorem dX3_keep_41 : decode cX3_keep 41 = .ok (.iastore, 1) := by decide +kernel
theorem dX3_keep_42 : decode cX3_keep 42 = .ok (.iinc 2 1, 3) := by decide +kernel
theorem dX3_keep_45 : decode cX3_keep 45 = .ok (.goto (-38), 3) := by decide +kernel
theorem dX3_keep_48 : decode cX3_keep 48 = .ok (.return_, 1) := by decide +kernel
theorem dX4_init_0 : decode cX4_init 0 = .ok (.aload_n 0, 1) := by decide +kernel
theorem dX4_init_1 : decode cX4_init 1 = .ok (.invokespecial 3, 3) := by decide +kernel
theorem dX4_init_4 : decode cX4_init 4 = .ok (.aload_n 0, 1) := by decide +kernel
theorem dX4_init_5 : decode cX4_init 5 = .ok (.iconst 4, 1) := by decide +kernel
theorem dX4_init_6 : decode cX4_init 6 = .ok (.newarray .int, 2) := by decide +kernel
theorem dX4_init_8 : decode cX4_init 8 = .ok (.dup, 1) := by decide +kernel
theorem dX4_init_9 : decode cX4_init 9 = .ok (.iconst 0, 1) := by decide +kernel
theorem dX4_init_10 : decode cX4_init 10 = .ok (.iconst 4, 1) := by decide +kernel
theorem dX4_init_11 : decode cX4_init 11 = .ok (.iastore, 1) := by decide +kernel
theorem dX4_init_12 : decode cX4_init 12 = .ok (.dup, 1) := by decide +kernel
theorem dX4_init_13 : decode cX4_init 13 = .ok (.iconst 1, 1) := by decide +kernel
theorem dX4_init_14 : decode cX4_init 14 = .ok (.iconst 4, 1) := by decide +kernel
theorem dX4_init_15 : decode cX4_init 15 = .ok (.iastore, 1) := by decide +kernel
theorem dX4_init_16 : decode cX4_init 16 = .ok (.dup, 1) := by decide +kernel
theorem dX4_init_17 : decode cX4_init 17 = .ok (.iconst 2, 1) := by decide +kernel
theorem dX4_init_18 : decode cX4_init 18 = .ok (.iconst 4, 1) := by decide +kernel
theorem dX4_init_19 : decode cX4_init 19 = .ok (.iastore, 1) := by decide +kernel
theorem dX4_init_20 : decode cX4_init 20 = .ok (.dup, 1) := by decide +kernel
theorem dX4_init_21 : decode cX4_init 21 = .ok (.iconst 3, 1) := by decide +kernel
theorem dX4_init_22 : decode cX4_init 22 = .ok (.iconst 4, 1) := by decide +kernel
theorem dX4_init_23 : decode cX4_init 23 = .ok (.iastore, 1) := by decide +kernel
theorem dX4_init_24 : decode cX4_init 24 = .ok (.putfield 9, 3) := by decide +kernel
theorem dX4_init_27 : decode cX4_init 27 = .ok (.aload_n 0, 1) := by decide +kernel
theorem dX4_init_28 : decode cX4_init 28 = .ok (.iconst 4, 1) := by decide +kernel
theorem dX4_init_29 : decode cX4_init 29 = .ok (.newarray .int, 2) := by decide +kernel
theorem dX4_init_31 : decode cX4_init 31 = .ok (.dup, 1) := by decide +kernel
theorem dX4_init_32 : decode cX4_init 32 = .ok (.iconst 0, 1) := by decide +kernel
theorem dX4_init_33 : decode cX4_init 33 = .ok (.iconst 1, 1) := by decide +kernel
theorem dX4_init_34 : decode cX4_init 34 = .ok (.iastore, 1) := by decide +kernel
theorem dX4_init_35 : decode cX4_init 35 = .ok (.dup, 1) := by decide +kernel
theorem dX4_init_36 : decode cX4_init 36 = .ok (.iconst 1, 1) := by decide +kernel
theorem dX4_init_37 : decode cX4_init 37 = .ok (.iconst 1, 1) := by decide +kernel
theorem dX4_init_38 : decode cX4_init 38 = .ok (.iastore, 1) := by decide +kernel
theorem dX4_init_39 : decode cX4_init 39 = .ok (.dup, 1) := by decide +kernel
theorem dX4_init_40 : decode cX4_init 40 = .ok (.iconst 2, 1) := by decide +kernel
theorem dX4_init_41 : decode cX4_init 41 = .ok (.iconst 1, 1) := by decide +kernel
theorem dX4_init_42 : decode cX4_init 42 = .ok (.iastore, 1) := by decide +kernel
theorem dX4_init_43 : decode cX4_init 43 = .ok (.dup, 1) := by decide +kernel
theorem dX4_init_44 : decode cX4_init 44 = .ok (.iconst 3, 1) := by decide +kernel
theorem dX4_init_45 : decode cX4_init 45 = .ok (.iconst 1, 1) := by decide +kernel
theorem dX4_init_46 : decode cX4_init 46 = .ok (.iastore, 1) := by decide +kernel
theorem dX4_init_47 : decode cX4_init 47 = .ok (.putfield 15, 3) := by decide +kernel
theorem dX4_init_50 : decode cX4_init 50 = .ok (.aload_n 0, 1) := by decide +kernel
theorem dX4_init_51 : decode cX4_init 51 = .ok (.aload_n 1, 1) := by decide +kernel
theorem dX4_init_52 : decode cX4_init 52 = .ok (.putfield 18, 3) := by decide +kernel
theorem dX4_init_55 : decode cX4_init 55 = .ok (.aload_n 0, 1) := by decide +kernel
theorem dX4_init_56 : decode cX4_init 56 = .ok (.aload_n 2, 1) := by decide +kernel
theorem dX4_init_57 : decode cX4_init 57 = .ok (.putfield 22, 3) := by decide +kernel
theorem dX4_init_60 : decode cX4_init 60 = .ok (.aload_n 0, 1) := by decide +kernel
theorem dX4_init_61 : decode cX4_init 61 = .ok (.aload_n 3, 1) := by decide +kernel
theorem dX4_init_62 : decode cX4_init 62 = .ok (.putfield 26, 3) := by decide +kernel
theorem dX4_init_65 : decode cX4_init 65 = .ok (.return_, 1) := by decide +kernel
theorem dX4_markFoes_0 : decode cX4_markFoes 0 = .ok (.iconst 0, 1) := by decide +kernel
theorem dX4_markFoes_1 : decode cX4_markFoes 1 = .ok (.istore_n 1, 1) := by decide +kernel
theorem dX4_markFoes_2 : decode cX4_markFoes 2 = .ok (.iload_n 1, 1) := by decide +kernel
theorem dX4_markFoes_3 : decode cX4_markFoes 3 = .ok (.aload_n 0, 1) := by decide +kernel
theorem dX4_markFoes_4 : decode cX4_markFoes 4 = .ok (.getfield 22, 3) := by decide +kernel
theorem dX4_markFoes_7 : decode cX4_markFoes 7 = .ok (.getfield 30, 3) := by decide +kernel
theorem dX4_markFoes_10 : decode cX4_markFoes 10 = .ok (.if_icmp .ge 34, 3) := by decide +kernel
theorem dX4_markFoes_13 : decode cX4_markFoes 13 = .ok (.aload_n 0, 1) := by decide +kernel
theorem dX4_markFoes_14 : decode cX4_markFoes 14 = .ok (.getfield 22, 3) := by decide +kernel
theorem dX4_markFoes_17 : decode cX4_markFoes 17 = .ok (.getfield 36, 3) := by decide +kernel
theorem dX4_markFoes_20 : decode cX4_markFoes 20 = .ok (.iload_n 1, 1) := by decide +kernel
theorem dX4_markFoes_21 : decode cX4_markFoes 21 = .ok (.aaload, 1) := by decide +kernel
theorem dX4_markFoes_22 : decode cX4_markFoes 22 = .ok (.aload_n 0, 1) := by decide +kernel
theorem dX4_markFoes_23 : decode cX4_markFoes 23 = .ok (.aload_n 0, 1) := by decide +kernel
theorem dX4_markFoes_24 : decode cX4_markFoes 24 = .ok (.getfield 22, 3) := by decide +kernel
theorem dX4_markFoes_27 : decode cX4_markFoes 27 = .ok (.getfield 36, 3) := by decide +kernel
theorem dX4_markFoes_30 : decode cX4_markFoes 30 = .ok (.iload_n 1, 1) := by decide +kernel
theorem dX4_markFoes_31 : decode cX4_markFoes 31 = .ok (.aaload, 1) := by decide +kernel
theorem dX4_markFoes_32 : decode cX4_markFoes 32 = .ok (.invokevirtual 40, 3) := by decide +kernel
theorem dX4_markFoes_35 : decode cX4_markFoes 35 = .ok (.putfield 44, 3) := by decide +kernel
theorem dX4_markFoes_38 : decode cX4_markFoes 38 = .ok (.iinc 1 1, 3) := by decide +kernel
theorem dX4_markFoes_41 : decode cX4_markFoes 41 = .ok (.goto (-39), 3) := by decide +kernel
theorem dX4_markFoes_44 : decode cX4_markFoes 44 = .ok (.return_, 1) := by decide +kernel
theorem dX4_foesOf_0 : decode cX4_foesOf 0 = .ok (.lconst 0, 1) := by decide +kernel
theorem dX4_foesOf_1 : decode cX4_foesOf 1 = .ok (.lstore_n 2, 1) := by decide +kernel
theorem dX4_foesOf_2 : decode cX4_foesOf 2 = .ok (.iconst 0, 1) := by decide +kernel
theorem dX4_foesOf_3 : decode cX4_foesOf 3 = .ok (.istore 4, 2) := by decide +kernel
theorem dX4_foesOf_5 : decode cX4_foesOf 5 = .ok (.iload 4, 2) := by decide +kernel
theorem dX4_foesOf_7 : decode cX4_foesOf 7 = .ok (.aload_n 0, 1) := by decide +kernel
theorem dX4_foesOf_8 : decode cX4_foesOf 8 = .ok (.getfield 22, 3) := by decide +kernel
theorem dX4_foesOf_11 : decode cX4_foesOf 11 = .ok (.getfield 30, 3) := by decide +kernel
theorem dX4_foesOf_14 : decode cX4_foesOf 14 = .ok (.if_icmp .ge 48, 3) := by decide +kernel
theorem dX4_foesOf_17 : decode cX4_foesOf 17 = .ok (.aload_n 0, 1) := by decide +kernel
theorem dX4_foesOf_18 : decode cX4_foesOf 18 = .ok (.getfield 22, 3) := by decide +kernel
theorem dX4_foesOf_21 : decode cX4_foesOf 21 = .ok (.getfield 36, 3) := by decide +kernel
theorem dX4_foesOf_24 : decode cX4_foesOf 24 = .ok (.iload 4, 2) := by decide +kernel
theorem dX4_foesOf_26 : decode cX4_foesOf 26 = .ok (.aaload, 1) := by decide +kernel
theorem dX4_foesOf_27 : decode cX4_foesOf 27 = .ok (.astore 5, 2) := by decide +kernel
theorem dX4_foesOf_29 : decode cX4_foesOf 29 = .ok (.aload 5, 2) := by decide +kernel
theorem dX4_foesOf_31 : decode cX4_foesOf 31 = .ok (.aload_n 1, 1) := by decide +kernel
theorem dX4_foesOf_32 : decode cX4_foesOf 32 = .ok (.if_acmp .eq 24, 3) := by decide +kernel
theorem dX4_foesOf_35 : decode cX4_foesOf 35 = .ok (.aload_n 0, 1) := by decide +kernel
theorem dX4_foesOf_36 : decode cX4_foesOf 36 = .ok (.getfield 18, 3) := by decide +kernel
theorem dX4_foesOf_39 : decode cX4_foesOf 39 = .ok (.aload_n 1, 1) := by decide +kernel
theorem dX4_foesOf_40 : decode cX4_foesOf 40 = .ok (.aload 5, 2) := by decide +kernel
theorem dX4_foesOf_42 : decode cX4_foesOf 42 = .ok (.invokevirtual 50, 3) := by decide +kernel
theorem dX4_foesOf_45 : decode cX4_foesOf 45 = .ok (.ifCond .eq 11, 3) := by decide +kernel
theorem dX4_foesOf_48 : decode cX4_foesOf 48 = .ok (.lload_n 2, 1) := by decide +kernel
theorem dX4_foesOf_49 : decode cX4_foesOf 49 = .ok (.aload 5, 2) := by decide +kernel
theorem dX4_foesOf_51 : decode cX4_foesOf 51 = .ok (.getfield 56, 3) := by decide +kernel
theorem dX4_foesOf_54 : decode cX4_foesOf 54 = .ok (.lor, 1) := by decide +kernel
theorem dX4_foesOf_55 : decode cX4_foesOf 55 = .ok (.lstore_n 2, 1) := by decide +kernel
theorem dX4_foesOf_56 : decode cX4_foesOf 56 = .ok (.iinc 4 1, 3) := by decide +kernel
theorem dX4_foesOf_59 : decode cX4_foesOf 59 = .ok (.goto (-54), 3) := by decide +kernel
theorem dX4_foesOf_62 : decode cX4_foesOf 62 = .ok (.lload_n 2, 1) := by decide +kernel
theorem dX4_foesOf_63 : decode cX4_foesOf 63 = .ok (.lreturn, 1) := by decide +kernel
theorem dX4_isBroken_0 : decode cX4_isBroken 0 = .ok (.iload_n 2, 1) := by decide +kernel
theorem dX4_isBroken_1 : decode cX4_isBroken 1 = .ok (.tableswitch 89 1 5 #[35, 61, 68, 75, 82], 35) := by decide +kernel
theorem dX4_isBroken_36 : decode cX4_isBroken 36 = .ok (.iload_n 3, 1) := by decide +kernel
theorem dX4_isBroken_37 : decode cX4_isBroken 37 = .ok (.aload_n 1, 1) := by decide +kernel
theorem dX4_isBroken_38 : decode cX4_isBroken 38 = .ok (.getfield 59, 3) := by decide +kernel
theorem dX4_isBroken_41 : decode cX4_isBroken 41 = .ok (.if_icmp .ne 19, 3) := by decide +kernel
theorem dX4_isBroken_44 : decode cX4_isBroken 44 = .ok (.aload_n 0, 1) := by decide +kernel
theorem dX4_isBroken_45 : decode cX4_isBroken 45 = .ok (.getfield 22, 3) := by decide +kernel
theorem dX4_isBroken_48 : decode cX4_isBroken 48 = .ok (.aload_n 1, 1) := by decide +kernel
theorem dX4_isBroken_49 : decode cX4_isBroken 49 = .ok (.invokevirtual 62, 3) := by decide +kernel
theorem dX4_isBroken_52 : decode cX4_isBroken 52 = .ok (.iload_n 3, 1) := by decide +kernel
theorem dX4_isBroken_53 : decode cX4_isBroken 53 = .ok (.if_icmp .le 7, 3) := by decide +kernel
theorem dX4_isBroken_56 : decode cX4_isBroken 56 = .ok (.iconst 1, 1) := by decide +kernel
theorem dX4_isBroken_57 : decode cX4_isBroken 57 = .ok (.goto 4, 3) := by decide +kernel
theorem dX4_isBroken_60 : decode cX4_isBroken 60 = .ok (.iconst 0, 1) := by decide +kernel
theorem dX4_isBroken_61 : decode cX4_isBroken 61 = .ok (.ireturn, 1) := by decide +kernel
theorem dX4_isBroken_62 : decode cX4_isBroken 62 = .ok (.aload_n 0, 1) := by decide +kernel
theorem dX4_isBroken_63 : decode cX4_isBroken 63 = .ok (.aload_n 1, 1) := by decide +kernel
theorem dX4_isBroken_64 : decode cX4_isBroken 64 = .ok (.iload_n 3, 1) := by decide +kernel
theorem dX4_isBroken_65 : decode cX4_isBroken 65 = .ok (.invokevirtual 66, 3) := by decide +kernel
theorem dX4_isBroken_68 : decode cX4_isBroken 68 = .ok (.ireturn, 1) := by decide +kernel
theorem dX4_isBroken_69 : decode cX4_isBroken 69 = .ok (.aload_n 0, 1) := by decide +kernel
theorem dX4_isBroken_70 : decode cX4_isBroken 70 = .ok (.aload_n 1, 1) := by decide +kernel
theorem dX4_isBroken_71 : decode cX4_isBroken 71 = .ok (.iload_n 3, 1) := by decide +kernel
theorem dX4_isBroken_72 : decode cX4_isBroken 72 = .ok (.invokevirtual 70, 3) := by decide +kernel
theorem dX4_isBroken_75 : decode cX4_isBroken 75 = .ok (.ireturn, 1) := by decide +kernel
theorem dX4_isBroken_76 : decode cX4_isBroken 76 = .ok (.aload_n 0, 1) := by decide +kernel
theorem dX4_isBroken_77 : decode cX4_isBroken 77 = .ok (.aload_n 1, 1) := by decide +kernel
theorem dX4_isBroken_78 : decode cX4_isBroken 78 = .ok (.iload_n 3, 1) := by decide +kernel
theorem dX4_isBroken_79 : decode cX4_isBroken 79 = .ok (.invokevirtual 73, 3) := by decide +kernel
theorem dX4_isBroken_82 : decode cX4_isBroken 82 = .ok (.ireturn, 1) := by decide +kernel
theorem dX4_isBroken_83 : decode cX4_isBroken 83 = .ok (.aload_n 0, 1) := by decide +kernel
theorem dX4_isBroken_84 : decode cX4_isBroken 84 = .ok (.aload_n 1, 1) := by decide +kernel
theorem dX4_isBroken_85 : decode cX4_isBroken 85 = .ok (.iload_n 3, 1) := by decide +kernel
theorem dX4_isBroken_86 : decode cX4_isBroken 86 = .ok (.invokevirtual 76, 3) := by decide +kernel
theorem dX4_isBroken_89 : decode cX4_isBroken 89 = .ok (.ireturn, 1) := by decide +kernel
theorem dX4_isBroken_90 : decode cX4_isBroken 90 = .ok (.iconst 0, 1) := by decide +kernel
theorem dX4_isBroken_91 : decode cX4_isBroken 91 = .ok (.ireturn, 1) := by decide +kernel
theorem dX4_lacksHands_0 : decode cX4_lacksHands 0 = .ok (.aload_n 0, 1) := by decide +kernel
theorem dX4_lacksHands_1 : decode cX4_lacksHands 1 = .ok (.getfield 26, 3) := by decide +kernel
theorem dX4_lacksHands_4 : decode cX4_lacksHands 4 = .ok (.getfield 79, 3) := by decide +kernel
theorem dX4_lacksHands_7 : decode cX4_lacksHands 7 = .ok (.aload_n 1, 1) := by decide +kernel
theorem dX4_lacksHands_8 : decode cX4_lacksHands 8 = .ok (.getfield 85, 3) := by decide +kernel
theorem dX4_lacksHands_11 : decode cX4_lacksHands 11 = .ok (.aaload, 1) := by decide +kernel
theorem dX4_lacksHands_12 : decode cX4_lacksHands 12 = .ok (.iload_n 2, 1) := by decide +kernel
theorem dX4_lacksHands_13 : decode cX4_lacksHands 13 = .ok (.iaload, 1) := by decide +kernel
theorem dX4_lacksHands_14 : decode cX4_lacksHands 14 = .ok (.istore_n 3, 1) := by decide +kernel
theorem dX4_lacksHands_15 : decode cX4_lacksHands 15 = .ok (.aload_n 0, 1) := by decide +kernel
theorem dX4_lacksHands_16 : decode cX4_lacksHands 16 = .ok (.getfield 26, 3) := by decide +kernel
theorem dX4_lacksHands_19 : decode cX4_lacksHands 19 = .ok (.getfield 88, 3) := by decide +kernel
theorem dX4_lacksHands_22 : decode cX4_lacksHands 22 = .ok (.iload_n 2, 1) := by decide +kernel
theorem dX4_lacksHands_23 : decode cX4_lacksHands 23 = .ok (.laload, 1) := by decide +kernel
theorem dX4_lacksHands_24 : decode cX4_lacksHands 24 = .ok (.aload_n 1, 1) := by decide +kernel
theorem dX4_lacksHands_25 : decode cX4_lacksHands 25 = .ok (.getfield 56, 3) := by decide +kernel
theorem dX4_lacksHands_28 : decode cX4_lacksHands 28 = .ok (.land, 1) := by decide +kernel
theorem dX4_lacksHands_29 : decode cX4_lacksHands 29 = .ok (.lconst 0, 1) := by decide +kernel
theorem dX4_lacksHands_30 : decode cX4_lacksHands 30 = .ok (.lcmp, 1) := by decide +kernel
theorem dX4_lacksHands_31 : decode cX4_lacksHands 31 = .ok (.ifCond .eq 7, 3) := by decide +kernel
theorem dX4_lacksHands_34 : decode cX4_lacksHands 34 = .ok (.iconst 1, 1) := by decide +kernel
theorem dX4_lacksHands_35 : decode cX4_lacksHands 35 = .ok (.goto 4, 3) := by decide +kernel
theorem dX4_lacksHands_38 : decode cX4_lacksHands 38 = .ok (.iconst 0, 1) := by decide +kernel
theorem dX4_lacksHands_39 : decode cX4_lacksHands 39 = .ok (.istore 4, 2) := by decide +kernel
theorem dX4_lacksHands_41 : decode cX4_lacksHands 41 = .ok (.iload 4, 2) := by decide +kernel
theorem dX4_lacksHands_43 : decode cX4_lacksHands 43 = .ok (.ifCond .eq 7, 3) := by decide +kernel
theorem dX4_lacksHands_46 : decode cX4_lacksHands 46 = .ok (.iload_n 3, 1) := by decide +kernel
theorem dX4_lacksHands_47 : decode cX4_lacksHands 47 = .ok (.goto 9, 3) := by decide +kernel
theorem dX4_lacksHands_50 : decode cX4_lacksHands 50 = .ok (.iload_n 3, 1) := by decide +kernel
theorem dX4_lacksHands_51 : decode cX4_lacksHands 51 = .ok (.aload_n 1, 1) := by decide +kernel
theorem dX4_lacksHands_52 : decode cX4_lacksHands 52 = .ok (.getfield 92, 3) := by decide +kernel
theorem dX4_lacksHands_55 : decode cX4_lacksHands 55 = .ok (.iadd, 1) := by decide +kernel
theorem dX4_lacksHands_56 : decode cX4_lacksHands 56 = .ok (.aload_n 0, 1) := by decide +kernel
theorem dX4_lacksHands_57 : decode cX4_lacksHands 57 = .ok (.getfield 9, 3) := by decide +kernel
theorem dX4_lacksHands_60 : decode cX4_lacksHands 60 = .ok (.aload_n 1, 1) := by decide +kernel
theorem dX4_lacksHands_61 : decode cX4_lacksHands 61 = .ok (.getfield 85, 3) := by decide +kernel
theorem dX4_lacksHands_64 : decode cX4_lacksHands 64 = .ok (.iaload, 1) := by decide +kernel
theorem dX4_lacksHands_65 : decode cX4_lacksHands 65 = .ok (.if_icmp .le 7, 3) := by decide +kernel
theorem dX4_lacksHands_68 : decode cX4_lacksHands 68 = .ok (.iconst 1, 1) := by decide +kernel
theorem dX4_lacksHands_69 : decode cX4_lacksHands 69 = .ok (.goto 4, 3) := by decide +kernel
theorem dX4_lacksHands_72 : decode cX4_lacksHands 72 = .ok (.iconst 0, 1) := by decide +kernel
theorem dX4_lacksHands_73 : decode cX4_lacksHands 73 = .ok (.ireturn, 1) := by decide +kernel
theorem dX4_lacksGood_0 : decode cX4_lacksGood 0 = .ok (.aload_n 1, 1) := by decide +kernel
theorem dX4_lacksGood_1 : decode cX4_lacksGood 1 = .ok (.getfield 94, 3) := by decide +kernel
theorem dX4_lacksGood_4 : decode cX4_lacksGood 4 = .ok (.iconst (-1), 1) := by decide +kernel
theorem dX4_lacksGood_5 : decode cX4_lacksGood 5 = .ok (.if_icmp .ne 5, 3) := by decide +kernel
theorem dX4_lacksGood_8 : decode cX4_lacksGood 8 = .ok (.iconst 0, 1) := by decide +kernel
theorem dX4_lacksGood_9 : decode cX4_lacksGood 9 = .ok (.ireturn, 1) := by decide +kernel
theorem dX4_lacksGood_10 : decode cX4_lacksGood 10 = .ok (.aload_n 0, 1) := by decide +kernel
theorem dX4_lacksGood_11 : decode cX4_lacksGood 11 = .ok (.getfield 26, 3) := by decide +kernel
theorem dX4_lacksGood_14 : decode cX4_lacksGood 14 = .ok (.getfield 88, 3) := by decide +kernel
theorem dX4_lacksGood_17 : decode cX4_lacksGood 17 = .ok (.iload_n 2, 1) := by decide +kernel
theorem dX4_lacksGood_18 : decode cX4_lacksGood 18 = .ok (.laload, 1) := by decide +kernel
theorem dX4_lacksGood_19 : decode cX4_lacksGood 19 = .ok (.aload_n 1, 1) := by decide +kernel
theorem dX4_lacksGood_20 : decode cX4_lacksGood 20 = .ok (.getfield 56, 3) := by decide +kernel
theorem dX4_lacksGood_23 : decode cX4_lacksGood 23 = .ok (.lor, 1) := by decide +kernel
theorem dX4_lacksGood_24 : decode cX4_lacksGood 24 = .ok (.aload_n 0, 1) := by decide +kernel
theorem dX4_lacksGood_25 : decode cX4_lacksGood 25 = .ok (.getfield 22, 3) := by decide +kernel
theorem dX4_lacksGood_28 : decode cX4_lacksGood 28 = .ok (.getfield 97, 3) := by decide +kernel
theorem dX4_lacksGood_31 : decode cX4_lacksGood 31 = .ok (.aload_n 1, 1) := by decide +kernel
theorem dX4_lacksGood_32 : decode cX4_lacksGood 32 = .ok (.getfield 94, 3) := by decide +kernel
theorem dX4_lacksGood_35 : decode cX4_lacksGood 35 = .ok (.laload, 1) := by decide +kernel
theorem dX4_lacksGood_36 : decode cX4_lacksGood 36 = .ok (.land, 1) := by decide +kernel
theorem dX4_lacksGood_37 : decode cX4_lacksGood 37 = .ok (.lstore_n 3, 1) := by decide +kernel
theorem dX4_lacksGood_38 : decode cX4_lacksGood 38 = .ok (.lload_n 3, 1) := by decide +kernel
theorem dX4_lacksGood_39 : decode cX4_lacksGood 39 = .ok (.invokestatic 100, 3) := by decide +kernel
theorem dX4_lacksGood_42 : decode cX4_lacksGood 42 = .ok (.aload_n 0, 1) := by decide +kernel
theorem dX4_lacksGood_43 : decode cX4_lacksGood 43 = .ok (.getfield 15, 3) := by decide +kernel
theorem dX4_lacksGood_46 : decode cX4_lacksGood 46 = .ok (.aload_n 1, 1) := by decide +kernel
theorem dX4_lacksGood_47 : decode cX4_lacksGood 47 = .ok (.getfield 94, 3) := by decide +kernel
theorem dX4_lacksGood_50 : decode cX4_lacksGood 50 = .ok (.iaload, 1) := by decide +kernel
theorem dX4_lacksGood_51 : decode cX4_lacksGood 51 = .ok (.if_icmp .le 7, 3) := by decide +kernel
theorem dX4_lacksGood_54 : decode cX4_lacksGood 54 = .ok (.iconst 1, 1) := by decide +kernel
theorem dX4_lacksGood_55 : decode cX4_lacksGood 55 = .ok (.goto 4, 3) := by decide +kernel
theorem dX4_lacksGood_58 : decode cX4_lacksGood 58 = .ok (.iconst 0, 1) := by decide +kernel
theorem dX4_lacksGood_59 : decode cX4_lacksGood 59 = .ok (.ireturn, 1) := by decide +kernel
theorem dX4_lacksRoom_0 : decode cX4_lacksRoom 0 = .ok (.aload_n 0, 1) := by decide +kernel
theorem dX4_lacksRoom_1 : decode cX4_lacksRoom 1 = .ok (.getfield 26, 3) := by decide +kernel
theorem dX4_lacksRoom_4 : decode cX4_lacksRoom 4 = .ok (.getfield 88, 3) := by decide +kernel
theorem dX4_lacksRoom_7 : decode cX4_lacksRoom 7 = .ok (.iload_n 2, 1) := by decide +kernel
theorem dX4_lacksRoom_8 : decode cX4_lacksRoom 8 = .ok (.laload, 1) := by decide +kernel
theorem dX4_lacksRoom_9 : decode cX4_lacksRoom 9 = .ok (.aload_n 1, 1) := by decide +kernel
theorem dX4_lacksRoom_10 : decode cX4_lacksRoom 10 = .ok (.getfield 56, 3) := by decide +kernel
theorem dX4_lacksRoom_13 : decode cX4_lacksRoom 13 = .ok (.lor, 1) := by decide +kernel
theorem dX4_lacksRoom_14 : decode cX4_lacksRoom 14 = .ok (.aload_n 0, 1) := by decide +kernel
theorem dX4_lacksRoom_15 : decode cX4_lacksRoom 15 = .ok (.getfield 22, 3) := by decide +kernel
theorem dX4_lacksRoom_18 : decode cX4_lacksRoom 18 = .ok (.getfield 106, 3) := by decide +kernel
theorem dX4_lacksRoom_21 : decode cX4_lacksRoom 21 = .ok (.aload_n 1, 1) := by decide +kernel
theorem dX4_lacksRoom_22 : decode cX4_lacksRoom 22 = .ok (.getfield 109, 3) := by decide +kernel
theorem dX4_lacksRoom_25 : decode cX4_lacksRoom 25 = .ok (.laload, 1) := by decide +kernel
theorem dX4_lacksRoom_26 : decode cX4_lacksRoom 26 = .ok (.land, 1) := by decide +kernel
theorem dX4_lacksRoom_27 : decode cX4_lacksRoom 27 = .ok (.lstore_n 3, 1) := by decide +kernel
theorem dX4_lacksRoom_28 : decode cX4_lacksRoom 28 = .ok (.lload_n 3, 1) := by decide +kernel
theorem dX4_lacksRoom_29 : decode cX4_lacksRoom 29 = .ok (.invokestatic 100, 3) := by decide +kernel
theorem dX4_lacksRoom_32 : decode cX4_lacksRoom 32 = .ok (.aload_n 0, 1) := by decide +kernel
theorem dX4_lacksRoom_33 : decode cX4_lacksRoom 33 = .ok (.getfield 18, 3) := by decide +kernel
theorem dX4_lacksRoom_36 : decode cX4_lacksRoom 36 = .ok (.getfield 112, 3) := by decide +kernel
theorem dX4_lacksRoom_39 : decode cX4_lacksRoom 39 = .ok (.aload_n 1, 1) := by decide +kernel
theorem dX4_lacksRoom_40 : decode cX4_lacksRoom 40 = .ok (.getfield 109, 3) := by decide +kernel
theorem dX4_lacksRoom_43 : decode cX4_lacksRoom 43 = .ok (.iaload, 1) := by decide +kernel
theorem dX4_lacksRoom_44 : decode cX4_lacksRoom 44 = .ok (.if_icmp .le 7, 3) := by decide +kernel
theorem dX4_lacksRoom_47 : decode cX4_lacksRoom 47 = .ok (.iconst 1, 1) := by decide +kernel
theorem dX4_lacksRoom_48 : decode cX4_lacksRoom 48 = .ok (.goto 4, 3) := by decide +kernel
theorem dX4_lacksRoom_51 : decode cX4_lacksRoom 51 = .ok (.iconst 0, 1) := by decide +kernel
theorem dX4_lacksRoom_52 : decode cX4_lacksRoom 52 = .ok (.ireturn, 1) := by decide +kernel
theorem dX4_meetsFoe_0 : decode cX4_meetsFoe 0 = .ok (.aload_n 0, 1) := by decide +kernel
theorem dX4_meetsFoe_1 : decode cX4_meetsFoe 1 = .ok (.getfield 26, 3) := by decide +kernel
theorem dX4_meetsFoe_4 : decode cX4_meetsFoe 4 = .ok (.getfield 88, 3) := by decide +kernel
theorem dX4_meetsFoe_7 : decode cX4_meetsFoe 7 = .ok (.iload_n 2, 1) := by decide +kernel
theorem dX4_meetsFoe_8 : decode cX4_meetsFoe 8 = .ok (.laload, 1) := by decide +kernel
theorem dX4_meetsFoe_9 : decode cX4_meetsFoe 9 = .ok (.aload_n 1, 1) := by decide +kernel
theorem dX4_meetsFoe_10 : decode cX4_meetsFoe 10 = .ok (.getfield 44, 3) := by decide +kernel
theorem dX4_meetsFoe_13 : decode cX4_meetsFoe 13 = .ok (.land, 1) := by decide +kernel
theorem dX4_meetsFoe_14 : decode cX4_meetsFoe 14 = .ok (.lconst 0, 1) := by decide +kernel
theorem dX4_meetsFoe_15 : decode cX4_meetsFoe 15 = .ok (.lcmp, 1) := by decide +kernel
theorem dX4_meetsFoe_16 : decode cX4_meetsFoe 16 = .ok (.ifCond .eq 7, 3) := by decide +kernel
theorem dX4_meetsFoe_19 : decode cX4_meetsFoe 19 = .ok (.iconst 1, 1) := by decide +kernel
theorem dX4_meetsFoe_20 : decode cX4_meetsFoe 20 = .ok (.goto 4, 3) := by decide +kernel
theorem dX4_meetsFoe_23 : decode cX4_meetsFoe 23 = .ok (.iconst 0, 1) := by decide +kernel
theorem dX4_meetsFoe_24 : decode cX4_meetsFoe 24 = .ok (.ireturn, 1) := by decide +kernel
theorem dX4_isFree_0 : decode cX4_isFree 0 = .ok (.aload_n 0, 1) := by decide +kernel
theorem dX4_isFree_1 : decode cX4_isFree 1 = .ok (.aload_n 1, 1) := by decide +kernel
theorem dX4_isFree_2 : decode cX4_isFree 2 = .ok (.iload_n 2, 1) := by decide +kernel
theorem dX4_isFree_3 : decode cX4_isFree 3 = .ok (.invokevirtual 66, 3) := by decide +kernel
theorem dX4_isFree_6 : decode cX4_isFree 6 = .ok (.ifCond .ne 34, 3) := by decide +kernel
theorem dX4_isFree_9 : decode cX4_isFree 9 = .ok (.aload_n 0, 1) := by decide +kernel
theorem dX4_isFree_10 : decode cX4_isFree 10 = .ok (.aload_n 1, 1) := by decide +kernel
theorem dX4_isFree_11 : decode cX4_isFree 11 = .ok (.iload_n 2, 1) := by decide +kernel
theorem dX4_isFree_12 : decode cX4_isFree 12 = .ok (.invokevirtual 70, 3) := by decide +kernel
theorem dX4_isFree_15 : decode cX4_isFree 15 = .ok (.ifCond .ne 25, 3) := by decide +kernel
theorem dX4_isFree_18 : decode cX4_isFree 18 = .ok (.aload_n 0, 1) := by decide +kernel
theorem dX4_isFree_19 : decode cX4_isFree 19 = .ok (.aload_n 1, 1) := by decide +kernel
theorem dX4_isFree_20 : decode cX4_isFree 20 = .ok (.iload_n 2, 1) := by decide +kernel
theorem dX4_isFree_21 : decode cX4_isFree 21 = .ok (.invokevirtual 73, 3) := by decide +kernel
theorem dX4_isFree_24 : decode cX4_isFree 24 = .ok (.ifCond .ne 16, 3) := by decide +kernel
theorem dX4_isFree_27 : decode cX4_isFree 27 = .ok (.aload_n 0, 1) := by decide +kernel
theorem dX4_isFree_28 : decode cX4_isFree 28 = .ok (.aload_n 1, 1) := by decide +kernel
theorem dX4_isFree_29 : decode cX4_isFree 29 = .ok (.iload_n 2, 1) := by decide +kernel
theorem dX4_isFree_30 : decode cX4_isFree 30 = .ok (.invokevirtual 76, 3) := by decide +kernel
theorem dX4_isFree_33 : decode cX4_isFree 33 = .ok (.ifCond .ne 7, 3) := by decide +kernel
theorem dX4_isFree_36 : decode cX4_isFree 36 = .ok (.iconst 1, 1) := by decide +kernel
theorem dX4_isFree_37 : decode cX4_isFree 37 = .ok (.goto 4, 3) := by decide +kernel
theorem dX4_isFree_40 : decode cX4_isFree 40 = .ok (.iconst 0, 1) := by decide +kernel
theorem dX4_isFree_41 : decode cX4_isFree 41 = .ok (.ireturn, 1) := by decide +kernel
theorem dX4_leastBroken_0 : decode cX4_leastBroken 0 = .ok (.iconst 1, 1) := by decide +kernel
theorem dX4_leastBroken_1 : decode cX4_leastBroken 1 = .ok (.istore_n 2, 1) := by decide +kernel
theorem dX4_leastBroken_2 : decode cX4_leastBroken 2 = .ok (.iload_n 2, 1) := by decide +kernel
theorem dX4_leastBroken_3 : decode cX4_leastBroken 3 = .ok (.iconst 5, 1) := by decide +kernel
theorem dX4_leastBroken_4 : decode cX4_leastBroken 4 = .ok (.if_icmp .gt 21, 3) := by decide +kernel
theorem dX4_leastBroken_7 : decode cX4_leastBroken 7 = .ok (.aload_n 0, 1) := by decide +kernel
theorem dX4_leastBroken_8 : decode cX4_leastBroken 8 = .ok (.aload_n 1, 1) := by decide +kernel
theorem dX4_leastBroken_9 : decode cX4_leastBroken 9 = .ok (.iload_n 2, 1) := by decide +kernel
theorem dX4_leastBroken_10 : decode cX4_leastBroken 10 = .ok (.invokevirtual 115, 3) := by decide +kernel
theorem dX4_leastBroken_13 : decode cX4_leastBroken 13 = .ok (.iconst (-1), 1) := by decide +kernel
theorem dX4_leastBroken_14 : decode cX4_leastBroken 14 = .ok (.if_icmp .eq 5, 3) := by decide +kernel
theorem dX4_leastBroken_17 : decode cX4_leastBroken 17 = .ok (.iload_n 2, 1) := by decide +kernel
theorem dX4_leastBroken_18 : decode cX4_leastBroken 18 = .ok (.ireturn, 1) := by decide +kernel
theorem dX4_leastBroken_19 : decode cX4_leastBroken 19 = .ok (.iinc 2 1, 3) := by decide +kernel
theorem dX4_leastBroken_22 : decode cX4_leastBroken 22 = .ok (.goto (-20), 3) := by decide +kernel
theorem dX4_leastBroken_25 : decode cX4_leastBroken 25 = .ok (.iconst (-1), 1) := by decide +kernel
theorem dX4_leastBroken_26 : decode cX4_leastBroken 26 = .ok (.ireturn, 1) := by decide +kernel
theorem dX4_leastShift_0 : decode cX4_leastShift 0 = .ok (.aload_n 1, 1) := by decide +kernel
theorem dX4_leastShift_1 : decode cX4_leastShift 1 = .ok (.invokevirtual 119, 3) := by decide +kernel
theorem dX4_leastShift_4 : decode cX4_leastShift 4 = .ok (.ifCond .eq 5, 3) := by decide +kernel
theorem dX4_leastShift_7 : decode cX4_leastShift 7 = .ok (.iconst (-1), 1) := by decide +kernel
theorem dX4_leastShift_8 : decode cX4_leastShift 8 = .ok (.ireturn, 1) := by decide +kernel
theorem dX4_leastShift_9 : decode cX4_leastShift 9 = .ok (.aload_n 1, 1) := by decide +kernel
theorem dX4_leastShift_10 : decode cX4_leastShift 10 = .ok (.getfield 59, 3) := by decide +kernel
theorem dX4_leastShift_13 : decode cX4_leastShift 13 = .ok (.istore_n 3, 1) := by decide +kernel
theorem dX4_leastShift_14 : decode cX4_leastShift 14 = .ok (.iload_n 3, 1) := by decide +kernel
theorem dX4_leastShift_15 : decode cX4_leastShift 15 = .ok (.aload_n 1, 1) := by decide +kernel
theorem dX4_leastShift_16 : decode cX4_leastShift 16 = .ok (.invokevirtual 123, 3) := by decide +kernel
theorem dX4_leastShift_19 : decode cX4_leastShift 19 = .ok (.if_icmp .ge 21, 3) := by decide +kernel
theorem dX4_leastShift_22 : decode cX4_leastShift 22 = .ok (.aload_n 0, 1) := by decide +kernel
theorem dX4_leastShift_23 : decode cX4_leastShift 23 = .ok (.aload_n 1, 1) := by decide +kernel
theorem dX4_leastShift_24 : decode cX4_leastShift 24 = .ok (.iload_n 2, 1) := by decide +kernel
theorem dX4_leastShift_25 : decode cX4_leastShift 25 = .ok (.iload_n 3, 1) := by decide +kernel
theorem dX4_leastShift_26 : decode cX4_leastShift 26 = .ok (.invokevirtual 127, 3) := by decide +kernel
theorem dX4_leastShift_29 : decode cX4_leastShift 29 = .ok (.ifCond .eq 5, 3) := by decide +kernel
theorem dX4_leastShift_32 : decode cX4_leastShift 32 = .ok (.iload_n 3, 1) := by decide +kernel
theorem dX4_leastShift_33 : decode cX4_leastShift 33 = .ok (.ireturn, 1) := by decide +kernel
theorem dX4_leastShift_34 : decode cX4_leastShift 34 = .ok (.iinc 3 1, 3) := by decide +kernel
theorem dX4_leastShift_37 : decode cX4_leastShift 37 = .ok (.goto (-23), 3) := by decide +kernel
theorem dX4_leastShift_40 : decode cX4_leastShift 40 = .ok (.iconst (-1), 1) := by decide +kernel
theorem dX4_leastShift_41 : decode cX4_leastShift 41 = .ok (.ireturn, 1) := by decide +kernel
theorem dX4_firstPlace_0 : decode cX4_firstPlace 0 = .ok (.aload_n 0, 1) := by decide +kernel
theorem dX4_firstPlace_1 : decode cX4_firstPlace 1 = .ok (.getfield 22, 3) := by decide +kernel
theorem dX4_firstPlace_4 : decode cX4_firstPlace 4 = .ok (.aload_n 1, 1) := by decide +kernel
theorem dX4_firstPlace_5 : decode cX4_firstPlace 5 = .ok (.invokevirtual 131, 3) := by decide +kernel
theorem dX4_firstPlace_8 : decode cX4_firstPlace 8 = .ok (.istore_n 3, 1) := by decide +kernel
theorem dX4_firstPlace_9 : decode cX4_firstPlace 9 = .ok (.iconst 0, 1) := by decide +kernel
theorem dX4_firstPlace_10 : decode cX4_firstPlace 10 = .ok (.istore 4, 2) := by decide +kernel
theorem dX4_firstPlace_12 : decode cX4_firstPlace 12 = .ok (.iload_n 2, 1) := by decide +kernel
theorem dX4_firstPlace_13 : decode cX4_firstPlace 13 = .ok (.aload_n 0, 1) := by decide +kernel
theorem dX4_firstPlace_14 : decode cX4_firstPlace 14 = .ok (.getfield 26, 3) := by decide +kernel
theorem dX4_firstPlace_17 : decode cX4_firstPlace 17 = .ok (.getfield 134, 3) := by decide +kernel
theorem dX4_firstPlace_20 : decode cX4_firstPlace 20 = .ok (.invokestatic 137, 3) := by decide +kernel
theorem dX4_firstPlace_23 : decode cX4_firstPlace 23 = .ok (.aload_n 0, 1) := by decide +kernel
theorem dX4_firstPlace_24 : decode cX4_firstPlace 24 = .ok (.getfield 22, 3) := by decide +kernel
theorem dX4_firstPlace_27 : decode cX4_firstPlace 27 = .ok (.aload_n 1, 1) := by decide +kernel
theorem dX4_firstPlace_28 : decode cX4_firstPlace 28 = .ok (.invokevirtual 62, 3) := by decide +kernel
theorem dX4_firstPlace_31 : decode cX4_firstPlace 31 = .ok (.invokestatic 137, 3) := by decide +kernel
theorem dX4_firstPlace_34 : decode cX4_firstPlace 34 = .ok (.istore 5, 2) := by decide +kernel
theorem dX4_firstPlace_36 : decode cX4_firstPlace 36 = .ok (.iload 5, 2) := by decide +kernel
theorem dX4_firstPlace_38 : decode cX4_firstPlace 38 = .ok (.iload_n 3, 1) := by decide +kernel
theorem dX4_firstPlace_39 : decode cX4_firstPlace 39 = .ok (.if_icmp .ge 48, 3) := by decide +kernel
theorem dX4_firstPlace_42 : decode cX4_firstPlace 42 = .ok (.aload_n 0, 1) := by decide +kernel
theorem dX4_firstPlace_43 : decode cX4_firstPlace 43 = .ok (.aload_n 1, 1) := by decide +kernel
theorem dX4_firstPlace_44 : decode cX4_firstPlace 44 = .ok (.iload 5, 2) := by decide +kernel
theorem dX4_firstPlace_46 : decode cX4_firstPlace 46 = .ok (.invokevirtual 143, 3) := by decide +kernel
theorem dX4_firstPlace_49 : decode cX4_firstPlace 49 = .ok (.ifCond .eq 10, 3) := by decide +kernel
theorem dX4_firstPlace_52 : decode cX4_firstPlace 52 = .ok (.iload 4, 2) := by decide +kernel
theorem dX4_firstPlace_54 : decode cX4_firstPlace 54 = .ok (.iconst 1, 1) := by decide +kernel
theorem dX4_firstPlace_55 : decode cX4_firstPlace 55 = .ok (.iadd, 1) := by decide +kernel
theorem dX4_firstPlace_56 : decode cX4_firstPlace 56 = .ok (.goto 4, 3) := by decide +kernel
