set_option maxRecDepth 20000 in
theorem kw_204 : Cond.methodLink "RefitYardLaw" (13 : Nat) ⟨"RefitYard", "space", "(I)I"⟩ ∈ zT := zT_of 204 rfl rfl
set_option maxRecDepth 20000 in
theorem kw_205 : Cond.instanceMethod ⟨"RefitYard", "space", "(I)I"⟩ ∈ zT := zT_of 205 rfl rfl
set_option maxRecDepth 20000 in
theorem kw_206 : Cond.selects "RefitYard" ⟨"RefitYard", "space", "(I)I"⟩ ⟨"RefitYard", "space", "(I)I"⟩ ∈ zT := zT_of 206 rfl rfl
theorem mv_L_13 : zMV RL 13 mX6_space 1 7 5 := ⟨mmX6_space, ⟨kw_204, kw_205, kw_206⟩, TX6, rfl, by decide, by decide⟩
set_option maxRecDepth 20000 in
theorem kw_761 : Cond.methodLink "RefitYardLaw" (17 : Nat) ⟨"RefitYardModel", "space", "(I)I"⟩ ∈ zT := zT_of 761 rfl rfl
set_option maxRecDepth 20000 in
theorem kw_762 : Cond.instanceMethod ⟨"RefitYardModel", "space", "(I)I"⟩ ∈ zT := zT_of 762 rfl rfl
set_option maxRecDepth 20000 in
theorem kw_763 : Cond.selects "RefitYardModel" ⟨"RefitYardModel", "space", "(I)I"⟩ ⟨"RefitYardModel", "space", "(I)I"⟩ ∈ zT := zT_of 763 rfl rfl
theorem mv_L_17 : zMV RL 17 mX7_space 1 8 25 := ⟨mmX7_space, ⟨kw_761, kw_762, kw_763⟩, TX7, rfl, by decide, by decide⟩
set_option maxRecDepth 20000 in
theorem kw_212 : Cond.methodLink "RefitYardLaw" (18 : Nat) ⟨"RefitYard", "near", "(II)Z"⟩ ∈ zT := zT_of 212 rfl rfl
set_option maxRecDepth 20000 in
theorem kw_213 : Cond.instanceMethod ⟨"RefitYard", "near", "(II)Z"⟩ ∈ zT := zT_of 213 rfl rfl
set_option maxRecDepth 20000 in
theorem kw_214 : Cond.selects "RefitYard" ⟨"RefitYard", "near", "(II)Z"⟩ ⟨"RefitYard", "near", "(II)Z"⟩ ∈ zT := zT_of 214 rfl rfl
theorem mv_L_18 : zMV RL 18 mX6_near 2 7 5 := ⟨mmX6_near, ⟨kw_212, kw_213, kw_214⟩, TX6, rfl, by decide, by decide⟩
set_option maxRecDepth 20000 in
theorem kw_768 : Cond.methodLink "RefitYardLaw" (22 : Nat) ⟨"RefitYardModel", "near", "(II)Z"⟩ ∈ zT := zT_of 768 rfl rfl
set_option maxRecDepth 20000 in
theorem kw_769 : Cond.instanceMethod ⟨"RefitYardModel", "near", "(II)Z"⟩ ∈ zT := zT_of 769 rfl rfl
set_option maxRecDepth 20000 in
theorem kw_770 : Cond.selects "RefitYardModel" ⟨"RefitYardModel", "near", "(II)Z"⟩ ⟨"RefitYardModel", "near", "(II)Z"⟩ ∈ zT := zT_of 770 rfl rfl
theorem mv_L_22 : zMV RL 22 mX7_near 2 8 25 := ⟨mmX7_near, ⟨kw_768, kw_769, kw_770⟩, TX7, rfl, by decide, by decide⟩
set_option maxRecDepth 20000 in
theorem kw_245 : Cond.methodLink "RefitYardLaw" (23 : Nat) ⟨"RefitYard", "gang", "(II)Z"⟩ ∈ zT := zT_of 245 rfl rfl
set_option maxRecDepth 20000 in
theorem kw_246 : Cond.instanceMethod ⟨"RefitYard", "gang", "(II)Z"⟩ ∈ zT := zT_of 246 rfl rfl
set_option maxRecDepth 20000 in
theorem kw_247 : Cond.selects "RefitYard" ⟨"RefitYard", "gang", "(II)Z"⟩ ⟨"RefitYard", "gang", "(II)Z"⟩ ∈ zT := zT_of 247 rfl rfl
theorem mv_L_23 : zMV RL 23 mX6_gang 2 7 5 := ⟨mmX6_gang, ⟨kw_245, kw_246, kw_247⟩, TX6, rfl, by decide, by decide⟩
set_option maxRecDepth 20000 in
theorem kw_772 : Cond.methodLink "RefitYardLaw" (26 : Nat) ⟨"RefitYardModel", "gang", "(II)Z"⟩ ∈ zT := zT_of 772 rfl rfl
set_option maxRecDepth 20000 in
theorem kw_773 : Cond.instanceMethod ⟨"RefitYardModel", "gang", "(II)Z"⟩ ∈ zT := zT_of 773 rfl rfl
set_option maxRecDepth 20000 in
theorem kw_774 : Cond.selects "RefitYardModel" ⟨"RefitYardModel", "gang", "(II)Z"⟩ ⟨"RefitYardModel", "gang", "(II)Z"⟩ ∈ zT := zT_of 774 rfl rfl
theorem mv_L_26 : zMV RL 26 mX7_gang 2 8 25 := ⟨mmX7_gang, ⟨kw_772, kw_773, kw_774⟩, TX7, rfl, by decide, by decide⟩
set_option maxRecDepth 20000 in
theorem kw_252 : Cond.methodLink "RefitYardLaw" (27 : Nat) ⟨"RefitYard", "good", "(II)Z"⟩ ∈ zT := zT_of 252 rfl rfl
set_option maxRecDepth 20000 in
theorem kw_253 : Cond.instanceMethod ⟨"RefitYard", "good", "(II)Z"⟩ ∈ zT := zT_of 253 rfl rfl
set_option maxRecDepth 20000 in
theorem kw_254 : Cond.selects "RefitYard" ⟨"RefitYard", "good", "(II)Z"⟩ ⟨"RefitYard", "good", "(II)Z"⟩ ∈ zT := zT_of 254 rfl rfl
theorem mv_L_27 : zMV RL 27 mX6_good 2 7 5 := ⟨mmX6_good, ⟨kw_252, kw_253, kw_254⟩, TX6, rfl, by decide, by decide⟩
set_option maxRecDepth 20000 in
theorem kw_776 : Cond.methodLink "RefitYardLaw" (30 : Nat) ⟨"RefitYardModel", "good", "(II)Z"⟩ ∈ zT := zT_of 776 rfl rfl
set_option maxRecDepth 20000 in
theorem kw_777 : Cond.instanceMethod ⟨"RefitYardModel", "good", "(II)Z"⟩ ∈ zT := zT_of 777 rfl rfl
set_option maxRecDepth 20000 in
theorem kw_778 : Cond.selects "RefitYardModel" ⟨"RefitYardModel", "good", "(II)Z"⟩ ⟨"RefitYardModel", "good", "(II)Z"⟩ ∈ zT := zT_of 778 rfl rfl
theorem mv_L_30 : zMV RL 30 mX7_good 2 8 25 := ⟨mmX7_good, ⟨kw_776, kw_777, kw_778⟩, TX7, rfl, by decide, by decide⟩
set_option maxRecDepth 20000 in
theorem kw_259 : Cond.methodLink "RefitYardLaw" (31 : Nat) ⟨"RefitYard", "bar", "(III)Z"⟩ ∈ zT := zT_of 259 rfl rfl
set_option maxRecDepth 20000 in
theorem kw_260 : Cond.instanceMethod ⟨"RefitYard", "bar", "(III)Z"⟩ ∈ zT := zT_of 260 rfl rfl
set_option maxRecDepth 20000 in
theorem kw_261 : Cond.selects "RefitYard" ⟨"RefitYard", "bar", "(III)Z"⟩ ⟨"RefitYard", "bar", "(III)Z"⟩ ∈ zT := zT_of 261 rfl rfl
theorem mv_L_31 : zMV RL 31 mX6_bar 3 7 5 := ⟨mmX6_bar, ⟨kw_259, kw_260, kw_261⟩, TX6, rfl, by decide, by decide⟩
set_option maxRecDepth 20000 in
theorem kw_780 : Cond.methodLink "RefitYardLaw" (35 : Nat) ⟨"RefitYardModel", "bar", "(III)Z"⟩ ∈ zT := zT_of 780 rfl rfl
set_option maxRecDepth 20000 in
theorem kw_781 : Cond.instanceMethod ⟨"RefitYardModel", "bar", "(III)Z"⟩ ∈ zT := zT_of 781 rfl rfl
set_option maxRecDepth 20000 in
theorem kw_782 : Cond.selects "RefitYardModel" ⟨"RefitYardModel", "bar", "(III)Z"⟩ ⟨"RefitYardModel", "bar", "(III)Z"⟩ ∈ zT := zT_of 782 rfl rfl
theorem mv_L_35 : zMV RL 35 mX7_bar 3 8 25 := ⟨mmX7_bar, ⟨kw_780, kw_781, kw_782⟩, TX7, rfl, by decide, by decide⟩
set_option maxRecDepth 20000 in
theorem kw_271 : Cond.methodLink "RefitYardLaw" (36 : Nat) ⟨"RefitYard", "work", "(II)I"⟩ ∈ zT := zT_of 271 rfl rfl
set_option maxRecDepth 20000 in
theorem kw_272 : Cond.instanceMethod ⟨"RefitYard", "work", "(II)I"⟩ ∈ zT := zT_of 272 rfl rfl
set_option maxRecDepth 20000 in
theorem kw_273 : Cond.selects "RefitYard" ⟨"RefitYard", "work", "(II)I"⟩ ⟨"RefitYard", "work", "(II)I"⟩ ∈ zT := zT_of 273 rfl rfl
theorem mv_L_36 : zMV RL 36 mX6_work 2 7 5 := ⟨mmX6_work, ⟨kw_271, kw_272, kw_273⟩, TX6, rfl, by decide, by decide⟩
set_option maxRecDepth 20000 in
theorem kw_784 : Cond.methodLink "RefitYardLaw" (40 : Nat) ⟨"RefitYardModel", "work", "(II)I"⟩ ∈ zT := zT_of 784 rfl rfl
set_option maxRecDepth 20000 in
theorem kw_785 : Cond.instanceMethod ⟨"RefitYardModel", "work", "(II)I"⟩ ∈ zT := zT_of 785 rfl rfl
set_option maxRecDepth 20000 in
theorem kw_786 : Cond.selects "RefitYardModel" ⟨"RefitYardModel", "work", "(II)I"⟩ ⟨"RefitYardModel", "work", "(II)I"⟩ ∈ zT := zT_of 786 rfl rfl
theorem mv_L_40 : zMV RL 40 mX7_work 2 8 25 := ⟨mmX7_work, ⟨kw_784, kw_785, kw_786⟩, TX7, rfl, by decide, by decide⟩
set_option maxRecDepth 20000 in
theorem kw_412 : Cond.methodLink "RefitYardLaw" (41 : Nat) ⟨"RefitYard", "need", "(II)Z"⟩ ∈ zT := zT_of 412 rfl rfl
set_option maxRecDepth 20000 in
theorem kw_413 : Cond.instanceMethod ⟨"RefitYard", "need", "(II)Z"⟩ ∈ zT := zT_of 413 rfl rfl
set_option maxRecDepth 20000 in
theorem kw_414 : Cond.selects "RefitYard" ⟨"RefitYard", "need", "(II)Z"⟩ ⟨"RefitYard", "need", "(II)Z"⟩ ∈ zT := zT_of 414 rfl rfl
theorem mv_L_41 : zMV RL 41 mX6_need 2 7 5 := ⟨mmX6_need, ⟨kw_412, kw_413, kw_414⟩, TX6, rfl, by decide, by decide⟩
set_option maxRecDepth 20000 in
theorem kw_789 : Cond.methodLink "RefitYardLaw" (44 : Nat) ⟨"RefitYardModel", "need", "(II)Z"⟩ ∈ zT := zT_of 789 rfl rfl
set_option maxRecDepth 20000 in
theorem kw_790 : Cond.instanceMethod ⟨"RefitYardModel", "need", "(II)Z"⟩ ∈ zT := zT_of 790 rfl rfl
set_option maxRecDepth 20000 in
theorem kw_791 : Cond.selects "RefitYardModel" ⟨"RefitYardModel", "need", "(II)Z"⟩ ⟨"RefitYardModel", "need", "(II)Z"⟩ ∈ zT := zT_of 791 rfl rfl
theorem mv_L_44 : zMV RL 44 mX7_need 2 8 25 := ⟨mmX7_need, ⟨kw_789, kw_790, kw_791⟩, TX7, rfl, by decide, by decide⟩
set_option maxRecDepth 20000 in
theorem kw_442 : Cond.methodLink "RefitYardLaw" (45 : Nat) ⟨"RefitYard", "tells", "(II)Z"⟩ ∈ zT := zT_of 442 rfl rfl
set_option maxRecDepth 20000 in
theorem kw_443 : Cond.instanceMethod ⟨"RefitYard", "tells", "(II)Z"⟩ ∈ zT := zT_of 443 rfl rfl
set_option maxRecDepth 20000 in
theorem kw_444 : Cond.selects "RefitYard" ⟨"RefitYard", "tells", "(II)Z"⟩ ⟨"RefitYard", "tells", "(II)Z"⟩ ∈ zT := zT_of 444 rfl rfl
theorem mv_L_45 : zMV RL 45 mX6_tells 2 7 5 := ⟨mmX6_tells, ⟨kw_442, kw_443, kw_444⟩, TX6, rfl, by decide, by decide⟩
set_option maxRecDepth 20000 in
theorem kw_813 : Cond.methodLink "RefitYardLaw" (48 : Nat) ⟨"RefitYardModel", "tells", "(II)Z"⟩ ∈ zT := zT_of 813 rfl rfl
set_option maxRecDepth 20000 in
theorem kw_814 : Cond.instanceMethod ⟨"RefitYardModel", "tells", "(II)Z"⟩ ∈ zT := zT_of 814 rfl rfl
set_option maxRecDepth 20000 in
theorem kw_815 : Cond.selects "RefitYardModel" ⟨"RefitYardModel", "tells", "(II)Z"⟩ ⟨"RefitYardModel", "tells", "(II)Z"⟩ ∈ zT := zT_of 815 rfl rfl
theorem mv_L_48 : zMV RL 48 mX7_tells 2 8 25 := ⟨mmX7_tells, ⟨kw_813, kw_814, kw_815⟩, TX7, rfl, by decide, by decide⟩
set_option maxRecDepth 20000 in
theorem kw_446 : Cond.methodLink "RefitYardLaw" (49 : Nat) ⟨"RefitYard", "put", "(II)Z"⟩ ∈ zT := zT_of 446 rfl rfl
set_option maxRecDepth 20000 in
theorem kw_447 : Cond.instanceMethod ⟨"RefitYard", "put", "(II)Z"⟩ ∈ zT := zT_of 447 rfl rfl
set_option maxRecDepth 20000 in
theorem kw_448 : Cond.selects "RefitYard" ⟨"RefitYard", "put", "(II)Z"⟩ ⟨"RefitYard", "put", "(II)Z"⟩ ∈ zT := zT_of 448 rfl rfl
theorem mv_L_49 : zMV RL 49 mX6_put 2 7 5 := ⟨mmX6_put, ⟨kw_446, kw_447, kw_448⟩, TX6, rfl, by decide, by decide⟩
set_option maxRecDepth 20000 in
theorem kw_817 : Cond.methodLink "RefitYardLaw" (52 : Nat) ⟨"RefitYardModel", "put", "(II)Z"⟩ ∈ zT := zT_of 817 rfl rfl
set_option maxRecDepth 20000 in
theorem kw_818 : Cond.instanceMethod ⟨"RefitYardModel", "put", "(II)Z"⟩ ∈ zT := zT_of 818 rfl rfl
set_option maxRecDepth 20000 in
theorem kw_819 : Cond.selects "RefitYardModel" ⟨"RefitYardModel", "put", "(II)Z"⟩ ⟨"RefitYardModel", "put", "(II)Z"⟩ ∈ zT := zT_of 819 rfl rfl
theorem mv_L_52 : zMV RL 52 mX7_put 2 8 25 := ⟨mmX7_put, ⟨kw_817, kw_818, kw_819⟩, TX7, rfl, by decide, by decide⟩
set_option maxRecDepth 20000 in
theorem kw_464 : Cond.methodLink "RefitYardLaw" (53 : Nat) ⟨"RefitYard", "take", "(I)Z"⟩ ∈ zT := zT_of 464 rfl rfl
set_option maxRecDepth 20000 in
theorem kw_465 : Cond.instanceMethod ⟨"RefitYard", "take", "(I)Z"⟩ ∈ zT := zT_of 465 rfl rfl
set_option maxRecDepth 20000 in
theorem kw_466 : Cond.selects "RefitYard" ⟨"RefitYard", "take", "(I)Z"⟩ ⟨"RefitYard", "take", "(I)Z"⟩ ∈ zT := zT_of 466 rfl rfl
theorem mv_L_53 : zMV RL 53 mX6_take 1 7 5 := ⟨mmX6_take, ⟨kw_464, kw_465, kw_466⟩, TX6, rfl, by decide, by decide⟩
set_option maxRecDepth 20000 in
theorem kw_821 : Cond.methodLink "RefitYardLaw" (57 : Nat) ⟨"RefitYardModel", "take", "(I)Z"⟩ ∈ zT := zT_of 821 rfl rfl
set_option maxRecDepth 20000 in
theorem kw_822 : Cond.instanceMethod ⟨"RefitYardModel", "take", "(I)Z"⟩ ∈ zT := zT_of 822 rfl rfl
set_option maxRecDepth 20000 in
theorem kw_823 : Cond.selects "RefitYardModel" ⟨"RefitYardModel", "take", "(I)Z"⟩ ⟨"RefitYardModel", "take", "(I)Z"⟩ ∈ zT := zT_of 823 rfl rfl
theorem mv_L_57 : zMV RL 57 mX7_take 1 8 25 := ⟨mmX7_take, ⟨kw_821, kw_822, kw_823⟩, TX7, rfl, by decide, by decide⟩
set_option maxRecDepth 20000 in
theorem kw_469 : Cond.methodLink "RefitYardLaw" (58 : Nat) ⟨"RefitYard", "may", "(II)Z"⟩ ∈ zT := zT_of 469 rfl rfl
set_option maxRecDepth 20000 in
theorem kw_470 : Cond.instanceMethod ⟨"RefitYard", "may", "(II)Z"⟩ ∈ zT := zT_of 470 rfl rfl
set_option maxRecDepth 20000 in
theorem kw_471 : Cond.selects "RefitYard" ⟨"RefitYard", "may", "(II)Z"⟩ ⟨"RefitYard", "may", "(II)Z"⟩ ∈ zT := zT_of 471 rfl rfl
theorem mv_L_58 : zMV RL 58 mX6_may 2 7 5 := ⟨mmX6_may, ⟨kw_469, kw_470, kw_471⟩, TX6, rfl, by decide, by decide⟩
set_option maxRecDepth 20000 in
theorem kw_849 : Cond.methodLink "RefitYardLaw" (61 : Nat) ⟨"RefitYardModel", "may", "(II)Z"⟩ ∈ zT := zT_of 849 rfl rfl
theorem mv_L_61 : zMV RL 61 mX7_may 2 8 25 := ⟨mmX7_may, ⟨kw_849, kw_850, kw_851⟩, TX7, rfl, by decide, by decide⟩
set_option maxRecDepth 20000 in
theorem kw_516 : Cond.methodLink "RefitYardLaw" (62 : Nat) ⟨"RefitYard", "first", "(II)I"⟩ ∈ zT := zT_of 516 rfl rfl
theorem mv_L_62 : zMV RL 62 mX6_first 2 7 5 := ⟨mmX6_first, ⟨kw_516, kw_474, kw_475⟩, TX6, rfl, by decide, by decide⟩
set_option maxRecDepth 20000 in
theorem kw_857 : Cond.methodLink "RefitYardLaw" (65 : Nat) ⟨"RefitYardModel", "first", "(II)I"⟩ ∈ zT := zT_of 857 rfl rfl
theorem mv_L_65 : zMV RL 65 mX7_first 2 8 25 := ⟨mmX7_first, ⟨kw_857, kw_858, kw_859⟩, TX7, rfl, by decide, by decide⟩
set_option maxRecDepth 20000 in
theorem kw_517 : Cond.methodLink "RefitYardLaw" (66 : Nat) ⟨"RefitYard", "why", "(I)I"⟩ ∈ zT := zT_of 517 rfl rfl
set_option maxRecDepth 20000 in
theorem kw_518 : Cond.instanceMethod ⟨"RefitYard", "why", "(I)I"⟩ ∈ zT := zT_of 518 rfl rfl
set_option maxRecDepth 20000 in
theorem kw_519 : Cond.selects "RefitYard" ⟨"RefitYard", "why", "(I)I"⟩ ⟨"RefitYard", "why", "(I)I"⟩ ∈ zT := zT_of 519 rfl rfl
theorem mv_L_66 : zMV RL 66 mX6_why 1 7 5 := ⟨mmX6_why, ⟨kw_517, kw_518, kw_519⟩, TX6, rfl, by decide, by decide⟩
set_option maxRecDepth 20000 in
theorem kw_825 : Cond.methodLink "RefitYardLaw" (69 : Nat) ⟨"RefitYardModel", "why", "(I)I"⟩ ∈ zT := zT_of 825 rfl rfl
set_option maxRecDepth 20000 in
theorem kw_826 : Cond.instanceMethod ⟨"RefitYardModel", "why", "(I)I"⟩ ∈ zT := zT_of 826 rfl rfl
set_option maxRecDepth 20000 in
theorem kw_827 : Cond.selects "RefitYardModel" ⟨"RefitYardModel", "why", "(I)I"⟩ ⟨"RefitYardModel", "why", "(I)I"⟩ ∈ zT := zT_of 827 rfl rfl
theorem mv_L_69 : zMV RL 69 mX7_why 1 8 25 := ⟨mmX7_why, ⟨kw_825, kw_826, kw_827⟩, TX7, rfl, by decide, by decide⟩
set_option maxRecDepth 20000 in
theorem kw_540 : Cond.methodLink "RefitYardLaw" (70 : Nat) ⟨"RefitYard", "told", "(II)I"⟩ ∈ zT := zT_of 540 rfl rfl
set_option maxRecDepth 20000 in
theorem kw_541 : Cond.instanceMethod ⟨"RefitYard", "told", "(II)I"⟩ ∈ zT := zT_of 541 rfl rfl
set_option maxRecDepth 20000 in
theorem kw_542 : Cond.selects "RefitYard" ⟨"RefitYard", "told", "(II)I"⟩ ⟨"RefitYard", "told", "(II)I"⟩ ∈ zT := zT_of 542 rfl rfl
theorem mv_L_70 : zMV RL 70 mX6_told 2 7 5 := ⟨mmX6_told, ⟨kw_540, kw_541, kw_542⟩, TX6, rfl, by decide, by decide⟩
set_option maxRecDepth 20000 in
theorem kw_908 : Cond.methodLink "RefitYardLaw" (73 : Nat) ⟨"RefitYardModel", "told", "(II)I"⟩ ∈ zT := zT_of 908 rfl rfl
set_option maxRecDepth 20000 in
theorem kw_909 : Cond.instanceMethod ⟨"RefitYardModel", "told", "(II)I"⟩ ∈ zT := zT_of 909 rfl rfl
set_option maxRecDepth 20000 in
theorem kw_910 : Cond.selects "RefitYardModel" ⟨"RefitYardModel", "told", "(II)I"⟩ ⟨"RefitYardModel", "told", "(II)I"⟩ ∈ zT := zT_of 910 rfl rfl
theorem mv_L_73 : zMV RL 73 mX7_told 2 8 25 := ⟨mmX7_told, ⟨kw_908, kw_909, kw_910⟩, TX7, rfl, by decide, by decide⟩
set_option maxRecDepth 20000 in
theorem kw_558 : Cond.methodLink "RefitYardLaw" (74 : Nat) ⟨"RefitYard", "load", "(II)I"⟩ ∈ zT := zT_of 558 rfl rfl
set_option maxRecDepth 20000 in
theorem kw_559 : Cond.instanceMethod ⟨"RefitYard", "load", "(II)I"⟩ ∈ zT := zT_of 559 rfl rfl
set_option maxRecDepth 20000 in
theorem kw_560 : Cond.selects "RefitYard" ⟨"RefitYard", "load", "(II)I"⟩ ⟨"RefitYard", "load", "(II)I"⟩ ∈ zT := zT_of 560 rfl rfl
theorem mv_L_74 : zMV RL 74 mX6_load 2 7 5 := ⟨mmX6_load, ⟨kw_558, kw_559, kw_560⟩, TX6, rfl, by decide, by decide⟩
set_option maxRecDepth 20000 in
theorem kw_916 : Cond.methodLink "RefitYardLaw" (77 : Nat) ⟨"RefitYardModel", "load", "(II)I"⟩ ∈ zT := zT_of 916 rfl rfl
set_option maxRecDepth 20000 in
theorem kw_917 : Cond.instanceMethod ⟨"RefitYardModel", "load", "(II)I"⟩ ∈ zT := zT_of 917 rfl rfl
set_option maxRecDepth 20000 in
theorem kw_918 : Cond.selects "RefitYardModel" ⟨"RefitYardModel", "load", "(II)I"⟩ ⟨"RefitYardModel", "load", "(II)I"⟩ ∈ zT := zT_of 918 rfl rfl
theorem mv_L_77 : zMV RL 77 mX7_load 2 8 25 := ⟨mmX7_load, ⟨kw_916, kw_917, kw_918⟩, TX7, rfl, by decide, by decide⟩
set_option maxRecDepth 20000 in
theorem kw_562 : Cond.methodLink "RefitYardLaw" (78 : Nat) ⟨"RefitYard", "plan", "()I"⟩ ∈ zT := zT_of 562 rfl rfl
set_option maxRecDepth 20000 in
theorem kw_563 : Cond.instanceMethod ⟨"RefitYard", "plan", "()I"⟩ ∈ zT := zT_of 563 rfl rfl
set_option maxRecDepth 20000 in
theorem kw_564 : Cond.selects "RefitYard" ⟨"RefitYard", "plan", "()I"⟩ ⟨"RefitYard", "plan", "()I"⟩ ∈ zT := zT_of 564 rfl rfl
theorem mv_L_78 : zMV RL 78 mX6_plan 0 7 5 := ⟨mmX6_plan, ⟨kw_562, kw_563, kw_564⟩, TX6, rfl, by decide, by decide⟩
set_option maxRecDepth 20000 in
theorem kw_870 : Cond.methodLink "RefitYardLaw" (82 : Nat) ⟨"RefitYardModel", "plan", "()I"⟩ ∈ zT := zT_of 870 rfl rfl
set_option maxRecDepth 20000 in
theorem kw_871 : Cond.instanceMethod ⟨"RefitYardModel", "plan", "()I"⟩ ∈ zT := zT_of 871 rfl rfl
set_option maxRecDepth 20000 in
theorem kw_872 : Cond.selects "RefitYardModel" ⟨"RefitYardModel", "plan", "()I"⟩ ⟨"RefitYardModel", "plan", "()I"⟩ ∈ zT := zT_of 872 rfl rfl
theorem mv_L_82 : zMV RL 82 mX7_plan 0 8 25 := ⟨mmX7_plan, ⟨kw_870, kw_871, kw_872⟩, TX7, rfl, by decide, by decide⟩
set_option maxRecDepth 20000 in
theorem kw_580 : Cond.methodLink "RefitYardLaw" (83 : Nat) ⟨"RefitYard", "best", "()I"⟩ ∈ zT := zT_of 580 rfl rfl
set_option maxRecDepth 20000 in
theorem kw_581 : Cond.instanceMethod ⟨"RefitYard", "best", "()I"⟩ ∈ zT := zT_of 581 rfl rfl
set_option maxRecDepth 20000 in
theorem kw_582 : Cond.selects "RefitYard" ⟨"RefitYard", "best", "()I"⟩ ⟨"RefitYard", "best", "()I"⟩ ∈ zT := zT_of 582 rfl rfl
theorem mv_L_83 : zMV RL 83 mX6_best 0 7 5 := ⟨mmX6_best, ⟨kw_580, kw_581, kw_582⟩, TX6, rfl, by decide, by decide⟩
set_option maxRecDepth 20000 in
theorem kw_887 : Cond.methodLink "RefitYardLaw" (86 : Nat) ⟨"RefitYardModel", "best", "()I"⟩ ∈ zT := zT_of 887 rfl rfl
set_option maxRecDepth 20000 in
theorem kw_888 : Cond.instanceMethod ⟨"RefitYardModel", "best", "()I"⟩ ∈ zT := zT_of 888 rfl rfl
set_option maxRecDepth 20000 in
theorem kw_889 : Cond.selects "RefitYardModel" ⟨"RefitYardModel", "best", "()I"⟩ ⟨"RefitYardModel", "best", "()I"⟩ ∈ zT := zT_of 889 rfl rfl
theorem mv_L_86 : zMV RL 86 mX7_best 0 8 25 := ⟨mmX7_best, ⟨kw_887, kw_888, kw_889⟩, TX7, rfl, by decide, by decide⟩
set_option maxRecDepth 20000 in
theorem kw_608 : Cond.methodLink "RefitYardLaw" (87 : Nat) ⟨"RefitYard", "end", "()I"⟩ ∈ zT := zT_of 608 rfl rfl
set_option maxRecDepth 20000 in
theorem kw_609 : Cond.instanceMethod ⟨"RefitYard", "end", "()I"⟩ ∈ zT := zT_of 609 rfl rfl
set_option maxRecDepth 20000 in
theorem kw_610 : Cond.selects "RefitYard" ⟨"RefitYard", "end", "()I"⟩ ⟨"RefitYard", "end", "()I"⟩ ∈ zT := zT_of 610 rfl rfl
theorem mv_L_87 : zMV RL 87 mX6_end 0 7 5 := ⟨mmX6_end, ⟨kw_608, kw_609, kw_610⟩, TX6, rfl, by decide, by decide⟩
set_option maxRecDepth 20000 in
theorem kw_883 : Cond.methodLink "RefitYardLaw" (90 : Nat) ⟨"RefitYardModel", "end", "()I"⟩ ∈ zT := zT_of 883 rfl rfl
theorem mv_L_90 : zMV RL 90 mX7_end 0 8 25 := ⟨mmX7_end, ⟨kw_883, kw_884, kw_885⟩, TX7, rfl, by decide, by decide⟩
set_option maxRecDepth 20000 in
theorem kw_614 : Cond.methodLink "RefitYardLaw" (91 : Nat) ⟨"RefitYard", "bound", "()I"⟩ ∈ zT := zT_of 614 rfl rfl
set_option maxRecDepth 20000 in
theorem kw_615 : Cond.instanceMethod ⟨"RefitYard", "bound", "()I"⟩ ∈ zT := zT_of 615 rfl rfl
set_option maxRecDepth 20000 in
theorem kw_616 : Cond.selects "RefitYard" ⟨"RefitYard", "bound", "()I"⟩ ⟨"RefitYard", "bound", "()I"⟩ ∈ zT := zT_of 616 rfl rfl
theorem mv_L_91 : zMV RL 91 mX6_bound 0 7 5 := ⟨mmX6_bound, ⟨kw_614, kw_615, kw_616⟩, TX6, rfl, by decide, by decide⟩
set_option maxRecDepth 20000 in
theorem kw_862 : Cond.methodLink "RefitYardLaw" (94 : Nat) ⟨"RefitYardModel", "bound", "()I"⟩ ∈ zT := zT_of 862 rfl rfl
set_option maxRecDepth 20000 in
theorem kw_863 : Cond.instanceMethod ⟨"RefitYardModel", "bound", "()I"⟩ ∈ zT := zT_of 863 rfl rfl
set_option maxRecDepth 20000 in
theorem kw_864 : Cond.selects "RefitYardModel" ⟨"RefitYardModel", "bound", "()I"⟩ ⟨"RefitYardModel", "bound", "()I"⟩ ∈ zT := zT_of 864 rfl rfl
theorem mv_L_94 : zMV RL 94 mX7_bound 0 8 25 := ⟨mmX7_bound, ⟨kw_862, kw_863, kw_864⟩, TX7, rfl, by decide, by decide⟩
set_option maxRecDepth 20000 in
theorem kw_640 : Cond.methodLink "RefitYardLaw" (95 : Nat) ⟨"RefitYard", "go", "(I)I"⟩ ∈ zT := zT_of 640 rfl rfl
set_option maxRecDepth 20000 in
theorem kw_641 : Cond.instanceMethod ⟨"RefitYard", "go", "(I)I"⟩ ∈ zT := zT_of 641 rfl rfl
set_option maxRecDepth 20000 in
theorem kw_642 : Cond.selects "RefitYard" ⟨"RefitYard", "go", "(I)I"⟩ ⟨"RefitYard", "go", "(I)I"⟩ ∈ zT := zT_of 642 rfl rfl
theorem mv_L_95 : zMV RL 95 mX6_go 1 7 5 := ⟨mmX6_go, ⟨kw_640, kw_641, kw_642⟩, TX6, rfl, by decide, by decide⟩
set_option maxRecDepth 20000 in
theorem kw_892 : Cond.methodLink "RefitYardLaw" (98 : Nat) ⟨"RefitYardModel", "go", "(I)I"⟩ ∈ zT := zT_of 892 rfl rfl
set_option maxRecDepth 20000 in
theorem kw_893 : Cond.instanceMethod ⟨"RefitYardModel", "go", "(I)I"⟩ ∈ zT := zT_of 893 rfl rfl
set_option maxRecDepth 20000 in
theorem kw_894 : Cond.selects "RefitYardModel" ⟨"RefitYardModel", "go", "(I)I"⟩ ⟨"RefitYardModel", "go", "(I)I"⟩ ∈ zT := zT_of 894 rfl rfl
theorem mv_L_98 : zMV RL 98 mX7_go 1 8 25 := ⟨mmX7_go, ⟨kw_892, kw_893, kw_894⟩, TX7, rfl, by decide, by decide⟩
set_option maxRecDepth 20000 in
theorem kw_645 : Cond.methodLink "RefitYardLaw" (99 : Nat) ⟨"RefitYard", "fail", "(I)I"⟩ ∈ zT := zT_of 645 rfl rfl
set_option maxRecDepth 20000 in
theorem kw_646 : Cond.instanceMethod ⟨"RefitYard", "fail", "(I)I"⟩ ∈ zT := zT_of 646 rfl rfl
set_option maxRecDepth 20000 in
theorem kw_647 : Cond.selects "RefitYard" ⟨"RefitYard", "fail", "(I)I"⟩ ⟨"RefitYard", "fail", "(I)I"⟩ ∈ zT := zT_of 647 rfl rfl
theorem mv_L_99 : zMV RL 99 mX6_fail 1 7 5 := ⟨mmX6_fail, ⟨kw_645, kw_646, kw_647⟩, TX6, rfl, by decide, by decide⟩
set_option maxRecDepth 20000 in
theorem kw_896 : Cond.methodLink "RefitYardLaw" (102 : Nat) ⟨"RefitYardModel", "fail", "(I)I"⟩ ∈ zT := zT_of 896 rfl rfl
set_option maxRecDepth 20000 in
theorem kw_897 : Cond.instanceMethod ⟨"RefitYardModel", "fail", "(I)I"⟩ ∈ zT := zT_of 897 rfl rfl
set_option maxRecDepth 20000 in
theorem kw_898 : Cond.selects "RefitYardModel" ⟨"RefitYardModel", "fail", "(I)I"⟩ ⟨"RefitYardModel", "fail", "(I)I"⟩ ∈ zT := zT_of 898 rfl rfl
theorem mv_L_102 : zMV RL 102 mX7_fail 1 8 25 := ⟨mmX7_fail, ⟨kw_896, kw_897, kw_898⟩, TX7, rfl, by decide, by decide⟩
set_option maxRecDepth 20000 in
theorem kw_662 : Cond.methodLink "RefitYardLaw" (103 : Nat) ⟨"RefitYard", "more", "(II)I"⟩ ∈ zT := zT_of 662 rfl rfl
set_option maxRecDepth 20000 in
theorem kw_663 : Cond.instanceMethod ⟨"RefitYard", "more", "(II)I"⟩ ∈ zT := zT_of 663 rfl rfl
set_option maxRecDepth 20000 in
theorem kw_664 : Cond.selects "RefitYard" ⟨"RefitYard", "more", "(II)I"⟩ ⟨"RefitYard", "more", "(II)I"⟩ ∈ zT := zT_of 664 rfl rfl
theorem mv_L_103 : zMV RL 103 mX6_more 2 7 5 := ⟨mmX6_more, ⟨kw_662, kw_663, kw_664⟩, TX6, rfl, by decide, by decide⟩
set_option maxRecDepth 20000 in
theorem kw_904 : Cond.methodLink "RefitYardLaw" (106 : Nat) ⟨"RefitYardModel", "more", "(II)I"⟩ ∈ zT := zT_of 904 rfl rfl
set_option maxRecDepth 20000 in
theorem kw_905 : Cond.instanceMethod ⟨"RefitYardModel", "more", "(II)I"⟩ ∈ zT := zT_of 905 rfl rfl
set_option maxRecDepth 20000 in
theorem kw_906 : Cond.selects "RefitYardModel" ⟨"RefitYardModel", "more", "(II)I"⟩ ⟨"RefitYardModel", "more", "(II)I"⟩ ∈ zT := zT_of 906 rfl rfl
theorem mv_L_106 : zMV RL 106 mX7_more 2 8 25 := ⟨mmX7_more, ⟨kw_904, kw_905, kw_906⟩, TX7, rfl, by decide, by decide⟩
set_option maxRecDepth 20000 in
theorem kw_673 : Cond.methodLink "RefitYardLaw" (107 : Nat) ⟨"RefitYard", "count", "(I)I"⟩ ∈ zT := zT_of 673 rfl rfl
set_option maxRecDepth 20000 in
theorem kw_674 : Cond.instanceMethod ⟨"RefitYard", "count", "(I)I"⟩ ∈ zT := zT_of 674 rfl rfl
set_option maxRecDepth 20000 in
theorem kw_675 : Cond.selects "RefitYard" ⟨"RefitYard", "count", "(I)I"⟩ ⟨"RefitYard", "count", "(I)I"⟩ ∈ zT := zT_of 675 rfl rfl
theorem mv_L_107 : zMV RL 107 mX6_count 1 7 5 := ⟨mmX6_count, ⟨kw_673, kw_674, kw_675⟩, TX6, rfl, by decide, by decide⟩
set_option maxRecDepth 20000 in
theorem kw_920 : Cond.methodLink "RefitYardLaw" (110 : Nat) ⟨"RefitYardModel", "count", "(I)I"⟩ ∈ zT := zT_of 920 rfl rfl
set_option maxRecDepth 20000 in
theorem kw_921 : Cond.instanceMethod ⟨"RefitYardModel", "count", "(I)I"⟩ ∈ zT := zT_of 921 rfl rfl
set_option maxRecDepth 20000 in
theorem kw_922 : Cond.selects "RefitYardModel" ⟨"RefitYardModel", "count", "(I)I"⟩ ⟨"RefitYardModel", "count", "(I)I"⟩ ∈ zT := zT_of 922 rfl rfl
theorem mv_L_110 : zMV RL 110 mX7_count 1 8 25 := ⟨mmX7_count, ⟨kw_920, kw_921, kw_922⟩, TX7, rfl, by decide, by decide⟩
set_option maxRecDepth 20000 in
theorem kw_46 : Cond.classLink "RefitYardLaw" (7 : Nat) "RefitYard" ∈ zT := zT_of 46 rfl rfl
set_option maxRecDepth 20000 in
theorem kw_47 : Cond.instantiable "RefitYard" (5 : Nat) ∈ zT := zT_of 47 rfl rfl
theorem nw_L_7 : zNw RL 7 7 5 := ⟨RX6, TX6, rfl, by decide, by decide, ui_X6, tyX6_ok, kw_46, kw_47, kw_36, by decide⟩
set_option maxRecDepth 20000 in
theorem kw_49 : Cond.instanceMethod ⟨"RefitYard", "<init>", "()V"⟩ ∈ zT := zT_of 49 rfl rfl
set_option maxRecDepth 20000 in
theorem kw_48 : Cond.methodLink "RefitYardLaw" (9 : Nat) ⟨"RefitYard", "<init>", "()V"⟩ ∈ zT := zT_of 48 rfl rfl
theorem mi_L_9 : zMI RL 9 mX6_init 0 := ⟨mmX6_init, rfl, rfl, kw_49, Or.inl kw_48⟩
set_option maxRecDepth 20000 in
theorem kw_678 : Cond.classLink "RefitYardLaw" (10 : Nat) "RefitYardModel" ∈ zT := zT_of 678 rfl rfl
set_option maxRecDepth 20000 in
theorem kw_679 : Cond.instantiable "RefitYardModel" (25 : Nat) ∈ zT := zT_of 679 rfl rfl
theorem nw_L_10 : zNw RL 10 8 25 := ⟨RX7, TX7, rfl, by decide, by decide, ui_X7, tyX7_ok, kw_678, kw_679, kw_42, by decide⟩
set_option maxRecDepth 20000 in
theorem kw_681 : Cond.instanceMethod ⟨"RefitYardModel", "<init>", "()V"⟩ ∈ zT := zT_of 681 rfl rfl
set_option maxRecDepth 20000 in
theorem kw_680 : Cond.methodLink "RefitYardLaw" (12 : Nat) ⟨"RefitYardModel", "<init>", "()V"⟩ ∈ zT := zT_of 680 rfl rfl
theorem mi_L_12 : zMI RL 12 mX7_init 0 := ⟨mmX7_init, rfl, rfl, kw_681, Or.inl kw_680⟩
