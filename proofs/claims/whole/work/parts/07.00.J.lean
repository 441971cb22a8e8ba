abbrev ZJ13_bitCount_95d88 (E : zE) (d : Nat) (X : zX) (P : Int → zM → Prop) (pc : Nat) (Lc : List (Nat × zV)) (S : List zV) (M : zM) (ce sl : Nat) : Prop := zZ cJ13_bitCount_95d88 RJ13 "bitCount" 2 E (zrm (d + 1) 0 0) X (zQ E (zPi P) X 0 0) pc Lc S M ce sl
set_option maxRecDepth 20000 in
theorem vJ13_bitCount_95d88_0 {E : zE} {d : Nat} {X : zX} {P : Int → zM → Prop} {M : zM} (hr : (xh X).sig.returnType = (some .int)) (l0 : Int64)
    (h : (0 : Int) ≤ (Int32.toInt (Int64.toInt32 ((((((((l0 - ((zushr l0 1) &&& (6148914691236517205 : Int64))) &&& (3689348814741910323 : Int64)) + ((zushr (l0 - ((zushr l0 1) &&& (6148914691236517205 : Int64))) 2) &&& (3689348814741910323 : Int64))) + (zushr (((l0 - ((zushr l0 1) &&& (6148914691236517205 : Int64))) &&& (3689348814741910323 : Int64)) + ((zushr (l0 - ((zushr l0 1) &&& (6148914691236517205 : Int64))) 2) &&& (3689348814741910323 : Int64))) 4)) &&& (1085102592571150095 : Int64)) + (zushr (((((l0 - ((zushr l0 1) &&& (6148914691236517205 : Int64))) &&& (3689348814741910323 : Int64)) + ((zushr (l0 - ((zushr l0 1) &&& (6148914691236517205 : Int64))) 2) &&& (3689348814741910323 : Int64))) + (zushr (((l0 - ((zushr l0 1) &&& (6148914691236517205 : Int64))) &&& (3689348814741910323 : Int64)) + ((zushr (l0 - ((zushr l0 1) &&& (6148914691236517205 : Int64))) 2) &&& (3689348814741910323 : Int64))) 4)) &&& (1085102592571150095 : Int64)) 8)) + (zushr ((((((l0 - ((zushr l0 1) &&& (6148914691236517205 : Int64))) &&& (3689348814741910323 : Int64)) + ((zushr (l0 - ((zushr l0 1) &&& (6148914691236517205 : Int64))) 2) &&& (3689348814741910323 : Int64))) + (zushr (((l0 - ((zushr l0 1) &&& (6148914691236517205 : Int64))) &&& (3689348814741910323 : Int64)) + ((zushr (l0 - ((zushr l0 1) &&& (6148914691236517205 : Int64))) 2) &&& (3689348814741910323 : Int64))) 4)) &&& (1085102592571150095 : Int64)) + (zushr (((((l0 - ((zushr l0 1) &&& (6148914691236517205 : Int64))) &&& (3689348814741910323 : Int64)) + ((zushr (l0 - ((zushr l0 1) &&& (6148914691236517205 : Int64))) 2) &&& (3689348814741910323 : Int64))) + (zushr (((l0 - ((zushr l0 1) &&& (6148914691236517205 : Int64))) &&& (3689348814741910323 : Int64)) + ((zushr (l0 - ((zushr l0 1) &&& (6148914691236517205 : Int64))) 2) &&& (3689348814741910323 : Int64))) 4)) &&& (1085102592571150095 : Int64)) 8)) 16)) + (zushr (((((((l0 - ((zushr l0 1) &&& (6148914691236517205 : Int64))) &&& (3689348814741910323 : Int64)) + ((zushr (l0 - ((zushr l0 1) &&& (6148914691236517205 : Int64))) 2) &&& (3689348814741910323 : Int64))) + (zushr (((l0 - ((zushr l0 1) &&& (6148914691236517205 : Int64))) &&& (3689348814741910323 : Int64)) + ((zushr (l0 - ((zushr l0 1) &&& (6148914691236517205 : Int64))) 2) &&& (3689348814741910323 : Int64))) 4)) &&& (1085102592571150095 : Int64)) + (zushr (((((l0 - ((zushr l0 1) &&& (6148914691236517205 : Int64))) &&& (3689348814741910323 : Int64)) + ((zushr (l0 - ((zushr l0 1) &&& (6148914691236517205 : Int64))) 2) &&& (3689348814741910323 : Int64))) + (zushr (((l0 - ((zushr l0 1) &&& (6148914691236517205 : Int64))) &&& (3689348814741910323 : Int64)) + ((zushr (l0 - ((zushr l0 1) &&& (6148914691236517205 : Int64))) 2) &&& (3689348814741910323 : Int64))) 4)) &&& (1085102592571150095 : Int64)) 8)) + (zushr ((((((l0 - ((zushr l0 1) &&& (6148914691236517205 : Int64))) &&& (3689348814741910323 : Int64)) + ((zushr (l0 - ((zushr l0 1) &&& (6148914691236517205 : Int64))) 2) &&& (3689348814741910323 : Int64))) + (zushr (((l0 - ((zushr l0 1) &&& (6148914691236517205 : Int64))) &&& (3689348814741910323 : Int64)) + ((zushr (l0 - ((zushr l0 1) &&& (6148914691236517205 : Int64))) 2) &&& (3689348814741910323 : Int64))) 4)) &&& (1085102592571150095 : Int64)) + (zushr (((((l0 - ((zushr l0 1) &&& (6148914691236517205 : Int64))) &&& (3689348814741910323 : Int64)) + ((zushr (l0 - ((zushr l0 1) &&& (6148914691236517205 : Int64))) 2) &&& (3689348814741910323 : Int64))) + (zushr (((l0 - ((zushr l0 1) &&& (6148914691236517205 : Int64))) &&& (3689348814741910323 : Int64)) + ((zushr (l0 - ((zushr l0 1) &&& (6148914691236517205 : Int64))) 2) &&& (3689348814741910323 : Int64))) 4)) &&& (1085102592571150095 : Int64)) 8)) 16)) 32)))) ∧ (0 : Int) ≤ 127 ∧ P (zand (Int32.toInt (Int64.toInt32 ((((((((l0 - ((zushr l0 1) &&& (6148914691236517205 : Int64))) &&& (3689348814741910323 : Int64)) + ((zushr (l0 - ((zushr l0 1) &&& (6148914691236517205 : Int64))) 2) &&& (3689348814741910323 : Int64))) + (zushr (((l0 - ((zushr l0 1) &&& (6148914691236517205 : Int64))) &&& (3689348814741910323 : Int64)) + ((zushr (l0 - ((zushr l0 1) &&& (6148914691236517205 : Int64))) 2) &&& (3689348814741910323 : Int64))) 4)) &&& (1085102592571150095 : Int64)) + (zushr (((((l0 - ((zushr l0 1) &&& (6148914691236517205 : Int64))) &&& (3689348814741910323 : Int64)) + ((zushr (l0 - ((zushr l0 1) &&& (6148914691236517205 : Int64))) 2) &&& (3689348814741910323 : Int64))) + (zushr (((l0 - ((zushr l0 1) &&& (6148914691236517205 : Int64))) &&& (3689348814741910323 : Int64)) + ((zushr (l0 - ((zushr l0 1) &&& (6148914691236517205 : Int64))) 2) &&& (3689348814741910323 : Int64))) 4)) &&& (1085102592571150095 : Int64)) 8)) + (zushr ((((((l0 - ((zushr l0 1) &&& (6148914691236517205 : Int64))) &&& (3689348814741910323 : Int64)) + ((zushr (l0 - ((zushr l0 1) &&& (6148914691236517205 : Int64))) 2) &&& (3689348814741910323 : Int64))) + (zushr (((l0 - ((zushr l0 1) &&& (6148914691236517205 : Int64))) &&& (3689348814741910323 : Int64)) + ((zushr (l0 - ((zushr l0 1) &&& (6148914691236517205 : Int64))) 2) &&& (3689348814741910323 : Int64))) 4)) &&& (1085102592571150095 : Int64)) + (zushr (((((l0 - ((zushr l0 1) &&& (6148914691236517205 : Int64))) &&& (3689348814741910323 : Int64)) + ((zushr (l0 - ((zushr l0 1) &&& (6148914691236517205 : Int64))) 2) &&& (3689348814741910323 : Int64))) + (zushr (((l0 - ((zushr l0 1) &&& (6148914691236517205 : Int64))) &&& (3689348814741910323 : Int64)) + ((zushr (l0 - ((zushr l0 1) &&& (6148914691236517205 : Int64))) 2) &&& (3689348814741910323 : Int64))) 4)) &&& (1085102592571150095 : Int64)) 8)) 16)) + (zushr (((((((l0 - ((zushr l0 1) &&& (6148914691236517205 : Int64))) &&& (3689348814741910323 : Int64)) + ((zushr (l0 - ((zushr l0 1) &&& (6148914691236517205 : Int64))) 2) &&& (3689348814741910323 : Int64))) + (zushr (((l0 - ((zushr l0 1) &&& (6148914691236517205 : Int64))) &&& (3689348814741910323 : Int64)) + ((zushr (l0 - ((zushr l0 1) &&& (6148914691236517205 : Int64))) 2) &&& (3689348814741910323 : Int64))) 4)) &&& (1085102592571150095 : Int64)) + (zushr (((((l0 - ((zushr l0 1) &&& (6148914691236517205 : Int64))) &&& (3689348814741910323 : Int64)) + ((zushr (l0 - ((zushr l0 1) &&& (6148914691236517205 : Int64))) 2) &&& (3689348814741910323 : Int64))) + (zushr (((l0 - ((zushr l0 1) &&& (6148914691236517205 : Int64))) &&& (3689348814741910323 : Int64)) + ((zushr (l0 - ((zushr l0 1) &&& (6148914691236517205 : Int64))) 2) &&& (3689348814741910323 : Int64))) 4)) &&& (1085102592571150095 : Int64)) 8)) + (zushr ((((((l0 - ((zushr l0 1) &&& (6148914691236517205 : Int64))) &&& (3689348814741910323 : Int64)) + ((zushr (l0 - ((zushr l0 1) &&& (6148914691236517205 : Int64))) 2) &&& (3689348814741910323 : Int64))) + (zushr (((l0 - ((zushr l0 1) &&& (6148914691236517205 : Int64))) &&& (3689348814741910323 : Int64)) + ((zushr (l0 - ((zushr l0 1) &&& (6148914691236517205 : Int64))) 2) &&& (3689348814741910323 : Int64))) 4)) &&& (1085102592571150095 : Int64)) + (zushr (((((l0 - ((zushr l0 1) &&& (6148914691236517205 : Int64))) &&& (3689348814741910323 : Int64)) + ((zushr (l0 - ((zushr l0 1) &&& (6148914691236517205 : Int64))) 2) &&& (3689348814741910323 : Int64))) + (zushr (((l0 - ((zushr l0 1) &&& (6148914691236517205 : Int64))) &&& (3689348814741910323 : Int64)) + ((zushr (l0 - ((zushr l0 1) &&& (6148914691236517205 : Int64))) 2) &&& (3689348814741910323 : Int64))) 4)) &&& (1085102592571150095 : Int64)) 8)) 16)) 32)))) 127) M) :
    ZJ13_bitCount_95d88 E d X P 0 [(0, vL l0)] [] M 0 0 := by
  refine z_lload_n 0 dJ13_bitCount_95d88_0 rfl ?_
  refine z_lload_n 0 dJ13_bitCount_95d88_1 rfl ?_
  refine z_iconst dJ13_bitCount_95d88_2 (by decide) ?_
  refine z_lushr dJ13_bitCount_95d88_3 ?_
  refine z_ldc2 dJ13_bitCount_95d88_4 kw_390 ?_
  refine z_land dJ13_bitCount_95d88_7 ?_
  refine z_lsub dJ13_bitCount_95d88_8 ?_
  refine z_lstore_n dJ13_bitCount_95d88_9 (by decide) rfl ?_
  refine z_lload_n 0 dJ13_bitCount_95d88_10 rfl ?_
  refine z_ldc2 dJ13_bitCount_95d88_11 kw_391 ?_
  refine z_land dJ13_bitCount_95d88_14 ?_
  refine z_lload_n 0 dJ13_bitCount_95d88_15 rfl ?_
  refine z_iconst dJ13_bitCount_95d88_16 (by decide) ?_
  refine z_lushr dJ13_bitCount_95d88_17 ?_
  refine z_ldc2 dJ13_bitCount_95d88_18 kw_391 ?_
  refine z_land dJ13_bitCount_95d88_21 ?_
  refine z_ladd dJ13_bitCount_95d88_22 ?_
  refine z_lstore_n dJ13_bitCount_95d88_23 (by decide) rfl ?_
  refine z_lload_n 0 dJ13_bitCount_95d88_24 rfl ?_
  refine z_lload_n 0 dJ13_bitCount_95d88_25 rfl ?_
  refine z_iconst dJ13_bitCount_95d88_26 (by decide) ?_
  refine z_lushr dJ13_bitCount_95d88_27 ?_
  refine z_ladd dJ13_bitCount_95d88_28 ?_
  refine z_ldc2 dJ13_bitCount_95d88_29 kw_392 ?_
  refine z_land dJ13_bitCount_95d88_32 ?_
  refine z_lstore_n dJ13_bitCount_95d88_33 (by decide) rfl ?_
  refine z_lload_n 0 dJ13_bitCount_95d88_34 rfl ?_
  refine z_lload_n 0 dJ13_bitCount_95d88_35 rfl ?_
  refine z_bipush dJ13_bitCount_95d88_36 (by decide) ?_
  refine z_lushr dJ13_bitCount_95d88_38 ?_
  refine z_ladd dJ13_bitCount_95d88_39 ?_
  refine z_lstore_n dJ13_bitCount_95d88_40 (by decide) rfl ?_
  refine z_lload_n 0 dJ13_bitCount_95d88_41 rfl ?_
  refine z_lload_n 0 dJ13_bitCount_95d88_42 rfl ?_
  refine z_bipush dJ13_bitCount_95d88_43 (by decide) ?_
  refine z_lushr dJ13_bitCount_95d88_45 ?_
  refine z_ladd dJ13_bitCount_95d88_46 ?_
  refine z_lstore_n dJ13_bitCount_95d88_47 (by decide) rfl ?_
  refine z_lload_n 0 dJ13_bitCount_95d88_48 rfl ?_
  refine z_lload_n 0 dJ13_bitCount_95d88_49 rfl ?_
  refine z_bipush dJ13_bitCount_95d88_50 (by decide) ?_
  refine z_lushr dJ13_bitCount_95d88_52 ?_
  refine z_ladd dJ13_bitCount_95d88_53 ?_
  refine z_lstore_n dJ13_bitCount_95d88_54 (by decide) rfl ?_
  refine z_lload_n 0 dJ13_bitCount_95d88_55 rfl ?_
  refine z_l2i dJ13_bitCount_95d88_56 ?_
  refine z_bipush dJ13_bitCount_95d88_57 (by decide) ?_
  obtain ⟨q1, h⟩ := h
  obtain ⟨q2, h⟩ := h
  refine z_iand dJ13_bitCount_95d88_59 q1 q2 ?_
  exact z_iret hr dJ13_bitCount_95d88_60 (Nat.le_of_ble_eq_true rfl) (Nat.le_of_ble_eq_true rfl) ⟨_, rfl, h⟩
theorem sJ13_bitCount_95d88 {E : zE} {d : Nat} {P : Int → zM → Prop} {M : zM} (l0 : Int64) (h : ∀ X : zX, (xh X).sig.returnType = (some .int) → ZJ13_bitCount_95d88 E d X P 0 [(0, vL l0)] [] M 0 0) : zCi E mJ13_bitCount_95d88 (d + 1) 0 0 [vL l0] M P := z_start (f := mJ13_bitCount_95d88) rfl (Nat.le_of_ble_eq_true rfl) rfl h
