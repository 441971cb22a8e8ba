abbrev ZX6_load (E : zE) (d : Nat) (X : zX) (P : Int → zM → Prop) (pc : Nat) (Lc : List (Nat × zV)) (S : List zV) (M : zM) (ce sl : Nat) : Prop := zZ cX6_load RX6 "load" 3 E (zrm (d + 1) 0 0) X (zQ E (zPi P) X 0 0) pc Lc S M ce sl
set_option maxRecDepth 20000 in
theorem vX6_load_0 {E : zE} {d : Nat} {X : zX} {P : Int → zM → Prop} {M : zM} (hr : (xh X).sig.returnType = (some .int)) (a0 : Nat) (x1 : Int) (x2 : Int)
    (h : ((x1 < 0 → P (-1) M) ∧ (0 ≤ x1 → ((400 ≤ x1 → P (-1) M) ∧ (x1 < 400 → ((x2 < 0 → P (-1) M) ∧ (0 ≤ x2 → ((x2 ≤ 8 → ((4 ≤ x2 → ((8 ≤ x2 → zK M a0 = (7, 5) ∧ ∃ b8, zR M a0 2 = some b8 ∧ zK M b8 = (1, 3) ∧ ∃ b10, zR M b8 0 = some b10 ∧ (zK M b10).1 = 11 ∧ 0 ≤ x1 ∧ x1 < ((zK M b10).2 : Int) ∧ ∃ P14 : Int → zM → Prop, zCi E mJ13_bitCount_95d88 d 0 0 [vL (zL M b10 x1)] M P14 ∧ ∀ r17 M16, P14 r17 M16 → P r17 M16) ∧ (x2 < 8 → zK M a0 = (7, 5) ∧ ∃ b20, zR M a0 2 = some b20 ∧ zK M b20 = (1, 3) ∧ ∃ b22, zR M b20 0 = some b22 ∧ (zK M b22).1 = 11 ∧ 0 ≤ x1 ∧ x1 < ((zK M b22).2 : Int) ∧ zK M a0 = (7, 5) ∧ ∃ b27, zR M a0 1 = some b27 ∧ zK M b27 = (3, 6) ∧ zin (x2 - 4) ∧ ∃ b30, zR M b27 2 = some b30 ∧ (zK M b30).1 = 11 ∧ 0 ≤ (x2 - 4) ∧ (x2 - 4) < ((zK M b30).2 : Int) ∧ ∃ P34 : Int → zM → Prop, zCi E mJ13_bitCount_95d88 d 0 0 [vL ((zL M b22 x1) &&& (zL M b30 (x2 - 4)))] M P34 ∧ ∀ r37 M36, P34 r37 M36 → P r37 M36))) ∧ (x2 < 4 → zK M a0 = (7, 5) ∧ ∃ b40, zR M a0 2 = some b40 ∧ zK M b40 = (1, 3) ∧ ∃ b42, zR M b40 1 = some b42 ∧ ((zK M b42).1 = 12 ∨ (zK M b42).1 = 13) ∧ 0 ≤ x2 ∧ x2 < ((zK M b42).2 : Int) ∧ ∃ b46, zR M b42 x2 = some b46 ∧ (zK M b46).1 = 9 ∧ 0 ≤ x1 ∧ x1 < ((zK M b46).2 : Int) ∧ P (zI M b46 x1) M))) ∧ (8 < x2 → P (-1) M))))))))) :
    ZX6_load E d X P 0 [(0, vR (some a0)), (1, vI x1), (2, vI x2)] [] M 0 0 := by
  refine z_iload_n 1 dX6_load_0 rfl ?_
  refine z_if_lt (tgt := 21) dX6_load_1 (by decide) (fun q1 => ?_) (fun q1 => ?_)
  · have h := h.1 q1
    refine z_iconst dX6_load_21 (by decide) ?_
    exact z_iret hr dX6_load_22 (Nat.le_of_ble_eq_true rfl) (Nat.le_of_ble_eq_true rfl) ⟨_, rfl, h⟩
  · have h := h.2 q1
    refine z_iload_n 1 dX6_load_4 rfl ?_
    refine z_sipush dX6_load_5 (by decide) ?_
    refine z_icmp_ge (tgt := 21) dX6_load_8 (by decide) (fun q2 => ?_) (fun q2 => ?_)
    · have h := h.1 q2
      refine z_iconst dX6_load_21 (by decide) ?_
      exact z_iret hr dX6_load_22 (Nat.le_of_ble_eq_true rfl) (Nat.le_of_ble_eq_true rfl) ⟨_, rfl, h⟩
    · have h := h.2 q2
      refine z_iload_n 2 dX6_load_11 rfl ?_
      refine z_if_lt (tgt := 21) dX6_load_12 (by decide) (fun q3 => ?_) (fun q3 => ?_)
      · have h := h.1 q3
        refine z_iconst dX6_load_21 (by decide) ?_
        exact z_iret hr dX6_load_22 (Nat.le_of_ble_eq_true rfl) (Nat.le_of_ble_eq_true rfl) ⟨_, rfl, h⟩
      · have h := h.2 q3
        refine z_iload_n 2 dX6_load_15 rfl ?_
        refine z_bipush dX6_load_16 (by decide) ?_
        refine z_icmp_le (tgt := 23) dX6_load_18 (by decide) (fun q4 => ?_) (fun q4 => ?_)
        · have h := h.1 q4
          refine z_iload_n 2 dX6_load_23 rfl ?_
          refine z_iconst dX6_load_24 (by decide) ?_
          refine z_icmp_ge (tgt := 40) dX6_load_25 (by decide) (fun q5 => ?_) (fun q5 => ?_)
          · have h := h.1 q5
            refine z_iload_n 2 dX6_load_40 rfl ?_
            refine z_bipush dX6_load_41 (by decide) ?_
            refine z_icmp_ge (tgt := 71) dX6_load_43 (by decide) (fun q6 => ?_) (fun q6 => ?_)
            · have h := h.1 q6
              refine z_aload_n 0 dX6_load_71 rfl ?_
              obtain ⟨q7, h⟩ := h
              refine z_getR fl_X6_26 rfl dX6_load_72 q7 ?_
              obtain ⟨b8, eb8, h⟩ := h
              rw [eb8]
              obtain ⟨q9, h⟩ := h
              refine z_getR fl_X6_220 rfl dX6_load_75 q9 ?_
              refine z_iload_n 1 dX6_load_78 rfl ?_
              obtain ⟨b10, eb10, h⟩ := h
              rw [eb10]
              obtain ⟨q11, h⟩ := h
              obtain ⟨q12, h⟩ := h
              obtain ⟨q13, h⟩ := h
              refine z_lald dX6_load_79 (n := (zK M b10).2) (Prod.ext q11 rfl) q12 q13 ?_
              obtain ⟨P14, c15, h⟩ := h
              refine z_Si (as := [vL (zL M b10 x1)]) ms_X6_208 dX6_load_80 c15 rfl rfl (Nat.le_of_ble_eq_true rfl) (Nat.le_of_ble_eq_true rfl) (Nat.le_of_ble_eq_true rfl) (fun r17 M16 p18 => ?_)
              have h := h r17 M16 p18
              exact z_iret hr dX6_load_83 (Nat.le_of_ble_eq_true rfl) (Nat.le_of_ble_eq_true rfl) ⟨_, rfl, h⟩
            · have h := h.2 q6
              refine z_aload_n 0 dX6_load_46 rfl ?_
              obtain ⟨q19, h⟩ := h
              refine z_getR fl_X6_26 rfl dX6_load_47 q19 ?_
              obtain ⟨b20, eb20, h⟩ := h
              rw [eb20]
              obtain ⟨q21, h⟩ := h
              refine z_getR fl_X6_220 rfl dX6_load_50 q21 ?_
              refine z_iload_n 1 dX6_load_53 rfl ?_
              obtain ⟨b22, eb22, h⟩ := h
              rw [eb22]
              obtain ⟨q23, h⟩ := h
              obtain ⟨q24, h⟩ := h
              obtain ⟨q25, h⟩ := h
              refine z_lald dX6_load_54 (n := (zK M b22).2) (Prod.ext q23 rfl) q24 q25 ?_
              refine z_aload_n 0 dX6_load_55 rfl ?_
              obtain ⟨q26, h⟩ := h
              refine z_getR fl_X6_19 rfl dX6_load_56 q26 ?_
              obtain ⟨b27, eb27, h⟩ := h
              rw [eb27]
              obtain ⟨q28, h⟩ := h
              refine z_getR fl_X6_224 rfl dX6_load_59 q28 ?_
              refine z_iload_n 2 dX6_load_62 rfl ?_
              refine z_iconst dX6_load_63 (by decide) ?_
              obtain ⟨q29, h⟩ := h
              refine z_isub dX6_load_64 q29 ?_
              obtain ⟨b30, eb30, h⟩ := h
              rw [eb30]
              obtain ⟨q31, h⟩ := h
              obtain ⟨q32, h⟩ := h
              obtain ⟨q33, h⟩ := h
              refine z_lald dX6_load_65 (n := (zK M b30).2) (Prod.ext q31 rfl) q32 q33 ?_
              refine z_land dX6_load_66 ?_
              obtain ⟨P34, c35, h⟩ := h
              refine z_Si (as := [vL ((zL M b22 x1) &&& (zL M b30 (x2 - 4)))]) ms_X6_208 dX6_load_67 c35 rfl rfl (Nat.le_of_ble_eq_true rfl) (Nat.le_of_ble_eq_true rfl) (Nat.le_of_ble_eq_true rfl) (fun r37 M36 p38 => ?_)
              have h := h r37 M36 p38
              exact z_iret hr dX6_load_70 (Nat.le_of_ble_eq_true rfl) (Nat.le_of_ble_eq_true rfl) ⟨_, rfl, h⟩
          · have h := h.2 q5
            refine z_aload_n 0 dX6_load_28 rfl ?_
            obtain ⟨q39, h⟩ := h
            refine z_getR fl_X6_26 rfl dX6_load_29 q39 ?_
            obtain ⟨b40, eb40, h⟩ := h
            rw [eb40]
            obtain ⟨q41, h⟩ := h
            refine z_getR fl_X6_217 rfl dX6_load_32 q41 ?_
            refine z_iload_n 2 dX6_load_35 rfl ?_
            obtain ⟨b42, eb42, h⟩ := h
            rw [eb42]
            obtain ⟨q43, h⟩ := h
            obtain ⟨q44, h⟩ := h
            obtain ⟨q45, h⟩ := h
            refine z_aald dX6_load_36 (n := (zK M b42).2) rfl q43 q44 q45 ?_
            refine z_iload_n 1 dX6_load_37 rfl ?_
            obtain ⟨b46, eb46, h⟩ := h
            rw [eb46]
            obtain ⟨q47, h⟩ := h
            obtain ⟨q48, h⟩ := h
            obtain ⟨q49, h⟩ := h
            refine z_iald dX6_load_38 (n := (zK M b46).2) (Prod.ext q47 rfl) q48 q49 ?_
            exact z_iret hr dX6_load_39 (Nat.le_of_ble_eq_true rfl) (Nat.le_of_ble_eq_true rfl) ⟨_, rfl, h⟩
        · have h := h.2 q4
          refine z_iconst dX6_load_21 (by decide) ?_
          exact z_iret hr dX6_load_22 (Nat.le_of_ble_eq_true rfl) (Nat.le_of_ble_eq_true rfl) ⟨_, rfl, h⟩
theorem sX6_load {E : zE} {d : Nat} {P : Int → zM → Prop} {M : zM} (a0 : Nat) (x1 : Int) (x2 : Int) (h : ∀ X : zX, (xh X).sig.returnType = (some .int) → ZX6_load E d X P 0 [(0, vR (some a0)), (1, vI x1), (2, vI x2)] [] M 0 0) : zCi E mX6_load (d + 1) 0 0 [vR (some a0), vI x1, vI x2] M P := z_start (f := mX6_load) rfl (Nat.le_of_ble_eq_true rfl) rfl h
abbrev ZX6_plan (E : zE) (d : Nat) (X : zX) (P : Int → zM → Prop) (pc : Nat) (Lc : List (Nat × zV)) (S : List zV) (M : zM) (ce sl : Nat) : Prop := zZ cX6_plan RX6 "plan" 7 E (zrm (d + 1) 0 0) X (zQ E (zPi P) X 0 0) pc Lc S M ce sl
set_option maxRecDepth 20000 in
theorem vX6_plan_0 {E : zE} {d : Nat} {X : zX} {P : Int → zM → Prop} {M : zM} (hr : (xh X).sig.returnType = (some .int)) (a0 : Nat)
    (h : ZX6_plan E d X P 7 [(0, vR (some a0)), (1, vL (0 : Int64)), (3, vI 0), (4, vI 0)] [] M 0 0) :
    ZX6_plan E d X P 0 [(0, vR (some a0))] [] M 0 0 := by
  refine z_lconst (v := 0) dX6_plan_0 rfl ?_
  refine z_lstore_n dX6_plan_1 (by decide) rfl ?_
  refine z_iconst dX6_plan_2 (by decide) ?_
  refine z_istore_n dX6_plan_3 (by decide) rfl ?_
  refine z_iconst dX6_plan_4 (by decide) ?_
  refine z_istore dX6_plan_5 (by decide) rfl ?_
  exact z_sub [3, 2, 1, 0] rfl h
set_option maxRecDepth 20000 in
theorem vX6_plan_7 {E : zE} {d : Nat} {X : zX} {P : Int → zM → Prop} {M : zM} (hr : (xh X).sig.returnType = (some .int)) (a0 : Nat) (l1 : Int64) (x3 : Int) (x4 : Int)
    (h : zK M a0 = (7, 5) ∧ ∃ b2, zR M a0 1 = some b2 ∧ zK M b2 = (3, 6) ∧ (((zI M b2 4) ≤ x4 → P x3 M) ∧ (x4 < (zI M b2 4) → zK M a0 = (7, 5) ∧ zK M b2 = (3, 6) ∧ ∃ P6 : Option Nat → zM → Prop, zCr E mX2_mostPressing d 0 0 [vR (some b2), vL l1] M P6 ∧ ∀ r9 M8, P6 r9 M8 → ((r9 ≠ none → ∃ b13, r9 = some b13 ∧ zK M8 b13 = (6, 16) ∧ zK M8 a0 = (7, 5) ∧ zK M8 a0 = (7, 5) ∧ ∃ b17, zR M8 a0 2 = some b17 ∧ zK M8 b17 = (1, 3) ∧ ∃ b19, zR M8 a0 3 = some b19 ∧ zK M8 b19 = (5, 5) ∧ ∃ P20 : Int → zM → Prop, zCi E mX4_firstPlace d 0 0 [vR (some b19), vR (some b13), vI (zI M8 b17 2)] M8 P20 ∧ ∀ r23 M22, P20 r23 M22 → ((r23 = (-1) → zin (x4 + 1) ∧ ZX6_plan E d X P 7 [(0, vR (some a0)), (1, vL (l1 ||| (zL M8 b13 1))), (3, vI x3), (4, vI (x4 + 1))] [] M22 0 0) ∧ (r23 ≠ (-1) → zK M22 a0 = (7, 5) ∧ ∃ b29, zR M22 a0 2 = some b29 ∧ zK M22 b29 = (1, 3) ∧ ∃ P30 : zM → Prop, zCv E mX0_lay d 0 0 [vR (some b29), vR (some b13), vI r23] M22 P30 ∧ ∀ M32, P30 M32 → zin (x3 + 1) ∧ zin (x4 + 1) ∧ ZX6_plan E d X P 7 [(0, vR (some a0)), (1, vL (l1 ||| (zL M8 b13 1))), (3, vI (x3 + 1)), (4, vI (x4 + 1))] [] M32 0 0))) ∧ (r9 = none → P x3 M8))))) :
    ZX6_plan E d X P 7 [(0, vR (some a0)), (1, vL l1), (3, vI x3), (4, vI x4)] [] M 0 0 := by
  refine z_iload 3 dX6_plan_7 rfl ?_
  refine z_aload_n 0 dX6_plan_9 rfl ?_
  obtain ⟨q1, h⟩ := h
  refine z_getR fl_X6_19 rfl dX6_plan_10 q1 ?_
  obtain ⟨b2, eb2, h⟩ := h
  rw [eb2]
  obtain ⟨q3, h⟩ := h
  refine z_getI fl_X6_95 dX6_plan_13 q3 ?_
  refine z_icmp_ge (tgt := 88) dX6_plan_16 (by decide) (fun q4 => ?_) (fun q4 => ?_)
  · have h := h.1 q4
    refine z_iload_n 2 dX6_plan_88 rfl ?_
    exact z_iret hr dX6_plan_89 (Nat.le_of_ble_eq_true rfl) (Nat.le_of_ble_eq_true rfl) ⟨_, rfl, h⟩
  · have h := h.2 q4
    refine z_aload_n 0 dX6_plan_19 rfl ?_
    obtain ⟨q5, h⟩ := h
    refine z_getR fl_X6_19 rfl dX6_plan_20 q5 ?_
    rw [eb2]
    refine z_lload_n 1 dX6_plan_23 rfl ?_
    obtain ⟨q11, h⟩ := h
    obtain ⟨P6, c7, h⟩ := h
    refine z_Vr (as := [vL l1]) mv_X6_227 dX6_plan_24 c7 q11 rfl rfl (Nat.le_of_ble_eq_true rfl) (Nat.le_of_ble_eq_true rfl) (Nat.le_of_ble_eq_true rfl) (fun r9 M8 p10 => ?_)
    have h := h r9 M8 p10
    refine z_astore dX6_plan_27 (by decide) rfl ?_
    refine z_aload 0 dX6_plan_29 rfl ?_
    refine z_ifnonnull (tgt := 36) dX6_plan_31 (by decide) (fun q12 => ?_) (fun q12 => ?_)
    · have h := h.1 q12
      refine z_lload_n 2 dX6_plan_36 rfl ?_
      refine z_aload 0 dX6_plan_37 rfl ?_
      obtain ⟨b13, eb13, h⟩ := h
      rw [eb13]
      obtain ⟨q14, h⟩ := h
      refine z_getL fl_X6_135 dX6_plan_39 q14 ?_
      refine z_lor dX6_plan_42 ?_
      refine z_lstore_n dX6_plan_43 (by decide) rfl ?_
      refine z_aload_n 2 dX6_plan_44 rfl ?_
      obtain ⟨q15, h⟩ := h
      refine z_getR fl_X6_35 rfl dX6_plan_45 q15 ?_
      refine z_aload 1 dX6_plan_48 rfl ?_
      refine z_aload_n 2 dX6_plan_50 rfl ?_
      obtain ⟨q16, h⟩ := h
      refine z_getR fl_X6_26 rfl dX6_plan_51 q16 ?_
      obtain ⟨b17, eb17, h⟩ := h
      rw [eb17]
      obtain ⟨q18, h⟩ := h
      refine z_getI fl_X6_138 dX6_plan_54 q18 ?_
      obtain ⟨b19, eb19, h⟩ := h
      rw [eb19]
      obtain ⟨q25, h⟩ := h
      obtain ⟨P20, c21, h⟩ := h
      refine z_Vi (as := [vR (some b13), vI (zI M8 b17 2)]) mv_X6_162 dX6_plan_57 c21 q25 rfl rfl (Nat.le_of_ble_eq_true rfl) (Nat.le_of_ble_eq_true rfl) (Nat.le_of_ble_eq_true rfl) (fun r23 M22 p24 => ?_)
      have h := h r23 M22 p24
      refine z_istore dX6_plan_60 (by decide) rfl ?_
      refine z_iload 0 dX6_plan_62 rfl ?_
      refine z_iconst dX6_plan_64 (by decide) ?_
      refine z_icmp_eq (tgt := 82) dX6_plan_65 (by decide) (fun q26 => ?_) (fun q26 => ?_)
      · have h := h.1 q26
        obtain ⟨q27, h⟩ := h
        refine z_iinc 5 dX6_plan_82 rfl (by decide) q27 rfl ?_
        refine z_goto (tgt := 7) dX6_plan_85 (by decide) ?_
        exact z_sub [4, 2, 5, 0] rfl h
      · have h := h.2 q26
        refine z_aload_n 3 dX6_plan_68 rfl ?_
        obtain ⟨q28, h⟩ := h
        refine z_getR fl_X6_26 rfl dX6_plan_69 q28 ?_
        refine z_aload 2 dX6_plan_72 rfl ?_
        refine z_iload 0 dX6_plan_74 rfl ?_
        obtain ⟨b29, eb29, h⟩ := h
        rw [eb29]
        obtain ⟨q35, h⟩ := h
        obtain ⟨P30, c31, h⟩ := h
        refine z_Vv (as := [vR (some b13), vI r23]) mv_X6_150 dX6_plan_76 c31 q35 rfl rfl (Nat.le_of_ble_eq_true rfl) (Nat.le_of_ble_eq_true rfl) (Nat.le_of_ble_eq_true rfl) (fun M32 p34 => ?_)
        have h := h M32 p34
        obtain ⟨q36, h⟩ := h
        refine z_iinc 4 dX6_plan_79 rfl (by decide) q36 rfl ?_
        obtain ⟨q37, h⟩ := h
        refine z_iinc 5 dX6_plan_82 rfl (by decide) q37 rfl ?_
        refine z_goto (tgt := 7) dX6_plan_85 (by decide) ?_
        exact z_sub [5, 3, 1, 0] rfl h
    · have h := h.2 q12
      refine z_iload_n 3 dX6_plan_34 rfl ?_
      exact z_iret hr dX6_plan_35 (Nat.le_of_ble_eq_true rfl) (Nat.le_of_ble_eq_true rfl) ⟨_, rfl, h⟩
theorem sX6_plan {E : zE} {d : Nat} {P : Int → zM → Prop} {M : zM} (a0 : Nat) (h : ∀ X : zX, (xh X).sig.returnType = (some .int) → ZX6_plan E d X P 0 [(0, vR (some a0))] [] M 0 0) : zCi E mX6_plan (d + 1) 0 0 [vR (some a0)] M P := z_start (f := mX6_plan) rfl (Nat.le_of_ble_eq_true rfl) rfl h
abbrev ZX6_best (E : zE) (d : Nat) (X : zX) (P : Int → zM → Prop) (pc : Nat) (Lc : List (Nat × zV)) (S : List zV) (M : zM) (ce sl : Nat) : Prop := zZ cX6_best RX6 "best" 1 E (zrm (d + 1) 0 0) X (zQ E (zPi P) X 0 0) pc Lc S M ce sl
set_option maxRecDepth 20000 in
theorem vX6_best_0 {E : zE} {d : Nat} {X : zX} {P : Int → zM → Prop} {M : zM} (hr : (xh X).sig.returnType = (some .int)) (a0 : Nat)
    (h : zK M a0 = (7, 5) ∧ ∃ b2, zR M a0 1 = some b2 ∧ zK M b2 = (3, 6) ∧ (((zI M b2 4) < 1 → P (-1) M) ∧ (1 ≤ (zI M b2 4) → zK M a0 = (7, 5) ∧ zK M b2 = (3, 6) ∧ ((6 < (zI M b2 4) → P (-1) M) ∧ ((zI M b2 4) ≤ 6 → zK M a0 = (7, 5) ∧ ∃ b9, zR M a0 2 = some b9 ∧ zK M b9 = (1, 3) ∧ (((zI M b9 2) ≠ 0 → P (-1) M) ∧ ((zI M b9 2) = 0 → zK M a0 = (7, 5) ∧ zK M b2 = (3, 6) ∧ ∃ P13 : Int64 → zM → Prop, zCl E mX2_allThatArePut d 0 0 [vR (some b2)] M P13 ∧ ∀ r16 M15, P13 r16 M15 → (((if (0 : Int64) < r16 then 1 else if r16 = (0 : Int64) then 0 else -1) = 0 → zK M15 a0 = (7, 5) ∧ ∃ b21, zR M15 a0 4 = some b21 ∧ zK M15 b21 = (4, 5) ∧ ∃ P22 : Int → zM → Prop, zCi E mX3_layBest d 0 0 [vR (some b21)] M15 P22 ∧ ∀ r25 M24, P22 r25 M24 → P r25 M24) ∧ ((if (0 : Int64) < r16 then 1 else if r16 = (0 : Int64) then 0 else -1) ≠ 0 → P (-1) M15))))))))) :
    ZX6_best E d X P 0 [(0, vR (some a0))] [] M 0 0 := by
  refine z_aload_n 0 dX6_best_0 rfl ?_
  obtain ⟨q1, h⟩ := h
  refine z_getR fl_X6_19 rfl dX6_best_1 q1 ?_
  obtain ⟨b2, eb2, h⟩ := h
  rw [eb2]
  obtain ⟨q3, h⟩ := h
  refine z_getI fl_X6_95 dX6_best_4 q3 ?_
  refine z_iconst dX6_best_7 (by decide) ?_
  refine z_icmp_lt (tgt := 45) dX6_best_8 (by decide) (fun q4 => ?_) (fun q4 => ?_)
  · have h := h.1 q4
    refine z_iconst dX6_best_45 (by decide) ?_
    exact z_iret hr dX6_best_46 (Nat.le_of_ble_eq_true rfl) (Nat.le_of_ble_eq_true rfl) ⟨_, rfl, h⟩
  · have h := h.2 q4
    refine z_aload_n 0 dX6_best_11 rfl ?_
    obtain ⟨q5, h⟩ := h
    refine z_getR fl_X6_19 rfl dX6_best_12 q5 ?_
    rw [eb2]
    obtain ⟨q6, h⟩ := h
    refine z_getI fl_X6_95 dX6_best_15 q6 ?_
    refine z_bipush dX6_best_18 (by decide) ?_
    refine z_icmp_gt (tgt := 45) dX6_best_20 (by decide) (fun q7 => ?_) (fun q7 => ?_)
    · have h := h.1 q7
      refine z_iconst dX6_best_45 (by decide) ?_
      exact z_iret hr dX6_best_46 (Nat.le_of_ble_eq_true rfl) (Nat.le_of_ble_eq_true rfl) ⟨_, rfl, h⟩
    · have h := h.2 q7
      refine z_aload_n 0 dX6_best_23 rfl ?_
      obtain ⟨q8, h⟩ := h
      refine z_getR fl_X6_26 rfl dX6_best_24 q8 ?_
      obtain ⟨b9, eb9, h⟩ := h
      rw [eb9]
      obtain ⟨q10, h⟩ := h
      refine z_getI fl_X6_138 dX6_best_27 q10 ?_
      refine z_if_ne (tgt := 45) dX6_best_30 (by decide) (fun q11 => ?_) (fun q11 => ?_)
      · have h := h.1 q11
        refine z_iconst dX6_best_45 (by decide) ?_
        exact z_iret hr dX6_best_46 (Nat.le_of_ble_eq_true rfl) (Nat.le_of_ble_eq_true rfl) ⟨_, rfl, h⟩
      · have h := h.2 q11
        refine z_aload_n 0 dX6_best_33 rfl ?_
        obtain ⟨q12, h⟩ := h
        refine z_getR fl_X6_19 rfl dX6_best_34 q12 ?_
        rw [eb2]
        obtain ⟨q18, h⟩ := h
        obtain ⟨P13, c14, h⟩ := h
        refine z_Vl (as := []) mv_X6_231 dX6_best_37 c14 q18 rfl rfl (Nat.le_of_ble_eq_true rfl) (Nat.le_of_ble_eq_true rfl) (Nat.le_of_ble_eq_true rfl) (fun r16 M15 p17 => ?_)
        have h := h r16 M15 p17
        refine z_lconst (v := 0) dX6_best_40 rfl ?_
        refine z_lcmp dX6_best_41 ?_
        refine z_if_eq (tgt := 47) dX6_best_42 (by decide) (fun q19 => ?_) (fun q19 => ?_)
        · have h := h.1 q19
          refine z_aload_n 0 dX6_best_47 rfl ?_
          obtain ⟨q20, h⟩ := h
          refine z_getR fl_X6_44 rfl dX6_best_48 q20 ?_
          obtain ⟨b21, eb21, h⟩ := h
          rw [eb21]
          obtain ⟨q27, h⟩ := h
          obtain ⟨P22, c23, h⟩ := h
          refine z_Vi (as := []) mv_X6_235 dX6_best_51 c23 q27 rfl rfl (Nat.le_of_ble_eq_true rfl) (Nat.le_of_ble_eq_true rfl) (Nat.le_of_ble_eq_true rfl) (fun r25 M24 p26 => ?_)
          have h := h r25 M24 p26
          exact z_iret hr dX6_best_54 (Nat.le_of_ble_eq_true rfl) (Nat.le_of_ble_eq_true rfl) ⟨_, rfl, h⟩
        · have h := h.2 q19
          refine z_iconst dX6_best_45 (by decide) ?_
          exact z_iret hr dX6_best_46 (Nat.le_of_ble_eq_true rfl) (Nat.le_of_ble_eq_true rfl) ⟨_, rfl, h⟩
theorem sX6_best {E : zE} {d : Nat} {P : Int → zM → Prop} {M : zM} (a0 : Nat) (h : ∀ X : zX, (xh X).sig.returnType = (some .int) → ZX6_best E d X P 0 [(0, vR (some a0))] [] M 0 0) : zCi E mX6_best (d + 1) 0 0 [vR (some a0)] M P := z_start (f := mX6_best) rfl (Nat.le_of_ble_eq_true rfl) rfl h
abbrev ZX6_end (E : zE) (d : Nat) (X : zX) (P : Int → zM → Prop) (pc : Nat) (Lc : List (Nat × zV)) (S : List zV) (M : zM) (ce sl : Nat) : Prop := zZ cX6_end RX6 "end" 4 E (zrm (d + 1) 0 0) X (zQ E (zPi P) X 0 0) pc Lc S M ce sl
set_option maxRecDepth 20000 in
theorem vX6_end_0 {E : zE} {d : Nat} {X : zX} {P : Int → zM → Prop} {M : zM} (hr : (xh X).sig.returnType = (some .int)) (a0 : Nat)
    (h : ZX6_end E d X P 4 [(0, vR (some a0)), (1, vI 0), (2, vI 0)] [] M 0 0) :
    ZX6_end E d X P 0 [(0, vR (some a0))] [] M 0 0 := by
  refine z_iconst dX6_end_0 (by decide) ?_
  refine z_istore_n dX6_end_1 (by decide) rfl ?_
  refine z_iconst dX6_end_2 (by decide) ?_
  refine z_istore_n dX6_end_3 (by decide) rfl ?_
  exact z_sub [2, 1, 0] rfl h
set_option maxRecDepth 20000 in
theorem vX6_end_4 {E : zE} {d : Nat} {X : zX} {P : Int → zM → Prop} {M : zM} (hr : (xh X).sig.returnType = (some .int)) (a0 : Nat) (x1 : Int) (x2 : Int)
    (h : zK M a0 = (7, 5) ∧ ∃ b2, zR M a0 1 = some b2 ∧ zK M b2 = (3, 6) ∧ (((zI M b2 4) ≤ x2 → P x1 M) ∧ (x2 < (zI M b2 4) → zK M a0 = (7, 5) ∧ zK M b2 = (3, 6) ∧ ∃ b7, zR M b2 0 = some b7 ∧ ((zK M b7).1 = 12 ∨ (zK M b7).1 = 13) ∧ 0 ≤ x2 ∧ x2 < ((zK M b7).2 : Int) ∧ ∃ b11, zR M b7 x2 = some b11 ∧ zK M b11 = (6, 16) ∧ ∃ P12 : Int → zM → Prop, zCi E mX5_isOpen d 0 0 [vR (some b11)] M P12 ∧ ∀ r15 M14, P12 r15 M14 → ((r15 ≠ 0 → zin (x2 + 1) ∧ ZX6_end E d X P 4 [(0, vR (some a0)), (1, vI x1), (2, vI (x2 + 1))] [] M14 0 0) ∧ (r15 = 0 → zK M14 b11 = (6, 16) ∧ ∃ P20 : Int → zM → Prop, zCi E mX5_behind d 0 0 [vR (some b11)] M14 P20 ∧ ∀ r23 M22, P20 r23 M22 → zin (x2 + 1) ∧ ZX6_end E d X P 4 [(0, vR (some a0)), (1, vI (max x1 r23)), (2, vI (x2 + 1))] [] M22 0 0))))) :
    ZX6_end E d X P 4 [(0, vR (some a0)), (1, vI x1), (2, vI x2)] [] M 0 0 := by
  refine z_iload_n 2 dX6_end_4 rfl ?_
  refine z_aload_n 0 dX6_end_5 rfl ?_
  obtain ⟨q1, h⟩ := h
  refine z_getR fl_X6_19 rfl dX6_end_6 q1 ?_
  obtain ⟨b2, eb2, h⟩ := h
  rw [eb2]
  obtain ⟨q3, h⟩ := h
  refine z_getI fl_X6_95 dX6_end_9 q3 ?_
  refine z_icmp_ge (tgt := 47) dX6_end_12 (by decide) (fun q4 => ?_) (fun q4 => ?_)
  · have h := h.1 q4
    refine z_iload_n 1 dX6_end_47 rfl ?_
    exact z_iret hr dX6_end_48 (Nat.le_of_ble_eq_true rfl) (Nat.le_of_ble_eq_true rfl) ⟨_, rfl, h⟩
  · have h := h.2 q4
    refine z_aload_n 0 dX6_end_15 rfl ?_
    obtain ⟨q5, h⟩ := h
    refine z_getR fl_X6_19 rfl dX6_end_16 q5 ?_
    rw [eb2]
    obtain ⟨q6, h⟩ := h
    refine z_getR fl_X6_166 rfl dX6_end_19 q6 ?_
    refine z_iload_n 2 dX6_end_22 rfl ?_
    obtain ⟨b7, eb7, h⟩ := h
    rw [eb7]
    obtain ⟨q8, h⟩ := h
    obtain ⟨q9, h⟩ := h
    obtain ⟨q10, h⟩ := h
    refine z_aald dX6_end_23 (n := (zK M b7).2) rfl q8 q9 q10 ?_
    refine z_astore_n dX6_end_24 (by decide) rfl ?_
    refine z_aload_n 0 dX6_end_25 rfl ?_
    obtain ⟨b11, eb11, h⟩ := h
    rw [eb11]
    obtain ⟨q17, h⟩ := h
    obtain ⟨P12, c13, h⟩ := h
    refine z_Vi (as := []) mv_X6_154 dX6_end_26 c13 q17 rfl rfl (Nat.le_of_ble_eq_true rfl) (Nat.le_of_ble_eq_true rfl) (Nat.le_of_ble_eq_true rfl) (fun r15 M14 p16 => ?_)
    have h := h r15 M14 p16
    refine z_if_ne (tgt := 41) dX6_end_29 (by decide) (fun q18 => ?_) (fun q18 => ?_)
    · have h := h.1 q18
      obtain ⟨q19, h⟩ := h
      refine z_iinc 3 dX6_end_41 rfl (by decide) q19 rfl ?_
      refine z_goto (tgt := 4) dX6_end_44 (by decide) ?_
      exact z_sub [2, 3, 0] rfl h
    · have h := h.2 q18
      refine z_iload_n 2 dX6_end_32 rfl ?_
      refine z_aload_n 0 dX6_end_33 rfl ?_
      obtain ⟨q25, h⟩ := h
      obtain ⟨P20, c21, h⟩ := h
      refine z_Vi (as := []) mv_X6_239 dX6_end_34 c21 q25 rfl rfl (Nat.le_of_ble_eq_true rfl) (Nat.le_of_ble_eq_true rfl) (Nat.le_of_ble_eq_true rfl) (fun r23 M22 p24 => ?_)
      have h := h r23 M22 p24
      refine z_max mm_X6_242 dX6_end_37 (Nat.le_of_ble_eq_true rfl) zr3 zr4 (Nat.le_of_ble_eq_true rfl) (Nat.le_of_ble_eq_true rfl) ?_
      refine z_istore_n dX6_end_40 (by decide) rfl ?_
      obtain ⟨q26, h⟩ := h
      refine z_iinc 3 dX6_end_41 rfl (by decide) q26 rfl ?_
      refine z_goto (tgt := 4) dX6_end_44 (by decide) ?_
      exact z_sub [3, 1, 0] rfl h
theorem sX6_end {E : zE} {d : Nat} {P : Int → zM → Prop} {M : zM} (a0 : Nat) (h : ∀ X : zX, (xh X).sig.returnType = (some .int) → ZX6_end E d X P 0 [(0, vR (some a0))] [] M 0 0) : zCi E mX6_end (d + 1) 0 0 [vR (some a0)] M P := z_start (f := mX6_end) rfl (Nat.le_of_ble_eq_true rfl) rfl h
abbrev ZX6_bound (E : zE) (d : Nat) (X : zX) (P : Int → zM → Prop) (pc : Nat) (Lc : List (Nat × zV)) (S : List zV) (M : zM) (ce sl : Nat) : Prop := zZ cX6_bound RX6 "bound" 3 E (zrm (d + 1) 0 0) X (zQ E (zPi P) X 0 0) pc Lc S M ce sl
set_option maxRecDepth 20000 in
theorem vX6_bound_0 {E : zE} {d : Nat} {X : zX} {P : Int → zM → Prop} {M : zM} (hr : (xh X).sig.returnType = (some .int)) (a0 : Nat)
    (h : zK M a0 = (7, 5) ∧ ∃ b2, zR M a0 1 = some b2 ∧ zK M b2 = (3, 6) ∧ ZX6_bound E d X P 10 [(0, vR (some a0)), (1, vI (zI M b2 5)), (2, vI 0)] [] M 0 0) :
    ZX6_bound E d X P 0 [(0, vR (some a0))] [] M 0 0 := by
  refine z_aload_n 0 dX6_bound_0 rfl ?_
  obtain ⟨q1, h⟩ := h
  refine z_getR fl_X6_19 rfl dX6_bound_1 q1 ?_
  obtain ⟨b2, eb2, h⟩ := h
  rw [eb2]
  obtain ⟨q3, h⟩ := h
  refine z_getI fl_X6_247 dX6_bound_4 q3 ?_
  refine z_istore_n dX6_bound_7 (by decide) rfl ?_
  refine z_iconst dX6_bound_8 (by decide) ?_
  refine z_istore_n dX6_bound_9 (by decide) rfl ?_
  exact z_sub [2, 1, 0] rfl h
set_option maxRecDepth 20000 in
theorem vX6_bound_10 {E : zE} {d : Nat} {X : zX} {P : Int → zM → Prop} {M : zM} (hr : (xh X).sig.returnType = (some .int)) (a0 : Nat) (x1 : Int) (x2 : Int)
    (h : ((4 ≤ x2 → ZX6_bound E d X P 48 [(0, vR (some a0)), (1, vI x1), (2, vI 0)] [] M 0 0) ∧ (x2 < 4 → zK M a0 = (7, 5) ∧ ∃ b3, zR M a0 1 = some b3 ∧ zK M b3 = (3, 6) ∧ ∃ P4 : Int → zM → Prop, zCi E mX2_askedOfTrade d 0 0 [vR (some b3), vI x2] M P4 ∧ ∀ r7 M6, P4 r7 M6 → zK M6 a0 = (7, 5) ∧ ∃ b11, zR M6 a0 3 = some b11 ∧ zK M6 b11 = (5, 5) ∧ ∃ b13, zR M6 b11 0 = some b13 ∧ (zK M6 b13).1 = 9 ∧ 0 ≤ x2 ∧ x2 < ((zK M6 b13).2 : Int) ∧ ∃ P17 : Int → zM → Prop, zCi E mX6_shiftsFor d 0 0 [vI r7, vI (zI M6 b13 x2)] M6 P17 ∧ ∀ r20 M19, P17 r20 M19 → ∃ P22 : Int → zM → Prop, zCi E mX6_greater d 0 0 [vI x1, vI r20] M19 P22 ∧ ∀ r25 M24, P22 r25 M24 → zin (x2 + 1) ∧ ZX6_bound E d X P 10 [(0, vR (some a0)), (1, vI r25), (2, vI (x2 + 1))] [] M24 0 0))) :
    ZX6_bound E d X P 10 [(0, vR (some a0)), (1, vI x1), (2, vI x2)] [] M 0 0 := by
  refine z_iload_n 2 dX6_bound_10 rfl ?_
  refine z_iconst dX6_bound_11 (by decide) ?_
  refine z_icmp_ge (tgt := 46) dX6_bound_12 (by decide) (fun q1 => ?_) (fun q1 => ?_)
  · have h := h.1 q1
    refine z_iconst dX6_bound_46 (by decide) ?_
    refine z_istore_n dX6_bound_47 (by decide) rfl ?_
    exact z_sub [1, 2, 0] rfl h
  · have h := h.2 q1
    refine z_iload_n 1 dX6_bound_15 rfl ?_
    refine z_aload_n 0 dX6_bound_16 rfl ?_
    obtain ⟨q2, h⟩ := h
    refine z_getR fl_X6_19 rfl dX6_bound_17 q2 ?_
    refine z_iload_n 2 dX6_bound_20 rfl ?_
    obtain ⟨b3, eb3, h⟩ := h
    rw [eb3]
    obtain ⟨q9, h⟩ := h
    obtain ⟨P4, c5, h⟩ := h
    refine z_Vi (as := [vI x2]) mv_X6_250 dX6_bound_21 c5 q9 rfl rfl (Nat.le_of_ble_eq_true rfl) (Nat.le_of_ble_eq_true rfl) (Nat.le_of_ble_eq_true rfl) (fun r7 M6 p8 => ?_)
    have h := h r7 M6 p8
    refine z_aload_n 0 dX6_bound_24 rfl ?_
    obtain ⟨q10, h⟩ := h
    refine z_getR fl_X6_35 rfl dX6_bound_25 q10 ?_
    obtain ⟨b11, eb11, h⟩ := h
    rw [eb11]
    obtain ⟨q12, h⟩ := h
    refine z_getR fl_X6_74 rfl dX6_bound_28 q12 ?_
    refine z_iload_n 2 dX6_bound_31 rfl ?_
    obtain ⟨b13, eb13, h⟩ := h
    rw [eb13]
    obtain ⟨q14, h⟩ := h
    obtain ⟨q15, h⟩ := h
    obtain ⟨q16, h⟩ := h
    refine z_iald dX6_bound_32 (n := (zK M6 b13).2) (Prod.ext q14 rfl) q15 q16 ?_
    obtain ⟨P17, c18, h⟩ := h
    refine z_Si (as := [vI r7, vI (zI M6 b13 x2)]) ms_X6_253 dX6_bound_33 c18 rfl rfl (Nat.le_of_ble_eq_true rfl) (Nat.le_of_ble_eq_true rfl) (Nat.le_of_ble_eq_true rfl) (fun r20 M19 p21 => ?_)
    have h := h r20 M19 p21
    obtain ⟨P22, c23, h⟩ := h
    refine z_Si (as := [vI x1, vI r20]) ms_X6_256 dX6_bound_36 c23 rfl rfl (Nat.le_of_ble_eq_true rfl) (Nat.le_of_ble_eq_true rfl) (Nat.le_of_ble_eq_true rfl) (fun r25 M24 p26 => ?_)
    have h := h r25 M24 p26
    refine z_istore_n dX6_bound_39 (by decide) rfl ?_
    obtain ⟨q27, h⟩ := h
    refine z_iinc 2 dX6_bound_40 rfl (by decide) q27 rfl ?_
    refine z_goto (tgt := 10) dX6_bound_43 (by decide) ?_
    exact z_sub [2, 1, 0] rfl h
set_option maxRecDepth 20000 in
theorem vX6_bound_48 {E : zE} {d : Nat} {X : zX} {P : Int → zM → Prop} {M : zM} (hr : (xh X).sig.returnType = (some .int)) (a0 : Nat) (x1 : Int) (x2 : Int)
    (h : ((4 ≤ x2 → ZX6_bound E d X P 86 [(0, vR (some a0)), (1, vI x1), (2, vI 0)] [] M 0 0) ∧ (x2 < 4 → zK M a0 = (7, 5) ∧ ∃ b3, zR M a0 1 = some b3 ∧ zK M b3 = (3, 6) ∧ ∃ P4 : Int → zM → Prop, zCi E mX2_askedOfGood d 0 0 [vR (some b3), vI x2] M P4 ∧ ∀ r7 M6, P4 r7 M6 → zK M6 a0 = (7, 5) ∧ ∃ b11, zR M6 a0 3 = some b11 ∧ zK M6 b11 = (5, 5) ∧ ∃ b13, zR M6 b11 1 = some b13 ∧ (zK M6 b13).1 = 9 ∧ 0 ≤ x2 ∧ x2 < ((zK M6 b13).2 : Int) ∧ ∃ P17 : Int → zM → Prop, zCi E mX6_shiftsFor d 0 0 [vI r7, vI (zI M6 b13 x2)] M6 P17 ∧ ∀ r20 M19, P17 r20 M19 → ∃ P22 : Int → zM → Prop, zCi E mX6_greater d 0 0 [vI x1, vI r20] M19 P22 ∧ ∀ r25 M24, P22 r25 M24 → zin (x2 + 1) ∧ ZX6_bound E d X P 48 [(0, vR (some a0)), (1, vI r25), (2, vI (x2 + 1))] [] M24 0 0))) :
    ZX6_bound E d X P 48 [(0, vR (some a0)), (1, vI x1), (2, vI x2)] [] M 0 0 := by
  refine z_iload_n 2 dX6_bound_48 rfl ?_
  refine z_iconst dX6_bound_49 (by decide) ?_
  refine z_icmp_ge (tgt := 84) dX6_bound_50 (by decide) (fun q1 => ?_) (fun q1 => ?_)
  · have h := h.1 q1
    refine z_iconst dX6_bound_84 (by decide) ?_
    refine z_istore_n dX6_bound_85 (by decide) rfl ?_
    exact z_sub [1, 2, 0] rfl h
  · have h := h.2 q1
    refine z_iload_n 1 dX6_bound_53 rfl ?_
    refine z_aload_n 0 dX6_bound_54 rfl ?_
    obtain ⟨q2, h⟩ := h
    refine z_getR fl_X6_19 rfl dX6_bound_55 q2 ?_
    refine z_iload_n 2 dX6_bound_58 rfl ?_
    obtain ⟨b3, eb3, h⟩ := h
    rw [eb3]
    obtain ⟨q9, h⟩ := h
    obtain ⟨P4, c5, h⟩ := h
    refine z_Vi (as := [vI x2]) mv_X6_259 dX6_bound_59 c5 q9 rfl rfl (Nat.le_of_ble_eq_true rfl) (Nat.le_of_ble_eq_true rfl) (Nat.le_of_ble_eq_true rfl) (fun r7 M6 p8 => ?_)
    have h := h r7 M6 p8
    refine z_aload_n 0 dX6_bound_62 rfl ?_
    obtain ⟨q10, h⟩ := h
    refine z_getR fl_X6_35 rfl dX6_bound_63 q10 ?_
    obtain ⟨b11, eb11, h⟩ := h
    rw [eb11]
    obtain ⟨q12, h⟩ := h
    refine z_getR fl_X6_81 rfl dX6_bound_66 q12 ?_
    refine z_iload_n 2 dX6_bound_69 rfl ?_
    obtain ⟨b13, eb13, h⟩ := h
    rw [eb13]
    obtain ⟨q14, h⟩ := h
    obtain ⟨q15, h⟩ := h
    obtain ⟨q16, h⟩ := h
    refine z_iald dX6_bound_70 (n := (zK M6 b13).2) (Prod.ext q14 rfl) q15 q16 ?_
    obtain ⟨P17, c18, h⟩ := h
    refine z_Si (as := [vI r7, vI (zI M6 b13 x2)]) ms_X6_253 dX6_bound_71 c18 rfl rfl (Nat.le_of_ble_eq_true rfl) (Nat.le_of_ble_eq_true rfl) (Nat.le_of_ble_eq_true rfl) (fun r20 M19 p21 => ?_)
    have h := h r20 M19 p21
    obtain ⟨P22, c23, h⟩ := h
    refine z_Si (as := [vI x1, vI r20]) ms_X6_256 dX6_bound_74 c23 rfl rfl (Nat.le_of_ble_eq_true rfl) (Nat.le_of_ble_eq_true rfl) (Nat.le_of_ble_eq_true rfl) (fun r25 M24 p26 => ?_)
    have h := h r25 M24 p26
    refine z_istore_n dX6_bound_77 (by decide) rfl ?_
    obtain ⟨q27, h⟩ := h
    refine z_iinc 2 dX6_bound_78 rfl (by decide) q27 rfl ?_
    refine z_goto (tgt := 48) dX6_bound_81 (by decide) ?_
    exact z_sub [2, 1, 0] rfl h
set_option maxRecDepth 20000 in
theorem vX6_bound_86 {E : zE} {d : Nat} {X : zX} {P : Int → zM → Prop} {M : zM} (hr : (xh X).sig.returnType = (some .int)) (a0 : Nat) (x1 : Int) (x2 : Int)
    (h : zK M a0 = (7, 5) ∧ ∃ b2, zR M a0 0 = some b2 ∧ zK M b2 = (2, 5) ∧ (((zI M b2 3) ≤ x2 → P x1 M) ∧ (x2 < (zI M b2 3) → zK M a0 = (7, 5) ∧ ∃ b6, zR M a0 1 = some b6 ∧ zK M b6 = (3, 6) ∧ ∃ P7 : Int → zM → Prop, zCi E mX2_askedOfSpace d 0 0 [vR (some b6), vI x2] M P7 ∧ ∀ r10 M9, P7 r10 M9 → zK M9 a0 = (7, 5) ∧ ∃ b14, zR M9 a0 0 = some b14 ∧ zK M9 b14 = (2, 5) ∧ ∃ b16, zR M9 b14 0 = some b16 ∧ (zK M9 b16).1 = 9 ∧ 0 ≤ x2 ∧ x2 < ((zK M9 b16).2 : Int) ∧ ∃ P20 : Int → zM → Prop, zCi E mX6_shiftsFor d 0 0 [vI r10, vI (zI M9 b16 x2)] M9 P20 ∧ ∀ r23 M22, P20 r23 M22 → ∃ P25 : Int → zM → Prop, zCi E mX6_greater d 0 0 [vI x1, vI r23] M22 P25 ∧ ∀ r28 M27, P25 r28 M27 → zin (x2 + 1) ∧ ZX6_bound E d X P 86 [(0, vR (some a0)), (1, vI r28), (2, vI (x2 + 1))] [] M27 0 0))) :
    ZX6_bound E d X P 86 [(0, vR (some a0)), (1, vI x1), (2, vI x2)] [] M 0 0 := by
  refine z_iload_n 2 dX6_bound_86 rfl ?_
  refine z_aload_n 0 dX6_bound_87 rfl ?_
  obtain ⟨q1, h⟩ := h
  refine z_getR fl_X6_10 rfl dX6_bound_88 q1 ?_
  obtain ⟨b2, eb2, h⟩ := h
  rw [eb2]
  obtain ⟨q3, h⟩ := h
  refine z_getI fl_X6_48 dX6_bound_91 q3 ?_
  refine z_icmp_ge (tgt := 128) dX6_bound_94 (by decide) (fun q4 => ?_) (fun q4 => ?_)
  · have h := h.1 q4
    refine z_iload_n 1 dX6_bound_128 rfl ?_
    exact z_iret hr dX6_bound_129 (Nat.le_of_ble_eq_true rfl) (Nat.le_of_ble_eq_true rfl) ⟨_, rfl, h⟩
  · have h := h.2 q4
    refine z_iload_n 1 dX6_bound_97 rfl ?_
    refine z_aload_n 0 dX6_bound_98 rfl ?_
    obtain ⟨q5, h⟩ := h
    refine z_getR fl_X6_19 rfl dX6_bound_99 q5 ?_
    refine z_iload_n 2 dX6_bound_102 rfl ?_
    obtain ⟨b6, eb6, h⟩ := h
    rw [eb6]
    obtain ⟨q12, h⟩ := h
    obtain ⟨P7, c8, h⟩ := h
    refine z_Vi (as := [vI x2]) mv_X6_262 dX6_bound_103 c8 q12 rfl rfl (Nat.le_of_ble_eq_true rfl) (Nat.le_of_ble_eq_true rfl) (Nat.le_of_ble_eq_true rfl) (fun r10 M9 p11 => ?_)
    have h := h r10 M9 p11
    refine z_aload_n 0 dX6_bound_106 rfl ?_
    obtain ⟨q13, h⟩ := h
    refine z_getR fl_X6_10 rfl dX6_bound_107 q13 ?_
    obtain ⟨b14, eb14, h⟩ := h
    rw [eb14]
    obtain ⟨q15, h⟩ := h
    refine z_getR fl_X6_265 rfl dX6_bound_110 q15 ?_
    refine z_iload_n 2 dX6_bound_113 rfl ?_
    obtain ⟨b16, eb16, h⟩ := h
    rw [eb16]
    obtain ⟨q17, h⟩ := h
    obtain ⟨q18, h⟩ := h
    obtain ⟨q19, h⟩ := h
    refine z_iald dX6_bound_114 (n := (zK M9 b16).2) (Prod.ext q17 rfl) q18 q19 ?_
    obtain ⟨P20, c21, h⟩ := h
    refine z_Si (as := [vI r10, vI (zI M9 b16 x2)]) ms_X6_253 dX6_bound_115 c21 rfl rfl (Nat.le_of_ble_eq_true rfl) (Nat.le_of_ble_eq_true rfl) (Nat.le_of_ble_eq_true rfl) (fun r23 M22 p24 => ?_)
    have h := h r23 M22 p24
    obtain ⟨P25, c26, h⟩ := h
    refine z_Si (as := [vI x1, vI r23]) ms_X6_256 dX6_bound_118 c26 rfl rfl (Nat.le_of_ble_eq_true rfl) (Nat.le_of_ble_eq_true rfl) (Nat.le_of_ble_eq_true rfl) (fun r28 M27 p29 => ?_)
    have h := h r28 M27 p29
    refine z_istore_n dX6_bound_121 (by decide) rfl ?_
    obtain ⟨q30, h⟩ := h
    refine z_iinc 2 dX6_bound_122 rfl (by decide) q30 rfl ?_
    refine z_goto (tgt := 86) dX6_bound_125 (by decide) ?_
    exact z_sub [2, 1, 0] rfl h
theorem sX6_bound {E : zE} {d : Nat} {P : Int → zM → Prop} {M : zM} (a0 : Nat) (h : ∀ X : zX, (xh X).sig.returnType = (some .int) → ZX6_bound E d X P 0 [(0, vR (some a0))] [] M 0 0) : zCi E mX6_bound (d + 1) 0 0 [vR (some a0)] M P := z_start (f := mX6_bound) rfl (Nat.le_of_ble_eq_true rfl) rfl h
abbrev ZX6_go (E : zE) (d : Nat) (X : zX) (P : Int → zM → Prop) (pc : Nat) (Lc : List (Nat × zV)) (S : List zV) (M : zM) (ce sl : Nat) : Prop := zZ cX6_go RX6 "go" 2 E (zrm (d + 1) 0 0) X (zQ E (zPi P) X 0 0) pc Lc S M ce sl
set_option maxRecDepth 20000 in
theorem vX6_go_0 {E : zE} {d : Nat} {X : zX} {P : Int → zM → Prop} {M : zM} (hr : (xh X).sig.returnType = (some .int)) (a0 : Nat) (x1 : Int)
    (h : ((x1 < 0 → P (-1) M) ∧ (0 ≤ x1 → ((x1 ≤ 400 → zK M a0 = (7, 5) ∧ zK M a0 = (7, 5) ∧ ∃ b5, zR M a0 2 = some b5 ∧ zK M b5 = (1, 3) ∧ zin ((zI M b5 2) + x1) ∧ zK M b5 = (1, 3) ∧ ∀ M9, M9 = zsI M b5 2 (min 400 ((zI M b5 2) + x1)) → zK M9 a0 = (7, 5) ∧ ∃ b11, zR M9 a0 2 = some b11 ∧ zK M9 b11 = (1, 3) ∧ P (zI M9 b11 2) M9) ∧ (400 < x1 → P (-1) M))))) :
    ZX6_go E d X P 0 [(0, vR (some a0)), (1, vI x1)] [] M 0 0 := by
  refine z_iload_n 1 dX6_go_0 rfl ?_
  refine z_if_lt (tgt := 11) dX6_go_1 (by decide) (fun q1 => ?_) (fun q1 => ?_)
  · have h := h.1 q1
    refine z_iconst dX6_go_11 (by decide) ?_
    exact z_iret hr dX6_go_12 (Nat.le_of_ble_eq_true rfl) (Nat.le_of_ble_eq_true rfl) ⟨_, rfl, h⟩
  · have h := h.2 q1
    refine z_iload_n 1 dX6_go_4 rfl ?_
    refine z_sipush dX6_go_5 (by decide) ?_
    refine z_icmp_le (tgt := 13) dX6_go_8 (by decide) (fun q2 => ?_) (fun q2 => ?_)
    · have h := h.1 q2
      refine z_aload_n 0 dX6_go_13 rfl ?_
      obtain ⟨q3, h⟩ := h
      refine z_getR fl_X6_26 rfl dX6_go_14 q3 ?_
      refine z_sipush dX6_go_17 (by decide) ?_
      refine z_aload_n 0 dX6_go_20 rfl ?_
      obtain ⟨q4, h⟩ := h
      refine z_getR fl_X6_26 rfl dX6_go_21 q4 ?_
      obtain ⟨b5, eb5, h⟩ := h
      rw [eb5]
      obtain ⟨q6, h⟩ := h
      refine z_getI fl_X6_138 dX6_go_24 q6 ?_
      refine z_iload_n 1 dX6_go_27 rfl ?_
      obtain ⟨q7, h⟩ := h
      refine z_iadd dX6_go_28 q7 ?_
      refine z_min mm_X6_268 dX6_go_29 (Nat.le_of_ble_eq_true rfl) zr3 zr4 (Nat.le_of_ble_eq_true rfl) (Nat.le_of_ble_eq_true rfl) ?_
      obtain ⟨q8, h⟩ := h
      refine z_putI fl_X6_138 (Or.inl rfl) dX6_go_32 q8 ?_
      obtain ⟨M9, hmM9⟩ : ∃ z, z = zsI M b5 2 (min 400 ((zI M b5 2) + x1)) := ⟨_, rfl⟩
      rw [← hmM9]
      have h := h M9 hmM9
      refine z_aload_n 0 dX6_go_35 rfl ?_
      obtain ⟨q10, h⟩ := h
      refine z_getR fl_X6_26 rfl dX6_go_36 q10 ?_
      obtain ⟨b11, eb11, h⟩ := h
      rw [eb11]
      obtain ⟨q12, h⟩ := h
      refine z_getI fl_X6_138 dX6_go_39 q12 ?_
      exact z_iret hr dX6_go_42 (Nat.le_of_ble_eq_true rfl) (Nat.le_of_ble_eq_true rfl) ⟨_, rfl, h⟩
    · have h := h.2 q2
      refine z_iconst dX6_go_11 (by decide) ?_
      exact z_iret hr dX6_go_12 (Nat.le_of_ble_eq_true rfl) (Nat.le_of_ble_eq_true rfl) ⟨_, rfl, h⟩
theorem sX6_go {E : zE} {d : Nat} {P : Int → zM → Prop} {M : zM} (a0 : Nat) (x1 : Int) (h : ∀ X : zX, (xh X).sig.returnType = (some .int) → ZX6_go E d X P 0 [(0, vR (some a0)), (1, vI x1)] [] M 0 0) : zCi E mX6_go (d + 1) 0 0 [vR (some a0), vI x1] M P := z_start (f := mX6_go) rfl (Nat.le_of_ble_eq_true rfl) rfl h
abbrev ZX6_fail (E : zE) (d : Nat) (X : zX) (P : Int → zM → Prop) (pc : Nat) (Lc : List (Nat × zV)) (S : List zV) (M : zM) (ce sl : Nat) : Prop := zZ cX6_fail RX6 "fail" 7 E (zrm (d + 1) 0 0) X (zQ E (zPi P) X 0 0) pc Lc S M ce sl
set_option maxRecDepth 20000 in
theorem vX6_fail_0 {E : zE} {d : Nat} {X : zX} {P : Int → zM → Prop} {M : zM} (hr : (xh X).sig.returnType = (some .int)) (a0 : Nat) (x1 : Int)
    (h : zK M a0 = (7, 5) ∧ ∃ b2, zR M a0 1 = some b2 ∧ zK M b2 = (3, 6) ∧ ∃ P3 : Option Nat → zM → Prop, zCr E mX2_find d 0 0 [vR (some b2), vI x1] M P3 ∧ ∀ r6 M5, P3 r6 M5 → ((r6 = none → P (-1) M5) ∧ (r6 ≠ none → ∃ b10, r6 = some b10 ∧ zK M5 b10 = (6, 16) ∧ (((zI M5 b10 5) ≠ 4 → P (-1) M5) ∧ ((zI M5 b10 5) = 4 → zK M5 a0 = (7, 5) ∧ ∃ b14, zR M5 a0 2 = some b14 ∧ zK M5 b14 = (1, 3) ∧ zK M5 b10 = (6, 16) ∧ ∃ P16 : Int → zM → Prop, zCi E mX5_isDone d 0 0 [vR (some b10), vI (zI M5 b14 2)] M5 P16 ∧ ∀ r19 M18, P16 r19 M18 → ((r19 ≠ 0 → zK M18 a0 = (7, 5) ∧ zK M18 a0 = (7, 5) ∧ ∃ b25, zR M18 a0 2 = some b25 ∧ zK M18 b25 = (1, 3) ∧ ∃ b27, zR M18 a0 1 = some b27 ∧ zK M18 b27 = (3, 6) ∧ ∃ P28 : Int64 → zM → Prop, zCl E mX2_openedWith d 0 0 [vR (some b27), vR (some b10), vI (zI M18 b25 2)] M18 P28 ∧ ∀ r31 M30, P28 r31 M30 → ZX6_fail E d X P 56 [(0, vR (some a0)), (1, vI x1), (2, vR (some b10)), (3, vL r31), (5, vI 0)] [] M30 0 0) ∧ (r19 = 0 → P (-1) M18))))))) :
    ZX6_fail E d X P 0 [(0, vR (some a0)), (1, vI x1)] [] M 0 0 := by
  refine z_aload_n 0 dX6_fail_0 rfl ?_
  obtain ⟨q1, h⟩ := h
  refine z_getR fl_X6_19 rfl dX6_fail_1 q1 ?_
  refine z_iload_n 1 dX6_fail_4 rfl ?_
  obtain ⟨b2, eb2, h⟩ := h
  rw [eb2]
  obtain ⟨q8, h⟩ := h
  obtain ⟨P3, c4, h⟩ := h
  refine z_Vr (as := [vI x1]) mv_X6_113 dX6_fail_5 c4 q8 rfl rfl (Nat.le_of_ble_eq_true rfl) (Nat.le_of_ble_eq_true rfl) (Nat.le_of_ble_eq_true rfl) (fun r6 M5 p7 => ?_)
  have h := h r6 M5 p7
  refine z_astore_n dX6_fail_8 (by decide) rfl ?_
  refine z_aload_n 0 dX6_fail_9 rfl ?_
  refine z_ifnull (tgt := 35) dX6_fail_10 (by decide) (fun q9 => ?_) (fun q9 => ?_)
  · have h := h.1 q9
    refine z_iconst dX6_fail_35 (by decide) ?_
    exact z_iret hr dX6_fail_36 (Nat.le_of_ble_eq_true rfl) (Nat.le_of_ble_eq_true rfl) ⟨_, rfl, h⟩
  · have h := h.2 q9
    refine z_aload_n 0 dX6_fail_13 rfl ?_
    obtain ⟨b10, eb10, h⟩ := h
    rw [eb10]
    obtain ⟨q11, h⟩ := h
    refine z_getI fl_X6_128 dX6_fail_14 q11 ?_
    refine z_iconst dX6_fail_17 (by decide) ?_
    refine z_icmp_ne (tgt := 35) dX6_fail_18 (by decide) (fun q12 => ?_) (fun q12 => ?_)
    · have h := h.1 q12
      refine z_iconst dX6_fail_35 (by decide) ?_
      exact z_iret hr dX6_fail_36 (Nat.le_of_ble_eq_true rfl) (Nat.le_of_ble_eq_true rfl) ⟨_, rfl, h⟩
    · have h := h.2 q12
      refine z_aload_n 0 dX6_fail_21 rfl ?_
      refine z_aload_n 1 dX6_fail_22 rfl ?_
      obtain ⟨q13, h⟩ := h
      refine z_getR fl_X6_26 rfl dX6_fail_23 q13 ?_
      obtain ⟨b14, eb14, h⟩ := h
      rw [eb14]
      obtain ⟨q15, h⟩ := h
      refine z_getI fl_X6_138 dX6_fail_26 q15 ?_
      obtain ⟨q21, h⟩ := h
      obtain ⟨P16, c17, h⟩ := h
      refine z_Vi (as := [vI (zI M5 b14 2)]) mv_X6_271 dX6_fail_29 c17 q21 rfl rfl (Nat.le_of_ble_eq_true rfl) (Nat.le_of_ble_eq_true rfl) (Nat.le_of_ble_eq_true rfl) (fun r19 M18 p20 => ?_)
      have h := h r19 M18 p20
      refine z_if_ne (tgt := 37) dX6_fail_32 (by decide) (fun q22 => ?_) (fun q22 => ?_)
      · have h := h.1 q22
        refine z_aload_n 1 dX6_fail_37 rfl ?_
        obtain ⟨q23, h⟩ := h
        refine z_getR fl_X6_19 rfl dX6_fail_38 q23 ?_
        refine z_aload_n 0 dX6_fail_41 rfl ?_
        refine z_aload_n 1 dX6_fail_42 rfl ?_
        obtain ⟨q24, h⟩ := h
        refine z_getR fl_X6_26 rfl dX6_fail_43 q24 ?_
        obtain ⟨b25, eb25, h⟩ := h
        rw [eb25]
        obtain ⟨q26, h⟩ := h
        refine z_getI fl_X6_138 dX6_fail_46 q26 ?_
        obtain ⟨b27, eb27, h⟩ := h
        rw [eb27]
        obtain ⟨q33, h⟩ := h
        obtain ⟨P28, c29, h⟩ := h
        refine z_Vl (as := [vR (some b10), vI (zI M18 b25 2)]) mv_X6_274 dX6_fail_49 c29 q33 rfl rfl (Nat.le_of_ble_eq_true rfl) (Nat.le_of_ble_eq_true rfl) (Nat.le_of_ble_eq_true rfl) (fun r31 M30 p32 => ?_)
        have h := h r31 M30 p32
        refine z_lstore_n dX6_fail_52 (by decide) rfl ?_
        refine z_iconst dX6_fail_53 (by decide) ?_
        refine z_istore dX6_fail_54 (by decide) rfl ?_
        exact z_sub [3, 4, 2, 1, 0] rfl h
      · have h := h.2 q22
        refine z_iconst dX6_fail_35 (by decide) ?_
        exact z_iret hr dX6_fail_36 (Nat.le_of_ble_eq_true rfl) (Nat.le_of_ble_eq_true rfl) ⟨_, rfl, h⟩
set_option maxRecDepth 20000 in
theorem vX6_fail_56 {E : zE} {d : Nat} {X : zX} {P : Int → zM → Prop} {M : zM} (hr : (xh X).sig.returnType = (some .int)) (a0 : Nat) (x1 : Int) (g2 : Option Nat) (l3 : Int64) (x5 : Int)
    (h : zK M a0 = (7, 5) ∧ ∃ b2, zR M a0 1 = some b2 ∧ zK M b2 = (3, 6) ∧ (((zI M b2 4) ≤ x5 → ∃ P5 : Int → zM → Prop, zCi E mJ13_bitCount_95d88 d 0 0 [vL l3] M P5 ∧ ∀ r8 M7, P5 r8 M7 → P r8 M7) ∧ (x5 < (zI M b2 4) → zK M a0 = (7, 5) ∧ zK M b2 = (3, 6) ∧ ∃ b12, zR M b2 0 = some b12 ∧ ((zK M b12).1 = 12 ∨ (zK M b12).1 = 13) ∧ 0 ≤ x5 ∧ x5 < ((zK M b12).2 : Int) ∧ ∃ b16, zR M b12 x5 = some b16 ∧ zK M b16 = (6, 16) ∧ (((if (0 : Int64) < (l3 &&& (zL M b16 1)) then 1 else if (l3 &&& (zL M b16 1)) = (0 : Int64) then 0 else -1) = 0 → zin (x5 + 1) ∧ ZX6_fail E d X P 56 [(0, vR (some a0)), (1, vI x1), (2, vR g2), (3, vL l3), (5, vI (x5 + 1))] [] M 0 0) ∧ ((if (0 : Int64) < (l3 &&& (zL M b16 1)) then 1 else if (l3 &&& (zL M b16 1)) = (0 : Int64) then 0 else -1) ≠ 0 → zK M a0 = (7, 5) ∧ ∃ b21, zR M a0 2 = some b21 ∧ zK M b21 = (1, 3) ∧ ∃ P22 : zM → Prop, zCv E mX0_lift d 0 0 [vR (some b21), vR (some b16)] M P22 ∧ ∀ M24, P22 M24 → zK M24 b16 = (6, 16) ∧ zin ((zI M24 b16 9) + 1) ∧ zK M24 b16 = (6, 16) ∧ ∀ M31, M31 = zsI M24 b16 9 ((zI M24 b16 9) + 1) → zin (x5 + 1) ∧ ZX6_fail E d X P 56 [(0, vR (some a0)), (1, vI x1), (2, vR g2), (3, vL l3), (5, vI (x5 + 1))] [] M31 0 0))))) :
    ZX6_fail E d X P 56 [(0, vR (some a0)), (1, vI x1), (2, vR g2), (3, vL l3), (5, vI x5)] [] M 0 0 := by
  refine z_iload 4 dX6_fail_56 rfl ?_
  refine z_aload_n 0 dX6_fail_58 rfl ?_
  obtain ⟨q1, h⟩ := h
  refine z_getR fl_X6_19 rfl dX6_fail_59 q1 ?_
  obtain ⟨b2, eb2, h⟩ := h
  rw [eb2]
  obtain ⟨q3, h⟩ := h
  refine z_getI fl_X6_95 dX6_fail_62 q3 ?_
  refine z_icmp_ge (tgt := 118) dX6_fail_65 (by decide) (fun q4 => ?_) (fun q4 => ?_)
  · have h := h.1 q4
    refine z_lload_n 3 dX6_fail_118 rfl ?_
    obtain ⟨P5, c6, h⟩ := h
    refine z_Si (as := [vL l3]) ms_X6_208 dX6_fail_119 c6 rfl rfl (Nat.le_of_ble_eq_true rfl) (Nat.le_of_ble_eq_true rfl) (Nat.le_of_ble_eq_true rfl) (fun r8 M7 p9 => ?_)
    have h := h r8 M7 p9
    exact z_iret hr dX6_fail_122 (Nat.le_of_ble_eq_true rfl) (Nat.le_of_ble_eq_true rfl) ⟨_, rfl, h⟩
  · have h := h.2 q4
    refine z_aload_n 0 dX6_fail_68 rfl ?_
    obtain ⟨q10, h⟩ := h
    refine z_getR fl_X6_19 rfl dX6_fail_69 q10 ?_
    rw [eb2]
    obtain ⟨q11, h⟩ := h
    refine z_getR fl_X6_166 rfl dX6_fail_72 q11 ?_
    refine z_iload 4 dX6_fail_75 rfl ?_
    obtain ⟨b12, eb12, h⟩ := h
    rw [eb12]
    obtain ⟨q13, h⟩ := h
    obtain ⟨q14, h⟩ := h
    obtain ⟨q15, h⟩ := h
    refine z_aald dX6_fail_77 (n := (zK M b12).2) rfl q13 q14 q15 ?_
    refine z_astore dX6_fail_78 (by decide) rfl ?_
    refine z_lload_n 4 dX6_fail_80 rfl ?_
    refine z_aload 0 dX6_fail_81 rfl ?_
    obtain ⟨b16, eb16, h⟩ := h
    rw [eb16]
    obtain ⟨q17, h⟩ := h
    refine z_getL fl_X6_135 dX6_fail_83 q17 ?_
    refine z_land dX6_fail_86 ?_
    refine z_lconst (v := 0) dX6_fail_87 rfl ?_
    refine z_lcmp dX6_fail_88 ?_
    refine z_if_eq (tgt := 112) dX6_fail_89 (by decide) (fun q18 => ?_) (fun q18 => ?_)
    · have h := h.1 q18
      obtain ⟨q19, h⟩ := h
      refine z_iinc 5 dX6_fail_112 rfl (by decide) q19 rfl ?_
      refine z_goto (tgt := 56) dX6_fail_115 (by decide) ?_
      exact z_sub [2, 3, 4, 5, 0] rfl h
    · have h := h.2 q18
      refine z_aload_n 1 dX6_fail_92 rfl ?_
      obtain ⟨q20, h⟩ := h
      refine z_getR fl_X6_26 rfl dX6_fail_93 q20 ?_
      refine z_aload 0 dX6_fail_96 rfl ?_
      obtain ⟨b21, eb21, h⟩ := h
      rw [eb21]
      obtain ⟨q27, h⟩ := h
      obtain ⟨P22, c23, h⟩ := h
      refine z_Vv (as := [vR (some b16)]) mv_X6_147 dX6_fail_98 c23 q27 rfl rfl (Nat.le_of_ble_eq_true rfl) (Nat.le_of_ble_eq_true rfl) (Nat.le_of_ble_eq_true rfl) (fun M24 p26 => ?_)
      have h := h M24 p26
      refine z_aload 0 dX6_fail_101 rfl ?_
      refine z_dup dX6_fail_103 rfl ?_
      obtain ⟨q28, h⟩ := h
      refine z_getI fl_X6_214 dX6_fail_104 q28 ?_
      refine z_iconst dX6_fail_107 (by decide) ?_
      obtain ⟨q29, h⟩ := h
      refine z_iadd dX6_fail_108 q29 ?_
      obtain ⟨q30, h⟩ := h
      refine z_putI fl_X6_214 (Or.inl rfl) dX6_fail_109 q30 ?_
      obtain ⟨M31, hmM31⟩ : ∃ z, z = zsI M24 b16 9 ((zI M24 b16 9) + 1) := ⟨_, rfl⟩
      rw [← hmM31]
      have h := h M31 hmM31
      obtain ⟨q32, h⟩ := h
      refine z_iinc 5 dX6_fail_112 rfl (by decide) q32 rfl ?_
      refine z_goto (tgt := 56) dX6_fail_115 (by decide) ?_
      exact z_sub [2, 3, 4, 5, 0] rfl h
theorem sX6_fail {E : zE} {d : Nat} {P : Int → zM → Prop} {M : zM} (a0 : Nat) (x1 : Int) (h : ∀ X : zX, (xh X).sig.returnType = (some .int) → ZX6_fail E d X P 0 [(0, vR (some a0)), (1, vI x1)] [] M 0 0) : zCi E mX6_fail (d + 1) 0 0 [vR (some a0), vI x1] M P := z_start (f := mX6_fail) rfl (Nat.le_of_ble_eq_true rfl) rfl h
abbrev ZX6_more (E : zE) (d : Nat) (X : zX) (P : Int → zM → Prop) (pc : Nat) (Lc : List (Nat × zV)) (S : List zV) (M : zM) (ce sl : Nat) : Prop := zZ cX6_more RX6 "more" 4 E (zrm (d + 1) 0 0) X (zQ E (zPi P) X 0 0) pc Lc S M ce sl
set_option maxRecDepth 20000 in
theorem vX6_more_0 {E : zE} {d : Nat} {X : zX} {P : Int → zM → Prop} {M : zM} (hr : (xh X).sig.returnType = (some .int)) (a0 : Nat) (x1 : Int) (x2 : Int)
    (h : zK M a0 = (7, 5) ∧ ∃ b2, zR M a0 1 = some b2 ∧ zK M b2 = (3, 6) ∧ ∃ P3 : Option Nat → zM → Prop, zCr E mX2_find d 0 0 [vR (some b2), vI x1] M P3 ∧ ∀ r6 M5, P3 r6 M5 → ((r6 = none → P (-1) M5) ∧ (r6 ≠ none → zK M5 a0 = (7, 5) ∧ ∃ b11, zR M5 a0 2 = some b11 ∧ zK M5 b11 = (1, 3) ∧ ∃ b13, r6 = some b13 ∧ zK M5 b13 = (6, 16) ∧ ∃ P14 : Int → zM → Prop, zCi E mX5_isDone d 0 0 [vR (some b13), vI (zI M5 b11 2)] M5 P14 ∧ ∀ r17 M16, P14 r17 M16 → ((r17 ≠ 0 → P (-1) M16) ∧ (r17 = 0 → ((x2 < 1 → P (-1) M16) ∧ (1 ≤ x2 → zK M16 b13 = (6, 16) ∧ zin (40 - (zI M16 b13 7)) ∧ ((x2 ≤ (40 - (zI M16 b13 7)) → zK M16 b13 = (6, 16) ∧ ∃ P25 : Int → zM → Prop, zCi E mX5_isOpen d 0 0 [vR (some b13)] M16 P25 ∧ ∀ r28 M27, P25 r28 M27 → ((r28 ≠ 0 → zK M27 a0 = (7, 5) ∧ ∃ b33, zR M27 a0 2 = some b33 ∧ zK M27 b33 = (1, 3) ∧ ∃ P34 : zM → Prop, zCv E mX0_lengthen d 0 0 [vR (some b33), vR (some b13), vI x2] M27 P34 ∧ ∀ M36, P34 M36 → zK M36 a0 = (7, 5) ∧ ∃ b41, zR M36 a0 1 = some b41 ∧ zK M36 b41 = (3, 6) ∧ ∃ P42 : zM → Prop, zCv E mX2_weigh d 0 0 [vR (some b41)] M36 P42 ∧ ∀ M44, P42 M44 → zK M44 b13 = (6, 16) ∧ P (zI M44 b13 7) M44) ∧ (r28 = 0 → zK M27 b13 = (6, 16) ∧ ∃ P49 : Int → zM → Prop, zCi E mX5_behind d 0 0 [vR (some b13)] M27 P49 ∧ ∀ r52 M51, P49 r52 M51 → zin (r52 + x2) ∧ (((r52 + x2) ≤ 400 → zK M51 a0 = (7, 5) ∧ ∃ b58, zR M51 a0 2 = some b58 ∧ zK M51 b58 = (1, 3) ∧ ∃ P59 : zM → Prop, zCv E mX0_lengthen d 0 0 [vR (some b58), vR (some b13), vI x2] M51 P59 ∧ ∀ M61, P59 M61 → zK M61 a0 = (7, 5) ∧ ∃ b66, zR M61 a0 1 = some b66 ∧ zK M61 b66 = (3, 6) ∧ ∃ P67 : zM → Prop, zCv E mX2_weigh d 0 0 [vR (some b66)] M61 P67 ∧ ∀ M69, P67 M69 → zK M69 b13 = (6, 16) ∧ P (zI M69 b13 7) M69) ∧ (400 < (r52 + x2) → P (-1) M51))))) ∧ ((40 - (zI M16 b13 7)) < x2 → P (-1) M16))))))))) :
    ZX6_more E d X P 0 [(0, vR (some a0)), (1, vI x1), (2, vI x2)] [] M 0 0 := by
  refine z_aload_n 0 dX6_more_0 rfl ?_
  obtain ⟨q1, h⟩ := h
  refine z_getR fl_X6_19 rfl dX6_more_1 q1 ?_
  refine z_iload_n 1 dX6_more_4 rfl ?_
  obtain ⟨b2, eb2, h⟩ := h
  rw [eb2]
  obtain ⟨q8, h⟩ := h
  obtain ⟨P3, c4, h⟩ := h
  refine z_Vr (as := [vI x1]) mv_X6_113 dX6_more_5 c4 q8 rfl rfl (Nat.le_of_ble_eq_true rfl) (Nat.le_of_ble_eq_true rfl) (Nat.le_of_ble_eq_true rfl) (fun r6 M5 p7 => ?_)
  have h := h r6 M5 p7
  refine z_astore_n dX6_more_8 (by decide) rfl ?_
  refine z_aload_n 0 dX6_more_9 rfl ?_
  refine z_ifnull (tgt := 43) dX6_more_10 (by decide) (fun q9 => ?_) (fun q9 => ?_)
  · have h := h.1 q9
    refine z_iconst dX6_more_43 (by decide) ?_
    exact z_iret hr dX6_more_44 (Nat.le_of_ble_eq_true rfl) (Nat.le_of_ble_eq_true rfl) ⟨_, rfl, h⟩
  · have h := h.2 q9
    refine z_aload_n 0 dX6_more_13 rfl ?_
    refine z_aload_n 1 dX6_more_14 rfl ?_
    obtain ⟨q10, h⟩ := h
    refine z_getR fl_X6_26 rfl dX6_more_15 q10 ?_
    obtain ⟨b11, eb11, h⟩ := h
    rw [eb11]
    obtain ⟨q12, h⟩ := h
    refine z_getI fl_X6_138 dX6_more_18 q12 ?_
    obtain ⟨b13, eb13, h⟩ := h
    rw [eb13]
    obtain ⟨q19, h⟩ := h
    obtain ⟨P14, c15, h⟩ := h
    refine z_Vi (as := [vI (zI M5 b11 2)]) mv_X6_271 dX6_more_21 c15 q19 rfl rfl (Nat.le_of_ble_eq_true rfl) (Nat.le_of_ble_eq_true rfl) (Nat.le_of_ble_eq_true rfl) (fun r17 M16 p18 => ?_)
    have h := h r17 M16 p18
    refine z_if_ne (tgt := 43) dX6_more_24 (by decide) (fun q20 => ?_) (fun q20 => ?_)
    · have h := h.1 q20
      refine z_iconst dX6_more_43 (by decide) ?_
      exact z_iret hr dX6_more_44 (Nat.le_of_ble_eq_true rfl) (Nat.le_of_ble_eq_true rfl) ⟨_, rfl, h⟩
    · have h := h.2 q20
      refine z_iload_n 3 dX6_more_27 rfl ?_
      refine z_iconst dX6_more_28 (by decide) ?_
      refine z_icmp_lt (tgt := 43) dX6_more_29 (by decide) (fun q21 => ?_) (fun q21 => ?_)
      · have h := h.1 q21
        refine z_iconst dX6_more_43 (by decide) ?_
        exact z_iret hr dX6_more_44 (Nat.le_of_ble_eq_true rfl) (Nat.le_of_ble_eq_true rfl) ⟨_, rfl, h⟩
      · have h := h.2 q21
        refine z_iload_n 3 dX6_more_32 rfl ?_
        refine z_bipush dX6_more_33 (by decide) ?_
        refine z_aload_n 0 dX6_more_35 rfl ?_
        obtain ⟨q22, h⟩ := h
        refine z_getI fl_X6_144 dX6_more_36 q22 ?_
        obtain ⟨q23, h⟩ := h
        refine z_isub dX6_more_39 q23 ?_
        refine z_icmp_le (tgt := 45) dX6_more_40 (by decide) (fun q24 => ?_) (fun q24 => ?_)
        · have h := h.1 q24
          refine z_aload_n 0 dX6_more_45 rfl ?_
          obtain ⟨q30, h⟩ := h
          obtain ⟨P25, c26, h⟩ := h
          refine z_Vi (as := []) mv_X6_154 dX6_more_46 c26 q30 rfl rfl (Nat.le_of_ble_eq_true rfl) (Nat.le_of_ble_eq_true rfl) (Nat.le_of_ble_eq_true rfl) (fun r28 M27 p29 => ?_)
          have h := h r28 M27 p29
          refine z_if_ne (tgt := 66) dX6_more_49 (by decide) (fun q31 => ?_) (fun q31 => ?_)
          · have h := h.1 q31
            refine z_aload_n 1 dX6_more_66 rfl ?_
            obtain ⟨q32, h⟩ := h
            refine z_getR fl_X6_26 rfl dX6_more_67 q32 ?_
            refine z_aload_n 0 dX6_more_70 rfl ?_
            refine z_iload_n 3 dX6_more_71 rfl ?_
            obtain ⟨b33, eb33, h⟩ := h
            rw [eb33]
            obtain ⟨q39, h⟩ := h
            obtain ⟨P34, c35, h⟩ := h
            refine z_Vv (as := [vR (some b13), vI x2]) mv_X6_278 dX6_more_72 c35 q39 rfl rfl (Nat.le_of_ble_eq_true rfl) (Nat.le_of_ble_eq_true rfl) (Nat.le_of_ble_eq_true rfl) (fun M36 p38 => ?_)
            have h := h M36 p38
            refine z_aload_n 1 dX6_more_75 rfl ?_
            obtain ⟨q40, h⟩ := h
            refine z_getR fl_X6_19 rfl dX6_more_76 q40 ?_
            obtain ⟨b41, eb41, h⟩ := h
            rw [eb41]
            obtain ⟨q47, h⟩ := h
            obtain ⟨P42, c43, h⟩ := h
            refine z_Vv (as := []) mv_X6_281 dX6_more_79 c43 q47 rfl rfl (Nat.le_of_ble_eq_true rfl) (Nat.le_of_ble_eq_true rfl) (Nat.le_of_ble_eq_true rfl) (fun M44 p46 => ?_)
            have h := h M44 p46
            refine z_aload_n 0 dX6_more_82 rfl ?_
            obtain ⟨q48, h⟩ := h
            refine z_getI fl_X6_144 dX6_more_83 q48 ?_
            exact z_iret hr dX6_more_86 (Nat.le_of_ble_eq_true rfl) (Nat.le_of_ble_eq_true rfl) ⟨_, rfl, h⟩
          · have h := h.2 q31
            refine z_aload_n 0 dX6_more_52 rfl ?_
            obtain ⟨q54, h⟩ := h
            obtain ⟨P49, c50, h⟩ := h
            refine z_Vi (as := []) mv_X6_239 dX6_more_53 c50 q54 rfl rfl (Nat.le_of_ble_eq_true rfl) (Nat.le_of_ble_eq_true rfl) (Nat.le_of_ble_eq_true rfl) (fun r52 M51 p53 => ?_)
            have h := h r52 M51 p53
            refine z_iload_n 3 dX6_more_56 rfl ?_
            obtain ⟨q55, h⟩ := h
            refine z_iadd dX6_more_57 q55 ?_
            refine z_sipush dX6_more_58 (by decide) ?_
            refine z_icmp_le (tgt := 66) dX6_more_61 (by decide) (fun q56 => ?_) (fun q56 => ?_)
            · have h := h.1 q56
              refine z_aload_n 1 dX6_more_66 rfl ?_
              obtain ⟨q57, h⟩ := h
              refine z_getR fl_X6_26 rfl dX6_more_67 q57 ?_
              refine z_aload_n 0 dX6_more_70 rfl ?_
              refine z_iload_n 3 dX6_more_71 rfl ?_
              obtain ⟨b58, eb58, h⟩ := h
              rw [eb58]
              obtain ⟨q64, h⟩ := h
              obtain ⟨P59, c60, h⟩ := h
              refine z_Vv (as := [vR (some b13), vI x2]) mv_X6_278 dX6_more_72 c60 q64 rfl rfl (Nat.le_of_ble_eq_true rfl) (Nat.le_of_ble_eq_true rfl) (Nat.le_of_ble_eq_true rfl) (fun M61 p63 => ?_)
              have h := h M61 p63
              refine z_aload_n 1 dX6_more_75 rfl ?_
              obtain ⟨q65, h⟩ := h
              refine z_getR fl_X6_19 rfl dX6_more_76 q65 ?_
              obtain ⟨b66, eb66, h⟩ := h
              rw [eb66]
              obtain ⟨q72, h⟩ := h
              obtain ⟨P67, c68, h⟩ := h
              refine z_Vv (as := []) mv_X6_281 dX6_more_79 c68 q72 rfl rfl (Nat.le_of_ble_eq_true rfl) (Nat.le_of_ble_eq_true rfl) (Nat.le_of_ble_eq_true rfl) (fun M69 p71 => ?_)
              have h := h M69 p71
              refine z_aload_n 0 dX6_more_82 rfl ?_
              obtain ⟨q73, h⟩ := h
              refine z_getI fl_X6_144 dX6_more_83 q73 ?_
              exact z_iret hr dX6_more_86 (Nat.le_of_ble_eq_true rfl) (Nat.le_of_ble_eq_true rfl) ⟨_, rfl, h⟩
            · have h := h.2 q56
              refine z_iconst dX6_more_64 (by decide) ?_
              exact z_iret hr dX6_more_65 (Nat.le_of_ble_eq_true rfl) (Nat.le_of_ble_eq_true rfl) ⟨_, rfl, h⟩
        · have h := h.2 q24
          refine z_iconst dX6_more_43 (by decide) ?_
          exact z_iret hr dX6_more_44 (Nat.le_of_ble_eq_true rfl) (Nat.le_of_ble_eq_true rfl) ⟨_, rfl, h⟩
theorem sX6_more {E : zE} {d : Nat} {P : Int → zM → Prop} {M : zM} (a0 : Nat) (x1 : Int) (x2 : Int) (h : ∀ X : zX, (xh X).sig.returnType = (some .int) → ZX6_more E d X P 0 [(0, vR (some a0)), (1, vI x1), (2, vI x2)] [] M 0 0) : zCi E mX6_more (d + 1) 0 0 [vR (some a0), vI x1, vI x2] M P := z_start (f := mX6_more) rfl (Nat.le_of_ble_eq_true rfl) rfl h
abbrev ZX6_count (E : zE) (d : Nat) (X : zX) (P : Int → zM → Prop) (pc : Nat) (Lc : List (Nat × zV)) (S : List zV) (M : zM) (ce sl : Nat) : Prop := zZ cX6_count RX6 "count" 2 E (zrm (d + 1) 0 0) X (zQ E (zPi P) X 0 0) pc Lc S M ce sl
set_option maxRecDepth 20000 in
theorem vX6_count_0 {E : zE} {d : Nat} {X : zX} {P : Int → zM → Prop} {M : zM} (hr : (xh X).sig.returnType = (some .int)) (a0 : Nat) (x1 : Int)
    (h : ((x1 = 0 → zK M a0 = (7, 5) ∧ ∃ b3, zR M a0 2 = some b3 ∧ zK M b3 = (1, 3) ∧ P (zI M b3 2) M) ∧ (x1 = 1 → zK M a0 = (7, 5) ∧ ∃ b7, zR M a0 0 = some b7 ∧ zK M b7 = (2, 5) ∧ P (zI M b7 3) M) ∧ (x1 = 2 → zK M a0 = (7, 5) ∧ ∃ b11, zR M a0 1 = some b11 ∧ zK M b11 = (3, 6) ∧ P (zI M b11 4) M) ∧ (x1 = 3 → zK M a0 = (7, 5) ∧ ∃ b15, zR M a0 1 = some b15 ∧ zK M b15 = (3, 6) ∧ zK M a0 = (7, 5) ∧ zK M b15 = (3, 6) ∧ ∃ P18 : Int64 → zM → Prop, zCl E mX2_allThatArePut d 0 0 [vR (some b15)] M P18 ∧ ∀ r21 M20, P18 r21 M20 → ∃ P24 : Int → zM → Prop, zCi E mJ13_bitCount_95d88 d 0 0 [vL r21] M20 P24 ∧ ∀ r27 M26, P24 r27 M26 → zin ((zI M b15 4) - r27) ∧ P ((zI M b15 4) - r27) M26) ∧ (x1 = 4 → zK M a0 = (7, 5) ∧ zK M a0 = (7, 5) ∧ ∃ b33, zR M a0 2 = some b33 ∧ zK M b33 = (1, 3) ∧ ∃ b35, zR M a0 1 = some b35 ∧ zK M b35 = (3, 6) ∧ ∃ P36 : Int64 → zM → Prop, zCl E mX2_allDone d 0 0 [vR (some b35), vI (zI M b33 2)] M P36 ∧ ∀ r39 M38, P36 r39 M38 → ∃ P42 : Int → zM → Prop, zCi E mJ13_bitCount_95d88 d 0 0 [vL r39] M38 P42 ∧ ∀ r45 M44, P42 r45 M44 → P r45 M44) ∧ (x1 = 5 → zK M a0 = (7, 5) ∧ ∃ b49, zR M a0 0 = some b49 ∧ zK M b49 = (2, 5) ∧ P (zI M b49 4) M) ∧ (x1 = 6 → zK M a0 = (7, 5) ∧ ∃ b53, zR M a0 1 = some b53 ∧ zK M b53 = (3, 6) ∧ P (zI M b53 5) M) ∧ ((x1 < 0 ∨ 6 < x1) → P (-1) M))) :
    ZX6_count E d X P 0 [(0, vR (some a0)), (1, vI x1)] [] M 0 0 := by
  refine z_iload_n 1 dX6_count_0 rfl ?_
  obtain ⟨hq1, h⟩ := h
  by_cases q1 : x1 = 0
  · refine z_tableIn (tgt := 44) dX6_count_1 0 q1 (by decide) (by decide) rfl (by decide) ?_
    have h := hq1 q1
    refine z_aload_n 0 dX6_count_44 rfl ?_
    obtain ⟨q2, h⟩ := h
    refine z_getR fl_X6_26 rfl dX6_count_45 q2 ?_
    obtain ⟨b3, eb3, h⟩ := h
    rw [eb3]
    obtain ⟨q4, h⟩ := h
    refine z_getI fl_X6_138 dX6_count_48 q4 ?_
    exact z_iret hr dX6_count_51 (Nat.le_of_ble_eq_true rfl) (Nat.le_of_ble_eq_true rfl) ⟨_, rfl, h⟩
  obtain ⟨hq5, h⟩ := h
  by_cases q5 : x1 = 1
  · refine z_tableIn (tgt := 52) dX6_count_1 1 q5 (by decide) (by decide) rfl (by decide) ?_
    have h := hq5 q5
    refine z_aload_n 0 dX6_count_52 rfl ?_
    obtain ⟨q6, h⟩ := h
    refine z_getR fl_X6_10 rfl dX6_count_53 q6 ?_
    obtain ⟨b7, eb7, h⟩ := h
    rw [eb7]
    obtain ⟨q8, h⟩ := h
    refine z_getI fl_X6_48 dX6_count_56 q8 ?_
    exact z_iret hr dX6_count_59 (Nat.le_of_ble_eq_true rfl) (Nat.le_of_ble_eq_true rfl) ⟨_, rfl, h⟩
  obtain ⟨hq9, h⟩ := h
  by_cases q9 : x1 = 2
  · refine z_tableIn (tgt := 60) dX6_count_1 2 q9 (by decide) (by decide) rfl (by decide) ?_
    have h := hq9 q9
    refine z_aload_n 0 dX6_count_60 rfl ?_
    obtain ⟨q10, h⟩ := h
    refine z_getR fl_X6_19 rfl dX6_count_61 q10 ?_
    obtain ⟨b11, eb11, h⟩ := h
    rw [eb11]
    obtain ⟨q12, h⟩ := h
    refine z_getI fl_X6_95 dX6_count_64 q12 ?_
    exact z_iret hr dX6_count_67 (Nat.le_of_ble_eq_true rfl) (Nat.le_of_ble_eq_true rfl) ⟨_, rfl, h⟩
  obtain ⟨hq13, h⟩ := h
  by_cases q13 : x1 = 3
  · refine z_tableIn (tgt := 68) dX6_count_1 3 q13 (by decide) (by decide) rfl (by decide) ?_
    have h := hq13 q13
    refine z_aload_n 0 dX6_count_68 rfl ?_
    obtain ⟨q14, h⟩ := h
    refine z_getR fl_X6_19 rfl dX6_count_69 q14 ?_
    obtain ⟨b15, eb15, h⟩ := h
    rw [eb15]
    obtain ⟨q16, h⟩ := h
    refine z_getI fl_X6_95 dX6_count_72 q16 ?_
    refine z_aload_n 0 dX6_count_75 rfl ?_
    obtain ⟨q17, h⟩ := h
    refine z_getR fl_X6_19 rfl dX6_count_76 q17 ?_
    rw [eb15]
    obtain ⟨q23, h⟩ := h
    obtain ⟨P18, c19, h⟩ := h
    refine z_Vl (as := []) mv_X6_231 dX6_count_79 c19 q23 rfl rfl (Nat.le_of_ble_eq_true rfl) (Nat.le_of_ble_eq_true rfl) (Nat.le_of_ble_eq_true rfl) (fun r21 M20 p22 => ?_)
    have h := h r21 M20 p22
    obtain ⟨P24, c25, h⟩ := h
    refine z_Si (as := [vL r21]) ms_X6_208 dX6_count_82 c25 rfl rfl (Nat.le_of_ble_eq_true rfl) (Nat.le_of_ble_eq_true rfl) (Nat.le_of_ble_eq_true rfl) (fun r27 M26 p28 => ?_)
    have h := h r27 M26 p28
    obtain ⟨q29, h⟩ := h
    refine z_isub dX6_count_85 q29 ?_
    exact z_iret hr dX6_count_86 (Nat.le_of_ble_eq_true rfl) (Nat.le_of_ble_eq_true rfl) ⟨_, rfl, h⟩
  obtain ⟨hq30, h⟩ := h
  by_cases q30 : x1 = 4
  · refine z_tableIn (tgt := 87) dX6_count_1 4 q30 (by decide) (by decide) rfl (by decide) ?_
    have h := hq30 q30
    refine z_aload_n 0 dX6_count_87 rfl ?_
    obtain ⟨q31, h⟩ := h
    refine z_getR fl_X6_19 rfl dX6_count_88 q31 ?_
    refine z_aload_n 0 dX6_count_91 rfl ?_
    obtain ⟨q32, h⟩ := h
    refine z_getR fl_X6_26 rfl dX6_count_92 q32 ?_
    obtain ⟨b33, eb33, h⟩ := h
    rw [eb33]
    obtain ⟨q34, h⟩ := h
    refine z_getI fl_X6_138 dX6_count_95 q34 ?_
    obtain ⟨b35, eb35, h⟩ := h
    rw [eb35]
    obtain ⟨q41, h⟩ := h
    obtain ⟨P36, c37, h⟩ := h
    refine z_Vl (as := [vI (zI M b33 2)]) mv_X6_284 dX6_count_98 c37 q41 rfl rfl (Nat.le_of_ble_eq_true rfl) (Nat.le_of_ble_eq_true rfl) (Nat.le_of_ble_eq_true rfl) (fun r39 M38 p40 => ?_)
    have h := h r39 M38 p40
    obtain ⟨P42, c43, h⟩ := h
    refine z_Si (as := [vL r39]) ms_X6_208 dX6_count_101 c43 rfl rfl (Nat.le_of_ble_eq_true rfl) (Nat.le_of_ble_eq_true rfl) (Nat.le_of_ble_eq_true rfl) (fun r45 M44 p46 => ?_)
    have h := h r45 M44 p46
    exact z_iret hr dX6_count_104 (Nat.le_of_ble_eq_true rfl) (Nat.le_of_ble_eq_true rfl) ⟨_, rfl, h⟩
  obtain ⟨hq47, h⟩ := h
  by_cases q47 : x1 = 5
  · refine z_tableIn (tgt := 105) dX6_count_1 5 q47 (by decide) (by decide) rfl (by decide) ?_
    have h := hq47 q47
    refine z_aload_n 0 dX6_count_105 rfl ?_
    obtain ⟨q48, h⟩ := h
    refine z_getR fl_X6_10 rfl dX6_count_106 q48 ?_
    obtain ⟨b49, eb49, h⟩ := h
    rw [eb49]
    obtain ⟨q50, h⟩ := h
    refine z_getI fl_X6_288 dX6_count_109 q50 ?_
    exact z_iret hr dX6_count_112 (Nat.le_of_ble_eq_true rfl) (Nat.le_of_ble_eq_true rfl) ⟨_, rfl, h⟩
  obtain ⟨hq51, h⟩ := h
  by_cases q51 : x1 = 6
  · refine z_tableIn (tgt := 113) dX6_count_1 6 q51 (by decide) (by decide) rfl (by decide) ?_
    have h := hq51 q51
    refine z_aload_n 0 dX6_count_113 rfl ?_
    obtain ⟨q52, h⟩ := h
    refine z_getR fl_X6_19 rfl dX6_count_114 q52 ?_
    obtain ⟨b53, eb53, h⟩ := h
    rw [eb53]
    obtain ⟨q54, h⟩ := h
    refine z_getI fl_X6_247 dX6_count_117 q54 ?_
    exact z_iret hr dX6_count_120 (Nat.le_of_ble_eq_true rfl) (Nat.le_of_ble_eq_true rfl) ⟨_, rfl, h⟩
  have ho55 := zo_0_6 x1 q1 q5 q9 q13 q30 q47 q51
  refine z_tableOut (tgt := 121) dX6_count_1 ho55 (by decide) ?_
  have h := h ho55
  refine z_iconst dX6_count_121 (by decide) ?_
  exact z_iret hr dX6_count_122 (Nat.le_of_ble_eq_true rfl) (Nat.le_of_ble_eq_true rfl) ⟨_, rfl, h⟩
theorem sX6_count {E : zE} {d : Nat} {P : Int → zM → Prop} {M : zM} (a0 : Nat) (x1 : Int) (h : ∀ X : zX, (xh X).sig.returnType = (some .int) → ZX6_count E d X P 0 [(0, vR (some a0)), (1, vI x1)] [] M 0 0) : zCi E mX6_count (d + 1) 0 0 [vR (some a0), vI x1] M P := z_start (f := mX6_count) rfl (Nat.le_of_ble_eq_true rfl) rfl h
abbrev ZX6_isTrade (E : zE) (d : Nat) (X : zX) (P : Int → zM → Prop) (pc : Nat) (Lc : List (Nat × zV)) (S : List zV) (M : zM) (ce sl : Nat) : Prop := zZ cX6_isTrade RX6 "isTrade" 1 E (zrm (d + 1) 0 0) X (zQ E (zPi P) X 0 0) pc Lc S M ce sl
set_option maxRecDepth 20000 in
theorem vX6_isTrade_0 {E : zE} {d : Nat} {X : zX} {P : Int → zM → Prop} {M : zM} (hr : (xh X).sig.returnType = (some .boolean)) (x0 : Int)
    (h : ((x0 < 0 → P 0 M) ∧ (0 ≤ x0 → ((4 ≤ x0 → P 0 M) ∧ (x0 < 4 → P 1 M))))) :
    ZX6_isTrade E d X P 0 [(0, vI x0)] [] M 0 0 := by
  refine z_iload_n 0 dX6_isTrade_0 rfl ?_
  refine z_if_lt (tgt := 13) dX6_isTrade_1 (by decide) (fun q1 => ?_) (fun q1 => ?_)
  · have h := h.1 q1
    refine z_iconst dX6_isTrade_13 (by decide) ?_
    exact z_zret hr dX6_isTrade_14 (Nat.le_of_ble_eq_true rfl) (Nat.le_of_ble_eq_true rfl) (by decide) ⟨_, rfl, h⟩
  · have h := h.2 q1
    refine z_iload_n 0 dX6_isTrade_4 rfl ?_
    refine z_iconst dX6_isTrade_5 (by decide) ?_
    refine z_icmp_ge (tgt := 13) dX6_isTrade_6 (by decide) (fun q2 => ?_) (fun q2 => ?_)
    · have h := h.1 q2
      refine z_iconst dX6_isTrade_13 (by decide) ?_
      exact z_zret hr dX6_isTrade_14 (Nat.le_of_ble_eq_true rfl) (Nat.le_of_ble_eq_true rfl) (by decide) ⟨_, rfl, h⟩
    · have h := h.2 q2
      refine z_iconst dX6_isTrade_9 (by decide) ?_
      refine z_goto (tgt := 14) dX6_isTrade_10 (by decide) ?_
      exact z_zret hr dX6_isTrade_14 (Nat.le_of_ble_eq_true rfl) (Nat.le_of_ble_eq_true rfl) (by decide) ⟨_, rfl, h⟩
theorem sX6_isTrade {E : zE} {d : Nat} {P : Int → zM → Prop} {M : zM} (x0 : Int) (h : ∀ X : zX, (xh X).sig.returnType = (some .boolean) → ZX6_isTrade E d X P 0 [(0, vI x0)] [] M 0 0) : zCi E mX6_isTrade (d + 1) 0 0 [vI x0] M P := z_start (f := mX6_isTrade) rfl (Nat.le_of_ble_eq_true rfl) rfl h
abbrev ZX6_isGood (E : zE) (d : Nat) (X : zX) (P : Int → zM → Prop) (pc : Nat) (Lc : List (Nat × zV)) (S : List zV) (M : zM) (ce sl : Nat) : Prop := zZ cX6_isGood RX6 "isGood" 1 E (zrm (d + 1) 0 0) X (zQ E (zPi P) X 0 0) pc Lc S M ce sl
set_option maxRecDepth 20000 in
theorem vX6_isGood_0 {E : zE} {d : Nat} {X : zX} {P : Int → zM → Prop} {M : zM} (hr : (xh X).sig.returnType = (some .boolean)) (x0 : Int)
    (h : ((x0 < 0 → P 0 M) ∧ (0 ≤ x0 → ((4 ≤ x0 → P 0 M) ∧ (x0 < 4 → P 1 M))))) :
    ZX6_isGood E d X P 0 [(0, vI x0)] [] M 0 0 := by
  refine z_iload_n 0 dX6_isGood_0 rfl ?_
  refine z_if_lt (tgt := 13) dX6_isGood_1 (by decide) (fun q1 => ?_) (fun q1 => ?_)
  · have h := h.1 q1
    refine z_iconst dX6_isGood_13 (by decide) ?_
    exact z_zret hr dX6_isGood_14 (Nat.le_of_ble_eq_true rfl) (Nat.le_of_ble_eq_true rfl) (by decide) ⟨_, rfl, h⟩
  · have h := h.2 q1
    refine z_iload_n 0 dX6_isGood_4 rfl ?_
    refine z_iconst dX6_isGood_5 (by decide) ?_
    refine z_icmp_ge (tgt := 13) dX6_isGood_6 (by decide) (fun q2 => ?_) (fun q2 => ?_)
    · have h := h.1 q2
      refine z_iconst dX6_isGood_13 (by decide) ?_
      exact z_zret hr dX6_isGood_14 (Nat.le_of_ble_eq_true rfl) (Nat.le_of_ble_eq_true rfl) (by decide) ⟨_, rfl, h⟩
    · have h := h.2 q2
      refine z_iconst dX6_isGood_9 (by decide) ?_
      refine z_goto (tgt := 14) dX6_isGood_10 (by decide) ?_
      exact z_zret hr dX6_isGood_14 (Nat.le_of_ble_eq_true rfl) (Nat.le_of_ble_eq_true rfl) (by decide) ⟨_, rfl, h⟩
theorem sX6_isGood {E : zE} {d : Nat} {P : Int → zM → Prop} {M : zM} (x0 : Int) (h : ∀ X : zX, (xh X).sig.returnType = (some .boolean) → ZX6_isGood E d X P 0 [(0, vI x0)] [] M 0 0) : zCi E mX6_isGood (d + 1) 0 0 [vI x0] M P := z_start (f := mX6_isGood) rfl (Nat.le_of_ble_eq_true rfl) rfl h
abbrev ZX6_isKind (E : zE) (d : Nat) (X : zX) (P : Int → zM → Prop) (pc : Nat) (Lc : List (Nat × zV)) (S : List zV) (M : zM) (ce sl : Nat) : Prop := zZ cX6_isKind RX6 "isKind" 1 E (zrm (d + 1) 0 0) X (zQ E (zPi P) X 0 0) pc Lc S M ce sl
set_option maxRecDepth 20000 in
theorem vX6_isKind_0 {E : zE} {d : Nat} {X : zX} {P : Int → zM → Prop} {M : zM} (hr : (xh X).sig.returnType = (some .boolean)) (x0 : Int)
    (h : ((x0 < 0 → P 0 M) ∧ (0 ≤ x0 → ((5 ≤ x0 → P 0 M) ∧ (x0 < 5 → P 1 M))))) :
    ZX6_isKind E d X P 0 [(0, vI x0)] [] M 0 0 := by
  refine z_iload_n 0 dX6_isKind_0 rfl ?_
  refine z_if_lt (tgt := 13) dX6_isKind_1 (by decide) (fun q1 => ?_) (fun q1 => ?_)
  · have h := h.1 q1
    refine z_iconst dX6_isKind_13 (by decide) ?_
    exact z_zret hr dX6_isKind_14 (Nat.le_of_ble_eq_true rfl) (Nat.le_of_ble_eq_true rfl) (by decide) ⟨_, rfl, h⟩
  · have h := h.2 q1
    refine z_iload_n 0 dX6_isKind_4 rfl ?_
    refine z_iconst dX6_isKind_5 (by decide) ?_
    refine z_icmp_ge (tgt := 13) dX6_isKind_6 (by decide) (fun q2 => ?_) (fun q2 => ?_)
    · have h := h.1 q2
      refine z_iconst dX6_isKind_13 (by decide) ?_
      exact z_zret hr dX6_isKind_14 (Nat.le_of_ble_eq_true rfl) (Nat.le_of_ble_eq_true rfl) (by decide) ⟨_, rfl, h⟩
    · have h := h.2 q2
      refine z_iconst dX6_isKind_9 (by decide) ?_
      refine z_goto (tgt := 14) dX6_isKind_10 (by decide) ?_
      exact z_zret hr dX6_isKind_14 (Nat.le_of_ble_eq_true rfl) (Nat.le_of_ble_eq_true rfl) (by decide) ⟨_, rfl, h⟩
theorem sX6_isKind {E : zE} {d : Nat} {P : Int → zM → Prop} {M : zM} (x0 : Int) (h : ∀ X : zX, (xh X).sig.returnType = (some .boolean) → ZX6_isKind E d X P 0 [(0, vI x0)] [] M 0 0) : zCi E mX6_isKind (d + 1) 0 0 [vI x0] M P := z_start (f := mX6_isKind) rfl (Nat.le_of_ble_eq_true rfl) rfl h
abbrev ZX6_canBe (E : zE) (d : Nat) (X : zX) (P : Int → zM → Prop) (pc : Nat) (Lc : List (Nat × zV)) (S : List zV) (M : zM) (ce sl : Nat) : Prop := zZ cX6_canBe RX6 "canBe" 2 E (zrm (d + 1) 0 0) X (zQ E (zPi P) X 0 0) pc Lc S M ce sl
set_option maxRecDepth 20000 in
theorem vX6_canBe_0 {E : zE} {d : Nat} {X : zX} {P : Int → zM → Prop} {M : zM} (hr : (xh X).sig.returnType = (some .boolean)) (a0 : Nat) (a1 : Nat)
    (h : zK M a1 = (6, 16) ∧ (((zI M a1 7) < 1 → P 0 M) ∧ (1 ≤ (zI M a1 7) → zK M a1 = (6, 16) ∧ ((40 < (zI M a1 7) → P 0 M) ∧ ((zI M a1 7) ≤ 40 → zK M a1 = (6, 16) ∧ (((zI M a1 3) < 1 → P 0 M) ∧ (1 ≤ (zI M a1 3) → zK M a1 = (6, 16) ∧ ∃ P8 : Int → zM → Prop, zCi E mX6_isTrade d 0 0 [vI (zI M a1 2)] M P8 ∧ ∀ r11 M10, P8 r11 M10 → ((r11 = 0 → P 0 M10) ∧ (r11 ≠ 0 → zK M10 a1 = (6, 16) ∧ ∃ P15 : Int → zM → Prop, zCi E mX6_isKind d 0 0 [vI (zI M10 a1 5)] M10 P15 ∧ ∀ r18 M17, P15 r18 M17 → ((r18 = 0 → P 0 M17) ∧ (r18 ≠ 0 → zK M17 a0 = (7, 5) ∧ zK M17 a1 = (6, 16) ∧ ∃ b23, zR M17 a0 0 = some b23 ∧ zK M17 b23 = (2, 5) ∧ ∃ P24 : Int → zM → Prop, zCi E mX1_hasSpace d 0 0 [vR (some b23), vI (zI M17 a1 4)] M17 P24 ∧ ∀ r27 M26, P24 r27 M26 → ((r27 = 0 → P 0 M26) ∧ (r27 ≠ 0 → P 1 M26))))))))))))) :
    ZX6_canBe E d X P 0 [(0, vR (some a0)), (1, vR (some a1))] [] M 0 0 := by
  refine z_aload_n 1 dX6_canBe_0 rfl ?_
  obtain ⟨q1, h⟩ := h
  refine z_getI fl_X6_144 dX6_canBe_1 q1 ?_
  refine z_iconst dX6_canBe_4 (by decide) ?_
  refine z_icmp_lt (tgt := 63) dX6_canBe_5 (by decide) (fun q2 => ?_) (fun q2 => ?_)
  · have h := h.1 q2
    refine z_iconst dX6_canBe_63 (by decide) ?_
    exact z_zret hr dX6_canBe_64 (Nat.le_of_ble_eq_true rfl) (Nat.le_of_ble_eq_true rfl) (by decide) ⟨_, rfl, h⟩
  · have h := h.2 q2
    refine z_aload_n 1 dX6_canBe_8 rfl ?_
    obtain ⟨q3, h⟩ := h
    refine z_getI fl_X6_144 dX6_canBe_9 q3 ?_
    refine z_bipush dX6_canBe_12 (by decide) ?_
    refine z_icmp_gt (tgt := 63) dX6_canBe_14 (by decide) (fun q4 => ?_) (fun q4 => ?_)
    · have h := h.1 q4
      refine z_iconst dX6_canBe_63 (by decide) ?_
      exact z_zret hr dX6_canBe_64 (Nat.le_of_ble_eq_true rfl) (Nat.le_of_ble_eq_true rfl) (by decide) ⟨_, rfl, h⟩
    · have h := h.2 q4
      refine z_aload_n 1 dX6_canBe_17 rfl ?_
      obtain ⟨q5, h⟩ := h
      refine z_getI fl_X6_181 dX6_canBe_18 q5 ?_
      refine z_iconst dX6_canBe_21 (by decide) ?_
      refine z_icmp_lt (tgt := 63) dX6_canBe_22 (by decide) (fun q6 => ?_) (fun q6 => ?_)
      · have h := h.1 q6
        refine z_iconst dX6_canBe_63 (by decide) ?_
        exact z_zret hr dX6_canBe_64 (Nat.le_of_ble_eq_true rfl) (Nat.le_of_ble_eq_true rfl) (by decide) ⟨_, rfl, h⟩
      · have h := h.2 q6
        refine z_aload_n 1 dX6_canBe_25 rfl ?_
        obtain ⟨q7, h⟩ := h
        refine z_getI fl_X6_178 dX6_canBe_26 q7 ?_
        obtain ⟨P8, c9, h⟩ := h
        refine z_Si (as := [vI (zI M a1 2)]) ms_X6_71 dX6_canBe_29 c9 rfl rfl (Nat.le_of_ble_eq_true rfl) (Nat.le_of_ble_eq_true rfl) (Nat.le_of_ble_eq_true rfl) (fun r11 M10 p12 => ?_)
        have h := h r11 M10 p12
        refine z_if_eq (tgt := 63) dX6_canBe_32 (by decide) (fun q13 => ?_) (fun q13 => ?_)
        · have h := h.1 q13
          refine z_iconst dX6_canBe_63 (by decide) ?_
          exact z_zret hr dX6_canBe_64 (Nat.le_of_ble_eq_true rfl) (Nat.le_of_ble_eq_true rfl) (by decide) ⟨_, rfl, h⟩
        · have h := h.2 q13
          refine z_aload_n 1 dX6_canBe_35 rfl ?_
          obtain ⟨q14, h⟩ := h
          refine z_getI fl_X6_128 dX6_canBe_36 q14 ?_
          obtain ⟨P15, c16, h⟩ := h
          refine z_Si (as := [vI (zI M10 a1 5)]) ms_X6_84 dX6_canBe_39 c16 rfl rfl (Nat.le_of_ble_eq_true rfl) (Nat.le_of_ble_eq_true rfl) (Nat.le_of_ble_eq_true rfl) (fun r18 M17 p19 => ?_)
          have h := h r18 M17 p19
          refine z_if_eq (tgt := 63) dX6_canBe_42 (by decide) (fun q20 => ?_) (fun q20 => ?_)
          · have h := h.1 q20
            refine z_iconst dX6_canBe_63 (by decide) ?_
            exact z_zret hr dX6_canBe_64 (Nat.le_of_ble_eq_true rfl) (Nat.le_of_ble_eq_true rfl) (by decide) ⟨_, rfl, h⟩
          · have h := h.2 q20
            refine z_aload_n 0 dX6_canBe_45 rfl ?_
            obtain ⟨q21, h⟩ := h
            refine z_getR fl_X6_10 rfl dX6_canBe_46 q21 ?_
            refine z_aload_n 1 dX6_canBe_49 rfl ?_
            obtain ⟨q22, h⟩ := h
            refine z_getI fl_X6_184 dX6_canBe_50 q22 ?_
            obtain ⟨b23, eb23, h⟩ := h
            rw [eb23]
            obtain ⟨q29, h⟩ := h
            obtain ⟨P24, c25, h⟩ := h
            refine z_Vi (as := [vI (zI M17 a1 4)]) mv_X6_56 dX6_canBe_53 c25 q29 rfl rfl (Nat.le_of_ble_eq_true rfl) (Nat.le_of_ble_eq_true rfl) (Nat.le_of_ble_eq_true rfl) (fun r27 M26 p28 => ?_)
            have h := h r27 M26 p28
            refine z_if_eq (tgt := 63) dX6_canBe_56 (by decide) (fun q30 => ?_) (fun q30 => ?_)
            · have h := h.1 q30
              refine z_iconst dX6_canBe_63 (by decide) ?_
              exact z_zret hr dX6_canBe_64 (Nat.le_of_ble_eq_true rfl) (Nat.le_of_ble_eq_true rfl) (by decide) ⟨_, rfl, h⟩
            · have h := h.2 q30
              refine z_iconst dX6_canBe_59 (by decide) ?_
              refine z_goto (tgt := 64) dX6_canBe_60 (by decide) ?_
              exact z_zret hr dX6_canBe_64 (Nat.le_of_ble_eq_true rfl) (Nat.le_of_ble_eq_true rfl) (by decide) ⟨_, rfl, h⟩
theorem sX6_canBe {E : zE} {d : Nat} {P : Int → zM → Prop} {M : zM} (a0 : Nat) (a1 : Nat) (h : ∀ X : zX, (xh X).sig.returnType = (some .boolean) → ZX6_canBe E d X P 0 [(0, vR (some a0)), (1, vR (some a1))] [] M 0 0) : zCi E mX6_canBe (d + 1) 0 0 [vR (some a0), vR (some a1)] M P := z_start (f := mX6_canBe) rfl (Nat.le_of_ble_eq_true rfl) rfl h
abbrev ZX6_mayLean (E : zE) (d : Nat) (X : zX) (P : Int → zM → Prop) (pc : Nat) (Lc : List (Nat × zV)) (S : List zV) (M : zM) (ce sl : Nat) : Prop := zZ cX6_mayLean RX6 "mayLean" 3 E (zrm (d + 1) 0 0) X (zQ E (zPi P) X 0 0) pc Lc S M ce sl
set_option maxRecDepth 20000 in
theorem vX6_mayLean_0 {E : zE} {d : Nat} {X : zX} {P : Int → zM → Prop} {M : zM} (hr : (xh X).sig.returnType = (some .boolean)) (a0 : Nat) (a1 : Nat) (a2 : Nat)
    (h : ((some a1 = some a2 → P 0 M) ∧ (some a1 ≠ some a2 → zK M a2 = (6, 16) ∧ ∃ P2 : Int → zM → Prop, zCi E mX5_hangsOn d 0 0 [vR (some a2), vR (some a1)] M P2 ∧ ∀ r5 M4, P2 r5 M4 → ((r5 ≠ 0 → P 0 M4) ∧ (r5 = 0 → zK M4 a0 = (7, 5) ∧ ∃ b10, zR M4 a0 2 = some b10 ∧ zK M4 b10 = (1, 3) ∧ zK M4 a1 = (6, 16) ∧ ∃ P12 : Int → zM → Prop, zCi E mX5_hasBegun d 0 0 [vR (some a1), vI (zI M4 b10 2)] M4 P12 ∧ ∀ r15 M14, P12 r15 M14 → ((r15 ≠ 0 → P 0 M14) ∧ (r15 = 0 → P 1 M14))))))) :
    ZX6_mayLean E d X P 0 [(0, vR (some a0)), (1, vR (some a1)), (2, vR (some a2))] [] M 0 0 := by
  refine z_aload_n 1 dX6_mayLean_0 rfl ?_
  refine z_aload_n 2 dX6_mayLean_1 rfl ?_
  refine z_acmp_eq (tgt := 31) dX6_mayLean_2 (by decide) (fun q1 => ?_) (fun q1 => ?_)
  · have h := h.1 q1
    refine z_iconst dX6_mayLean_31 (by decide) ?_
    exact z_zret hr dX6_mayLean_32 (Nat.le_of_ble_eq_true rfl) (Nat.le_of_ble_eq_true rfl) (by decide) ⟨_, rfl, h⟩
  · have h := h.2 q1
    refine z_aload_n 2 dX6_mayLean_5 rfl ?_
    refine z_aload_n 1 dX6_mayLean_6 rfl ?_
    obtain ⟨q7, h⟩ := h
    obtain ⟨P2, c3, h⟩ := h
    refine z_Vi (as := [vR (some a1)]) mv_X6_291 dX6_mayLean_7 c3 q7 rfl rfl (Nat.le_of_ble_eq_true rfl) (Nat.le_of_ble_eq_true rfl) (Nat.le_of_ble_eq_true rfl) (fun r5 M4 p6 => ?_)
    have h := h r5 M4 p6
    refine z_if_ne (tgt := 31) dX6_mayLean_10 (by decide) (fun q8 => ?_) (fun q8 => ?_)
    · have h := h.1 q8
      refine z_iconst dX6_mayLean_31 (by decide) ?_
      exact z_zret hr dX6_mayLean_32 (Nat.le_of_ble_eq_true rfl) (Nat.le_of_ble_eq_true rfl) (by decide) ⟨_, rfl, h⟩
    · have h := h.2 q8
      refine z_aload_n 1 dX6_mayLean_13 rfl ?_
      refine z_aload_n 0 dX6_mayLean_14 rfl ?_
      obtain ⟨q9, h⟩ := h
      refine z_getR fl_X6_26 rfl dX6_mayLean_15 q9 ?_
      obtain ⟨b10, eb10, h⟩ := h
      rw [eb10]
      obtain ⟨q11, h⟩ := h
      refine z_getI fl_X6_138 dX6_mayLean_18 q11 ?_
      obtain ⟨q17, h⟩ := h
      obtain ⟨P12, c13, h⟩ := h
      refine z_Vi (as := [vI (zI M4 b10 2)]) mv_X6_141 dX6_mayLean_21 c13 q17 rfl rfl (Nat.le_of_ble_eq_true rfl) (Nat.le_of_ble_eq_true rfl) (Nat.le_of_ble_eq_true rfl) (fun r15 M14 p16 => ?_)
      have h := h r15 M14 p16
      refine z_if_ne (tgt := 31) dX6_mayLean_24 (by decide) (fun q18 => ?_) (fun q18 => ?_)
      · have h := h.1 q18
        refine z_iconst dX6_mayLean_31 (by decide) ?_
        exact z_zret hr dX6_mayLean_32 (Nat.le_of_ble_eq_true rfl) (Nat.le_of_ble_eq_true rfl) (by decide) ⟨_, rfl, h⟩
      · have h := h.2 q18
        refine z_iconst dX6_mayLean_27 (by decide) ?_
        refine z_goto (tgt := 32) dX6_mayLean_28 (by decide) ?_
        exact z_zret hr dX6_mayLean_32 (Nat.le_of_ble_eq_true rfl) (Nat.le_of_ble_eq_true rfl) (by decide) ⟨_, rfl, h⟩
theorem sX6_mayLean {E : zE} {d : Nat} {P : Int → zM → Prop} {M : zM} (a0 : Nat) (a1 : Nat) (a2 : Nat) (h : ∀ X : zX, (xh X).sig.returnType = (some .boolean) → ZX6_mayLean E d X P 0 [(0, vR (some a0)), (1, vR (some a1)), (2, vR (some a2))] [] M 0 0) : zCi E mX6_mayLean (d + 1) 0 0 [vR (some a0), vR (some a1), vR (some a2)] M P := z_start (f := mX6_mayLean) rfl (Nat.le_of_ble_eq_true rfl) rfl h
abbrev ZX6_partOfBreak (E : zE) (d : Nat) (X : zX) (P : Int → zM → Prop) (pc : Nat) (Lc : List (Nat × zV)) (S : List zV) (M : zM) (ce sl : Nat) : Prop := zZ cX6_partOfBreak RX6 "partOfBreak" 4 E (zrm (d + 1) 0 0) X (zQ E (zPi P) X 0 0) pc Lc S M ce sl
set_option maxRecDepth 20000 in
theorem vX6_partOfBreak_0 {E : zE} {d : Nat} {X : zX} {P : Int → zM → Prop} {M : zM} (hr : (xh X).sig.returnType = (some .int)) (a0 : Nat) (a1 : Nat) (x2 : Int) (x3 : Int)
    (h : ((x3 = 0 → zK M a1 = (6, 16) ∧ P (zI M a1 0) M) ∧ (x3 = 1 → P x2 M) ∧ (x3 = 2 → zK M a0 = (7, 5) ∧ ∃ b6, zR M a0 3 = some b6 ∧ zK M b6 = (5, 5) ∧ ∃ P7 : Int → zM → Prop, zCi E mX4_leastShift d 0 0 [vR (some b6), vR (some a1), vI x2] M P7 ∧ ∀ r10 M9, P7 r10 M9 → P r10 M9) ∧ ((x3 < 0 ∨ 2 < x3) → P (-1) M))) :
    ZX6_partOfBreak E d X P 0 [(0, vR (some a0)), (1, vR (some a1)), (2, vI x2), (3, vI x3)] [] M 0 0 := by
  refine z_iload_n 3 dX6_partOfBreak_0 rfl ?_
  obtain ⟨hq1, h⟩ := h
  by_cases q1 : x3 = 0
  · refine z_tableIn (tgt := 28) dX6_partOfBreak_1 0 q1 (by decide) (by decide) rfl (by decide) ?_
    have h := hq1 q1
    refine z_aload_n 1 dX6_partOfBreak_28 rfl ?_
    obtain ⟨q2, h⟩ := h
    refine z_getI fl_X6_110 dX6_partOfBreak_29 q2 ?_
    exact z_iret hr dX6_partOfBreak_32 (Nat.le_of_ble_eq_true rfl) (Nat.le_of_ble_eq_true rfl) ⟨_, rfl, h⟩
  obtain ⟨hq3, h⟩ := h
  by_cases q3 : x3 = 1
  · refine z_tableIn (tgt := 33) dX6_partOfBreak_1 1 q3 (by decide) (by decide) rfl (by decide) ?_
    have h := hq3 q3
    refine z_iload_n 2 dX6_partOfBreak_33 rfl ?_
    exact z_iret hr dX6_partOfBreak_34 (Nat.le_of_ble_eq_true rfl) (Nat.le_of_ble_eq_true rfl) ⟨_, rfl, h⟩
  obtain ⟨hq4, h⟩ := h
  by_cases q4 : x3 = 2
  · refine z_tableIn (tgt := 35) dX6_partOfBreak_1 2 q4 (by decide) (by decide) rfl (by decide) ?_
    have h := hq4 q4
    refine z_aload_n 0 dX6_partOfBreak_35 rfl ?_
    obtain ⟨q5, h⟩ := h
    refine z_getR fl_X6_35 rfl dX6_partOfBreak_36 q5 ?_
    refine z_aload_n 1 dX6_partOfBreak_39 rfl ?_
    refine z_iload_n 2 dX6_partOfBreak_40 rfl ?_
    obtain ⟨b6, eb6, h⟩ := h
    rw [eb6]
    obtain ⟨q12, h⟩ := h
    obtain ⟨P7, c8, h⟩ := h
    refine z_Vi (as := [vR (some a1), vI x2]) mv_X6_294 dX6_partOfBreak_41 c8 q12 rfl rfl (Nat.le_of_ble_eq_true rfl) (Nat.le_of_ble_eq_true rfl) (Nat.le_of_ble_eq_true rfl) (fun r10 M9 p11 => ?_)
    have h := h r10 M9 p11
    exact z_iret hr dX6_partOfBreak_44 (Nat.le_of_ble_eq_true rfl) (Nat.le_of_ble_eq_true rfl) ⟨_, rfl, h⟩
  have ho13 := zo_0_2 x3 q1 q3 q4
  refine z_tableOut (tgt := 45) dX6_partOfBreak_1 ho13 (by decide) ?_
  have h := h ho13
  refine z_iconst dX6_partOfBreak_45 (by decide) ?_
  exact z_iret hr dX6_partOfBreak_46 (Nat.le_of_ble_eq_true rfl) (Nat.le_of_ble_eq_true rfl) ⟨_, rfl, h⟩
theorem sX6_partOfBreak {E : zE} {d : Nat} {P : Int → zM → Prop} {M : zM} (a0 : Nat) (a1 : Nat) (x2 : Int) (x3 : Int) (h : ∀ X : zX, (xh X).sig.returnType = (some .int) → ZX6_partOfBreak E d X P 0 [(0, vR (some a0)), (1, vR (some a1)), (2, vI x2), (3, vI x3)] [] M 0 0) : zCi E mX6_partOfBreak (d + 1) 0 0 [vR (some a0), vR (some a1), vI x2, vI x3] M P := z_start (f := mX6_partOfBreak) rfl (Nat.le_of_ble_eq_true rfl) rfl h
abbrev ZX6_stateOf (E : zE) (d : Nat) (X : zX) (P : Int → zM → Prop) (pc : Nat) (Lc : List (Nat × zV)) (S : List zV) (M : zM) (ce sl : Nat) : Prop := zZ cX6_stateOf RX6 "stateOf" 2 E (zrm (d + 1) 0 0) X (zQ E (zPi P) X 0 0) pc Lc S M ce sl
set_option maxRecDepth 20000 in
theorem vX6_stateOf_0 {E : zE} {d : Nat} {X : zX} {P : Int → zM → Prop} {M : zM} (hr : (xh X).sig.returnType = (some .int)) (a0 : Nat) (a1 : Nat)
    (h : zK M a1 = (6, 16) ∧ ∃ P1 : Int → zM → Prop, zCi E mX5_isOpen d 0 0 [vR (some a1)] M P1 ∧ ∀ r4 M3, P1 r4 M3 → ((r4 = 0 → zK M3 a0 = (7, 5) ∧ ∃ b9, zR M3 a0 2 = some b9 ∧ zK M3 b9 = (1, 3) ∧ zK M3 a1 = (6, 16) ∧ ∃ P11 : Int → zM → Prop, zCi E mX5_isDone d 0 0 [vR (some a1), vI (zI M3 b9 2)] M3 P11 ∧ ∀ r14 M13, P11 r14 M13 → ((r14 = 0 → zK M13 a0 = (7, 5) ∧ ∃ b19, zR M13 a0 2 = some b19 ∧ zK M13 b19 = (1, 3) ∧ zK M13 a1 = (6, 16) ∧ ∃ P21 : Int → zM → Prop, zCi E mX5_hasBegun d 0 0 [vR (some a1), vI (zI M13 b19 2)] M13 P21 ∧ ∀ r24 M23, P21 r24 M23 → ((r24 = 0 → P 1 M23) ∧ (r24 ≠ 0 → P 2 M23))) ∧ (r14 ≠ 0 → P 3 M13))) ∧ (r4 ≠ 0 → P 0 M3))) :
    ZX6_stateOf E d X P 0 [(0, vR (some a0)), (1, vR (some a1))] [] M 0 0 := by
  refine z_aload_n 1 dX6_stateOf_0 rfl ?_
  obtain ⟨q6, h⟩ := h
  obtain ⟨P1, c2, h⟩ := h
  refine z_Vi (as := []) mv_X6_154 dX6_stateOf_1 c2 q6 rfl rfl (Nat.le_of_ble_eq_true rfl) (Nat.le_of_ble_eq_true rfl) (Nat.le_of_ble_eq_true rfl) (fun r4 M3 p5 => ?_)
  have h := h r4 M3 p5
  refine z_if_eq (tgt := 9) dX6_stateOf_4 (by decide) (fun q7 => ?_) (fun q7 => ?_)
  · have h := h.1 q7
    refine z_aload_n 1 dX6_stateOf_9 rfl ?_
    refine z_aload_n 0 dX6_stateOf_10 rfl ?_
    obtain ⟨q8, h⟩ := h
    refine z_getR fl_X6_26 rfl dX6_stateOf_11 q8 ?_
    obtain ⟨b9, eb9, h⟩ := h
    rw [eb9]
    obtain ⟨q10, h⟩ := h
    refine z_getI fl_X6_138 dX6_stateOf_14 q10 ?_
    obtain ⟨q16, h⟩ := h
    obtain ⟨P11, c12, h⟩ := h
    refine z_Vi (as := [vI (zI M3 b9 2)]) mv_X6_271 dX6_stateOf_17 c12 q16 rfl rfl (Nat.le_of_ble_eq_true rfl) (Nat.le_of_ble_eq_true rfl) (Nat.le_of_ble_eq_true rfl) (fun r14 M13 p15 => ?_)
    have h := h r14 M13 p15
    refine z_if_eq (tgt := 25) dX6_stateOf_20 (by decide) (fun q17 => ?_) (fun q17 => ?_)
    · have h := h.1 q17
      refine z_aload_n 1 dX6_stateOf_25 rfl ?_
      refine z_aload_n 0 dX6_stateOf_26 rfl ?_
      obtain ⟨q18, h⟩ := h
      refine z_getR fl_X6_26 rfl dX6_stateOf_27 q18 ?_
      obtain ⟨b19, eb19, h⟩ := h
      rw [eb19]
      obtain ⟨q20, h⟩ := h
      refine z_getI fl_X6_138 dX6_stateOf_30 q20 ?_
      obtain ⟨q26, h⟩ := h
      obtain ⟨P21, c22, h⟩ := h
      refine z_Vi (as := [vI (zI M13 b19 2)]) mv_X6_141 dX6_stateOf_33 c22 q26 rfl rfl (Nat.le_of_ble_eq_true rfl) (Nat.le_of_ble_eq_true rfl) (Nat.le_of_ble_eq_true rfl) (fun r24 M23 p25 => ?_)
      have h := h r24 M23 p25
      refine z_if_eq (tgt := 43) dX6_stateOf_36 (by decide) (fun q27 => ?_) (fun q27 => ?_)
      · have h := h.1 q27
        refine z_iconst dX6_stateOf_43 (by decide) ?_
        exact z_iret hr dX6_stateOf_44 (Nat.le_of_ble_eq_true rfl) (Nat.le_of_ble_eq_true rfl) ⟨_, rfl, h⟩
      · have h := h.2 q27
        refine z_iconst dX6_stateOf_39 (by decide) ?_
        refine z_goto (tgt := 44) dX6_stateOf_40 (by decide) ?_
        exact z_iret hr dX6_stateOf_44 (Nat.le_of_ble_eq_true rfl) (Nat.le_of_ble_eq_true rfl) ⟨_, rfl, h⟩
    · have h := h.2 q17
      refine z_iconst dX6_stateOf_23 (by decide) ?_
      exact z_iret hr dX6_stateOf_24 (Nat.le_of_ble_eq_true rfl) (Nat.le_of_ble_eq_true rfl) ⟨_, rfl, h⟩
  · have h := h.2 q7
    refine z_iconst dX6_stateOf_7 (by decide) ?_
    exact z_iret hr dX6_stateOf_8 (Nat.le_of_ble_eq_true rfl) (Nat.le_of_ble_eq_true rfl) ⟨_, rfl, h⟩
theorem sX6_stateOf {E : zE} {d : Nat} {P : Int → zM → Prop} {M : zM} (a0 : Nat) (a1 : Nat) (h : ∀ X : zX, (xh X).sig.returnType = (some .int) → ZX6_stateOf E d X P 0 [(0, vR (some a0)), (1, vR (some a1))] [] M 0 0) : zCi E mX6_stateOf (d + 1) 0 0 [vR (some a0), vR (some a1)] M P := z_start (f := mX6_stateOf) rfl (Nat.le_of_ble_eq_true rfl) rfl h
abbrev ZX6_shiftsFor (E : zE) (d : Nat) (X : zX) (P : Int → zM → Prop) (pc : Nat) (Lc : List (Nat × zV)) (S : List zV) (M : zM) (ce sl : Nat) : Prop := zZ cX6_shiftsFor RX6 "shiftsFor" 2 E (zrm (d + 1) 0 0) X (zQ E (zPi P) X 0 0) pc Lc S M ce sl
set_option maxRecDepth 20000 in
theorem vX6_shiftsFor_0 {E : zE} {d : Nat} {X : zX} {P : Int → zM → Prop} {M : zM} (hr : (xh X).sig.returnType = (some .int)) (x0 : Int) (x1 : Int)
    (h : ((x0 ≠ 0 → ((1 ≤ x1 → zin (x0 + x1) ∧ zin ((x0 + x1) - 1) ∧ 0 < x1 ∧ P (Int.tdiv ((x0 + x1) - 1) x1) M) ∧ (x1 < 1 → P (-1) M))) ∧ (x0 = 0 → P 0 M))) :
    ZX6_shiftsFor E d X P 0 [(0, vI x0), (1, vI x1)] [] M 0 0 := by
  refine z_iload_n 0 dX6_shiftsFor_0 rfl ?_
  refine z_if_ne (tgt := 6) dX6_shiftsFor_1 (by decide) (fun q1 => ?_) (fun q1 => ?_)
  · have h := h.1 q1
    refine z_iload_n 1 dX6_shiftsFor_6 rfl ?_
    refine z_iconst dX6_shiftsFor_7 (by decide) ?_
    refine z_icmp_ge (tgt := 15) dX6_shiftsFor_8 (by decide) (fun q2 => ?_) (fun q2 => ?_)
    · have h := h.1 q2
      refine z_iload_n 0 dX6_shiftsFor_15 rfl ?_
      refine z_iload_n 1 dX6_shiftsFor_16 rfl ?_
      obtain ⟨q3, h⟩ := h
      refine z_iadd dX6_shiftsFor_17 q3 ?_
      refine z_iconst dX6_shiftsFor_18 (by decide) ?_
      obtain ⟨q4, h⟩ := h
      refine z_isub dX6_shiftsFor_19 q4 ?_
      refine z_iload_n 1 dX6_shiftsFor_20 rfl ?_
      obtain ⟨q5, h⟩ := h
      refine z_idiv dX6_shiftsFor_21 q5 ?_
      exact z_iret hr dX6_shiftsFor_22 (Nat.le_of_ble_eq_true rfl) (Nat.le_of_ble_eq_true rfl) ⟨_, rfl, h⟩
    · have h := h.2 q2
      refine z_iconst dX6_shiftsFor_11 (by decide) ?_
      refine z_goto (tgt := 22) dX6_shiftsFor_12 (by decide) ?_
      exact z_iret hr dX6_shiftsFor_22 (Nat.le_of_ble_eq_true rfl) (Nat.le_of_ble_eq_true rfl) ⟨_, rfl, h⟩
  · have h := h.2 q1
    refine z_iconst dX6_shiftsFor_4 (by decide) ?_
    exact z_iret hr dX6_shiftsFor_5 (Nat.le_of_ble_eq_true rfl) (Nat.le_of_ble_eq_true rfl) ⟨_, rfl, h⟩
theorem sX6_shiftsFor {E : zE} {d : Nat} {P : Int → zM → Prop} {M : zM} (x0 : Int) (x1 : Int) (h : ∀ X : zX, (xh X).sig.returnType = (some .int) → ZX6_shiftsFor E d X P 0 [(0, vI x0), (1, vI x1)] [] M 0 0) : zCi E mX6_shiftsFor (d + 1) 0 0 [vI x0, vI x1] M P := z_start (f := mX6_shiftsFor) rfl (Nat.le_of_ble_eq_true rfl) rfl h
abbrev ZX6_greater (E : zE) (d : Nat) (X : zX) (P : Int → zM → Prop) (pc : Nat) (Lc : List (Nat × zV)) (S : List zV) (M : zM) (ce sl : Nat) : Prop := zZ cX6_greater RX6 "greater" 2 E (zrm (d + 1) 0 0) X (zQ E (zPi P) X 0 0) pc Lc S M ce sl
set_option maxRecDepth 20000 in
theorem vX6_greater_0 {E : zE} {d : Nat} {X : zX} {P : Int → zM → Prop} {M : zM} (hr : (xh X).sig.returnType = (some .int)) (x0 : Int) (x1 : Int)
    (h : ((x0 = (-1) → P (-1) M) ∧ (x0 ≠ (-1) → ((x1 ≠ (-1) → P (max x0 x1) M) ∧ (x1 = (-1) → P (-1) M))))) :
    ZX6_greater E d X P 0 [(0, vI x0), (1, vI x1)] [] M 0 0 := by
  refine z_iload_n 0 dX6_greater_0 rfl ?_
  refine z_iconst dX6_greater_1 (by decide) ?_
  refine z_icmp_eq (tgt := 10) dX6_greater_2 (by decide) (fun q1 => ?_) (fun q1 => ?_)
  · have h := h.1 q1
    refine z_iconst dX6_greater_10 (by decide) ?_
    refine z_goto (tgt := 19) dX6_greater_11 (by decide) ?_
    exact z_iret hr dX6_greater_19 (Nat.le_of_ble_eq_true rfl) (Nat.le_of_ble_eq_true rfl) ⟨_, rfl, h⟩
  · have h := h.2 q1
    refine z_iload_n 1 dX6_greater_5 rfl ?_
    refine z_iconst dX6_greater_6 (by decide) ?_
    refine z_icmp_ne (tgt := 14) dX6_greater_7 (by decide) (fun q2 => ?_) (fun q2 => ?_)
    · have h := h.1 q2
      refine z_iload_n 0 dX6_greater_14 rfl ?_
      refine z_iload_n 1 dX6_greater_15 rfl ?_
      refine z_max mm_X6_242 dX6_greater_16 (Nat.le_of_ble_eq_true rfl) zr3 zr4 (Nat.le_of_ble_eq_true rfl) (Nat.le_of_ble_eq_true rfl) ?_
      exact z_iret hr dX6_greater_19 (Nat.le_of_ble_eq_true rfl) (Nat.le_of_ble_eq_true rfl) ⟨_, rfl, h⟩
    · have h := h.2 q2
      refine z_iconst dX6_greater_10 (by decide) ?_
      refine z_goto (tgt := 19) dX6_greater_11 (by decide) ?_
      exact z_iret hr dX6_greater_19 (Nat.le_of_ble_eq_true rfl) (Nat.le_of_ble_eq_true rfl) ⟨_, rfl, h⟩
theorem sX6_greater {E : zE} {d : Nat} {P : Int → zM → Prop} {M : zM} (x0 : Int) (x1 : Int) (h : ∀ X : zX, (xh X).sig.returnType = (some .int) → ZX6_greater E d X P 0 [(0, vI x0), (1, vI x1)] [] M 0 0) : zCi E mX6_greater (d + 1) 0 0 [vI x0, vI x1] M P := z_start (f := mX6_greater) rfl (Nat.le_of_ble_eq_true rfl) rfl h
