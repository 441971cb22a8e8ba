abbrev ZX7_load (E : zE) (d : Nat) (X : zX) (P : Int → zM → Prop) (pc : Nat) (Lc : List (Nat × zV)) (S : List zV) (M : zM) (ce sl : Nat) : Prop := zZ cX7_load RX7 "load" 5 E (zrm (d + 1) 0 0) X (zQ E (zPi P) X 0 0) pc Lc S M ce sl
set_option maxRecDepth 20000 in
theorem vX7_load_0 {E : zE} {d : Nat} {X : zX} {P : Int → zM → Prop} {M : zM} (hr : (xh X).sig.returnType = (some .int)) (a0 : Nat) (x1 : Int) (x2 : Int)
    (h : ∃ P1 : Int → zM → Prop, zCi E mX7_in d 0 0 [vI x1, vI 0, vI 399] M P1 ∧ ∀ r4 M3, P1 r4 M3 → ((r4 = 0 → P (-1) M3) ∧ (r4 ≠ 0 → ∃ P7 : Int → zM → Prop, zCi E mX7_in d 0 0 [vI x2, vI 0, vI 8] M3 P7 ∧ ∀ r10 M9, P7 r10 M9 → ((r10 ≠ 0 → ZX7_load E d X P 28 [(0, vR (some a0)), (1, vI x1), (2, vI x2), (3, vI 0), (4, vI 0)] [] M9 0 0) ∧ (r10 = 0 → P (-1) M9))))) :
    ZX7_load E d X P 0 [(0, vR (some a0)), (1, vI x1), (2, vI x2)] [] M 0 0 := by
  refine z_iload_n 1 dX7_load_0 rfl ?_
  refine z_iconst dX7_load_1 (by decide) ?_
  refine z_sipush dX7_load_2 (by decide) ?_
  obtain ⟨P1, c2, h⟩ := h
  refine z_Si (as := [vI x1, vI 0, vI 399]) ms_X7_78 dX7_load_5 c2 rfl rfl (Nat.le_of_ble_eq_true rfl) (Nat.le_of_ble_eq_true rfl) (Nat.le_of_ble_eq_true rfl) (fun r4 M3 p5 => ?_)
  have h := h r4 M3 p5
  refine z_if_eq (tgt := 21) dX7_load_8 (by decide) (fun q6 => ?_) (fun q6 => ?_)
  · have h := h.1 q6
    refine z_iconst dX7_load_21 (by decide) ?_
    exact z_iret hr dX7_load_22 (Nat.le_of_ble_eq_true rfl) (Nat.le_of_ble_eq_true rfl) ⟨_, rfl, h⟩
  · have h := h.2 q6
    refine z_iload_n 2 dX7_load_11 rfl ?_
    refine z_iconst dX7_load_12 (by decide) ?_
    refine z_bipush dX7_load_13 (by decide) ?_
    obtain ⟨P7, c8, h⟩ := h
    refine z_Si (as := [vI x2, vI 0, vI 8]) ms_X7_78 dX7_load_15 c8 rfl rfl (Nat.le_of_ble_eq_true rfl) (Nat.le_of_ble_eq_true rfl) (Nat.le_of_ble_eq_true rfl) (fun r10 M9 p11 => ?_)
    have h := h r10 M9 p11
    refine z_if_ne (tgt := 23) dX7_load_18 (by decide) (fun q12 => ?_) (fun q12 => ?_)
    · have h := h.1 q12
      refine z_iconst dX7_load_23 (by decide) ?_
      refine z_istore_n dX7_load_24 (by decide) rfl ?_
      refine z_iconst dX7_load_25 (by decide) ?_
      refine z_istore dX7_load_26 (by decide) rfl ?_
      exact z_sub [2, 3, 4, 1, 0] rfl h
    · have h := h.2 q12
      refine z_iconst dX7_load_21 (by decide) ?_
      exact z_iret hr dX7_load_22 (Nat.le_of_ble_eq_true rfl) (Nat.le_of_ble_eq_true rfl) ⟨_, rfl, h⟩
set_option maxRecDepth 20000 in
theorem vX7_load_28 {E : zE} {d : Nat} {X : zX} {P : Int → zM → Prop} {M : zM} (hr : (xh X).sig.returnType = (some .int)) (a0 : Nat) (x1 : Int) (x2 : Int) (x3 : Int) (x4 : Int)
    (h : zK M a0 = (8, 25) ∧ (((zI M a0 8) ≤ x4 → P x3 M) ∧ (x4 < (zI M a0 8) → zK M a0 = (8, 25) ∧ ∃ P3 : Int → zM → Prop, zCi E mX7_isIn d 0 0 [vR (some a0), vI x4, vI x1] M P3 ∧ ∀ r6 M5, P3 r6 M5 → ((r6 ≠ 0 → ((4 ≤ x2 → ((8 ≤ x2 → zin (x3 + 1) ∧ zin (x4 + 1) ∧ ZX7_load E d X P 28 [(0, vR (some a0)), (1, vI x1), (2, vI x2), (3, vI (x3 + 1)), (4, vI (x4 + 1))] [] M5 0 0) ∧ (x2 < 8 → zK M5 a0 = (8, 25) ∧ ∃ b15, zR M5 a0 14 = some b15 ∧ (zK M5 b15).1 = 9 ∧ 0 ≤ x4 ∧ x4 < ((zK M5 b15).2 : Int) ∧ zin (x2 - 4) ∧ (((zI M5 b15 x4) ≠ (x2 - 4) → zin (x3 + 0) ∧ zin (x4 + 1) ∧ ZX7_load E d X P 28 [(0, vR (some a0)), (1, vI x1), (2, vI x2), (3, vI (x3 + 0)), (4, vI (x4 + 1))] [] M5 0 0) ∧ ((zI M5 b15 x4) = (x2 - 4) → zin (x3 + 1) ∧ zin (x4 + 1) ∧ ZX7_load E d X P 28 [(0, vR (some a0)), (1, vI x1), (2, vI x2), (3, vI (x3 + 1)), (4, vI (x4 + 1))] [] M5 0 0))))) ∧ (x2 < 4 → zK M5 a0 = (8, 25) ∧ ∃ b26, zR M5 a0 10 = some b26 ∧ (zK M5 b26).1 = 9 ∧ 0 ≤ x4 ∧ x4 < ((zK M5 b26).2 : Int) ∧ (((zI M5 b26 x4) ≠ x2 → zin (x3 + 0) ∧ zin (x4 + 1) ∧ ZX7_load E d X P 28 [(0, vR (some a0)), (1, vI x1), (2, vI x2), (3, vI (x3 + 0)), (4, vI (x4 + 1))] [] M5 0 0) ∧ ((zI M5 b26 x4) = x2 → zK M5 a0 = (8, 25) ∧ ∃ b34, zR M5 a0 11 = some b34 ∧ (zK M5 b34).1 = 9 ∧ 0 ≤ x4 ∧ x4 < ((zK M5 b34).2 : Int) ∧ zin (x3 + (zI M5 b34 x4)) ∧ zin (x4 + 1) ∧ ZX7_load E d X P 28 [(0, vR (some a0)), (1, vI x1), (2, vI x2), (3, vI (x3 + (zI M5 b34 x4))), (4, vI (x4 + 1))] [] M5 0 0))))) ∧ (r6 = 0 → zin (x4 + 1) ∧ ZX7_load E d X P 28 [(0, vR (some a0)), (1, vI x1), (2, vI x2), (3, vI x3), (4, vI (x4 + 1))] [] M5 0 0))))) :
    ZX7_load E d X P 28 [(0, vR (some a0)), (1, vI x1), (2, vI x2), (3, vI x3), (4, vI x4)] [] M 0 0 := by
  refine z_iload 4 dX7_load_28 rfl ?_
  refine z_aload_n 0 dX7_load_30 rfl ?_
  obtain ⟨q1, h⟩ := h
  refine z_getI fl_X7_74 dX7_load_31 q1 ?_
  refine z_icmp_ge (tgt := 122) dX7_load_34 (by decide) (fun q2 => ?_) (fun q2 => ?_)
  · have h := h.1 q2
    refine z_iload_n 3 dX7_load_122 rfl ?_
    exact z_iret hr dX7_load_123 (Nat.le_of_ble_eq_true rfl) (Nat.le_of_ble_eq_true rfl) ⟨_, rfl, h⟩
  · have h := h.2 q2
    refine z_aload_n 0 dX7_load_37 rfl ?_
    refine z_iload 4 dX7_load_38 rfl ?_
    refine z_iload_n 1 dX7_load_40 rfl ?_
    obtain ⟨q8, h⟩ := h
    obtain ⟨P3, c4, h⟩ := h
    refine z_Vi (as := [vI x4, vI x1]) mv_X7_116 dX7_load_41 c4 q8 rfl rfl (Nat.le_of_ble_eq_true rfl) (Nat.le_of_ble_eq_true rfl) (Nat.le_of_ble_eq_true rfl) (fun r6 M5 p7 => ?_)
    have h := h r6 M5 p7
    refine z_if_ne (tgt := 50) dX7_load_44 (by decide) (fun q9 => ?_) (fun q9 => ?_)
    · have h := h.1 q9
      refine z_iload_n 2 dX7_load_50 rfl ?_
      refine z_iconst dX7_load_51 (by decide) ?_
      refine z_icmp_ge (tgt := 83) dX7_load_52 (by decide) (fun q10 => ?_) (fun q10 => ?_)
      · have h := h.1 q10
        refine z_iload_n 2 dX7_load_83 rfl ?_
        refine z_bipush dX7_load_84 (by decide) ?_
        refine z_icmp_ge (tgt := 113) dX7_load_86 (by decide) (fun q11 => ?_) (fun q11 => ?_)
        · have h := h.1 q11
          obtain ⟨q12, h⟩ := h
          refine z_iinc 3 dX7_load_113 rfl (by decide) q12 rfl ?_
          obtain ⟨q13, h⟩ := h
          refine z_iinc 4 dX7_load_116 rfl (by decide) q13 rfl ?_
          refine z_goto (tgt := 28) dX7_load_119 (by decide) ?_
          exact z_sub [2, 3, 4, 1, 0] rfl h
        · have h := h.2 q11
          refine z_iload_n 3 dX7_load_89 rfl ?_
          refine z_aload_n 0 dX7_load_90 rfl ?_
          obtain ⟨q14, h⟩ := h
          refine z_getR fl_X7_41 rfl dX7_load_91 q14 ?_
          refine z_iload 4 dX7_load_94 rfl ?_
          obtain ⟨b15, eb15, h⟩ := h
          rw [eb15]
          obtain ⟨q16, h⟩ := h
          obtain ⟨q17, h⟩ := h
          obtain ⟨q18, h⟩ := h
          refine z_iald dX7_load_96 (n := (zK M5 b15).2) (Prod.ext q16 rfl) q17 q18 ?_
          refine z_iload_n 2 dX7_load_97 rfl ?_
          refine z_iconst dX7_load_98 (by decide) ?_
          obtain ⟨q19, h⟩ := h
          refine z_isub dX7_load_99 q19 ?_
          refine z_icmp_ne (tgt := 107) dX7_load_100 (by decide) (fun q20 => ?_) (fun q20 => ?_)
          · have h := h.1 q20
            refine z_iconst dX7_load_107 (by decide) ?_
            obtain ⟨q21, h⟩ := h
            refine z_iadd dX7_load_108 q21 ?_
            refine z_istore_n dX7_load_109 (by decide) rfl ?_
            refine z_goto (tgt := 116) dX7_load_110 (by decide) ?_
            obtain ⟨q22, h⟩ := h
            refine z_iinc 4 dX7_load_116 rfl (by decide) q22 rfl ?_
            refine z_goto (tgt := 28) dX7_load_119 (by decide) ?_
            exact z_sub [2, 3, 4, 1, 0] rfl h
          · have h := h.2 q20
            refine z_iconst dX7_load_103 (by decide) ?_
            refine z_goto (tgt := 108) dX7_load_104 (by decide) ?_
            obtain ⟨q23, h⟩ := h
            refine z_iadd dX7_load_108 q23 ?_
            refine z_istore_n dX7_load_109 (by decide) rfl ?_
            refine z_goto (tgt := 116) dX7_load_110 (by decide) ?_
            obtain ⟨q24, h⟩ := h
            refine z_iinc 4 dX7_load_116 rfl (by decide) q24 rfl ?_
            refine z_goto (tgt := 28) dX7_load_119 (by decide) ?_
            exact z_sub [2, 3, 4, 1, 0] rfl h
      · have h := h.2 q10
        refine z_iload_n 3 dX7_load_55 rfl ?_
        refine z_aload_n 0 dX7_load_56 rfl ?_
        obtain ⟨q25, h⟩ := h
        refine z_getR fl_X7_29 rfl dX7_load_57 q25 ?_
        refine z_iload 4 dX7_load_60 rfl ?_
        obtain ⟨b26, eb26, h⟩ := h
        rw [eb26]
        obtain ⟨q27, h⟩ := h
        obtain ⟨q28, h⟩ := h
        obtain ⟨q29, h⟩ := h
        refine z_iald dX7_load_62 (n := (zK M5 b26).2) (Prod.ext q27 rfl) q28 q29 ?_
        refine z_iload_n 2 dX7_load_63 rfl ?_
        refine z_icmp_ne (tgt := 77) dX7_load_64 (by decide) (fun q30 => ?_) (fun q30 => ?_)
        · have h := h.1 q30
          refine z_iconst dX7_load_77 (by decide) ?_
          obtain ⟨q31, h⟩ := h
          refine z_iadd dX7_load_78 q31 ?_
          refine z_istore_n dX7_load_79 (by decide) rfl ?_
          refine z_goto (tgt := 116) dX7_load_80 (by decide) ?_
          obtain ⟨q32, h⟩ := h
          refine z_iinc 4 dX7_load_116 rfl (by decide) q32 rfl ?_
          refine z_goto (tgt := 28) dX7_load_119 (by decide) ?_
          exact z_sub [2, 3, 4, 1, 0] rfl h
        · have h := h.2 q30
          refine z_aload_n 0 dX7_load_67 rfl ?_
          obtain ⟨q33, h⟩ := h
          refine z_getR fl_X7_32 rfl dX7_load_68 q33 ?_
          refine z_iload 4 dX7_load_71 rfl ?_
          obtain ⟨b34, eb34, h⟩ := h
          rw [eb34]
          obtain ⟨q35, h⟩ := h
          obtain ⟨q36, h⟩ := h
          obtain ⟨q37, h⟩ := h
          refine z_iald dX7_load_73 (n := (zK M5 b34).2) (Prod.ext q35 rfl) q36 q37 ?_
          refine z_goto (tgt := 78) dX7_load_74 (by decide) ?_
          obtain ⟨q38, h⟩ := h
          refine z_iadd dX7_load_78 q38 ?_
          refine z_istore_n dX7_load_79 (by decide) rfl ?_
          refine z_goto (tgt := 116) dX7_load_80 (by decide) ?_
          obtain ⟨q39, h⟩ := h
          refine z_iinc 4 dX7_load_116 rfl (by decide) q39 rfl ?_
          refine z_goto (tgt := 28) dX7_load_119 (by decide) ?_
          exact z_sub [2, 3, 4, 1, 0] rfl h
    · have h := h.2 q9
      refine z_goto (tgt := 116) dX7_load_47 (by decide) ?_
      obtain ⟨q40, h⟩ := h
      refine z_iinc 4 dX7_load_116 rfl (by decide) q40 rfl ?_
      refine z_goto (tgt := 28) dX7_load_119 (by decide) ?_
      exact z_sub [1, 2, 3, 4, 0] rfl h
theorem sX7_load {E : zE} {d : Nat} {P : Int → zM → Prop} {M : zM} (a0 : Nat) (x1 : Int) (x2 : Int) (h : ∀ X : zX, (xh X).sig.returnType = (some .int) → ZX7_load E d X P 0 [(0, vR (some a0)), (1, vI x1), (2, vI x2)] [] M 0 0) : zCi E mX7_load (d + 1) 0 0 [vR (some a0), vI x1, vI x2] M P := z_start (f := mX7_load) rfl (Nat.le_of_ble_eq_true rfl) rfl h
abbrev ZX7_count (E : zE) (d : Nat) (X : zX) (P : Int → zM → Prop) (pc : Nat) (Lc : List (Nat × zV)) (S : List zV) (M : zM) (ce sl : Nat) : Prop := zZ cX7_count RX7 "count" 4 E (zrm (d + 1) 0 0) X (zQ E (zPi P) X 0 0) pc Lc S M ce sl
set_option maxRecDepth 20000 in
theorem vX7_count_0 {E : zE} {d : Nat} {X : zX} {P : Int → zM → Prop} {M : zM} (hr : (xh X).sig.returnType = (some .int)) (a0 : Nat) (x1 : Int)
    (h : ((x1 = 0 → zK M a0 = (8, 25) ∧ P (zI M a0 0) M) ∧ (x1 = 1 → zK M a0 = (8, 25) ∧ P (zI M a0 1) M) ∧ (x1 = 2 → zK M a0 = (8, 25) ∧ P (zI M a0 8) M) ∧ (x1 = 3 → ZX7_count E d X P 61 [(0, vR (some a0)), (1, vI x1), (2, vI 0), (3, vI 0)] [] M 0 0) ∧ (x1 = 4 → ZX7_count E d X P 95 [(0, vR (some a0)), (1, vI x1), (2, vI 0), (3, vI 0)] [] M 0 0) ∧ (x1 = 5 → zK M a0 = (8, 25) ∧ P (zI M a0 6) M) ∧ (x1 = 6 → zK M a0 = (8, 25) ∧ ∃ P12 : Int → zM → Prop, zCi E mX7_way d 0 0 [vR (some a0)] M P12 ∧ ∀ r15 M14, P12 r15 M14 → P r15 M14) ∧ ((x1 < 0 ∨ 6 < x1) → P (-1) M))) :
    ZX7_count E d X P 0 [(0, vR (some a0)), (1, vI x1)] [] M 0 0 := by
  refine z_iconst dX7_count_0 (by decide) ?_
  refine z_istore_n dX7_count_1 (by decide) rfl ?_
  refine z_iload_n 2 dX7_count_2 rfl ?_
  obtain ⟨hq1, h⟩ := h
  by_cases q1 : x1 = 0
  · refine z_tableIn (tgt := 44) dX7_count_3 0 q1 (by decide) (by decide) rfl (by decide) ?_
    have h := hq1 q1
    refine z_aload_n 1 dX7_count_44 rfl ?_
    obtain ⟨q2, h⟩ := h
    refine z_getI fl_X7_93 dX7_count_45 q2 ?_
    exact z_iret hr dX7_count_48 (Nat.le_of_ble_eq_true rfl) (Nat.le_of_ble_eq_true rfl) ⟨_, rfl, h⟩
  obtain ⟨hq3, h⟩ := h
  by_cases q3 : x1 = 1
  · refine z_tableIn (tgt := 49) dX7_count_3 1 q3 (by decide) (by decide) rfl (by decide) ?_
    have h := hq3 q3
    refine z_aload_n 1 dX7_count_49 rfl ?_
    obtain ⟨q4, h⟩ := h
    refine z_getI fl_X7_82 dX7_count_50 q4 ?_
    exact z_iret hr dX7_count_53 (Nat.le_of_ble_eq_true rfl) (Nat.le_of_ble_eq_true rfl) ⟨_, rfl, h⟩
  obtain ⟨hq5, h⟩ := h
  by_cases q5 : x1 = 2
  · refine z_tableIn (tgt := 54) dX7_count_3 2 q5 (by decide) (by decide) rfl (by decide) ?_
    have h := hq5 q5
    refine z_aload_n 1 dX7_count_54 rfl ?_
    obtain ⟨q6, h⟩ := h
    refine z_getI fl_X7_74 dX7_count_55 q6 ?_
    exact z_iret hr dX7_count_58 (Nat.le_of_ble_eq_true rfl) (Nat.le_of_ble_eq_true rfl) ⟨_, rfl, h⟩
  obtain ⟨hq7, h⟩ := h
  by_cases q7 : x1 = 3
  · refine z_tableIn (tgt := 59) dX7_count_3 3 q7 (by decide) (by decide) rfl (by decide) ?_
    have h := hq7 q7
    refine z_iconst dX7_count_59 (by decide) ?_
    refine z_istore_n dX7_count_60 (by decide) rfl ?_
    exact z_sub [2, 3, 1, 0] rfl h
  obtain ⟨hq8, h⟩ := h
  by_cases q8 : x1 = 4
  · refine z_tableIn (tgt := 93) dX7_count_3 4 q8 (by decide) (by decide) rfl (by decide) ?_
    have h := hq8 q8
    refine z_iconst dX7_count_93 (by decide) ?_
    refine z_istore_n dX7_count_94 (by decide) rfl ?_
    exact z_sub [2, 3, 1, 0] rfl h
  obtain ⟨hq9, h⟩ := h
  by_cases q9 : x1 = 5
  · refine z_tableIn (tgt := 127) dX7_count_3 5 q9 (by decide) (by decide) rfl (by decide) ?_
    have h := hq9 q9
    refine z_aload_n 1 dX7_count_127 rfl ?_
    obtain ⟨q10, h⟩ := h
    refine z_getI fl_X7_85 dX7_count_128 q10 ?_
    exact z_iret hr dX7_count_131 (Nat.le_of_ble_eq_true rfl) (Nat.le_of_ble_eq_true rfl) ⟨_, rfl, h⟩
  obtain ⟨hq11, h⟩ := h
  by_cases q11 : x1 = 6
  · refine z_tableIn (tgt := 132) dX7_count_3 6 q11 (by decide) (by decide) rfl (by decide) ?_
    have h := hq11 q11
    refine z_aload_n 1 dX7_count_132 rfl ?_
    obtain ⟨q17, h⟩ := h
    obtain ⟨P12, c13, h⟩ := h
    refine z_Vi (as := []) mv_X7_132 dX7_count_133 c13 q17 rfl rfl (Nat.le_of_ble_eq_true rfl) (Nat.le_of_ble_eq_true rfl) (Nat.le_of_ble_eq_true rfl) (fun r15 M14 p16 => ?_)
    have h := h r15 M14 p16
    exact z_iret hr dX7_count_136 (Nat.le_of_ble_eq_true rfl) (Nat.le_of_ble_eq_true rfl) ⟨_, rfl, h⟩
  have ho18 := zo_0_6 x1 q1 q3 q5 q7 q8 q9 q11
  refine z_tableOut (tgt := 137) dX7_count_3 ho18 (by decide) ?_
  have h := h ho18
  refine z_iconst dX7_count_137 (by decide) ?_
  exact z_iret hr dX7_count_138 (Nat.le_of_ble_eq_true rfl) (Nat.le_of_ble_eq_true rfl) ⟨_, rfl, h⟩
set_option maxRecDepth 20000 in
theorem vX7_count_61 {E : zE} {d : Nat} {X : zX} {P : Int → zM → Prop} {M : zM} (hr : (xh X).sig.returnType = (some .int)) (a0 : Nat) (x1 : Int) (x2 : Int) (x3 : Int)
    (h : zK M a0 = (8, 25) ∧ (((zI M a0 8) ≤ x3 → P x2 M) ∧ (x3 < (zI M a0 8) → zK M a0 = (8, 25) ∧ ∃ P3 : Int → zM → Prop, zCi E mX7_isPut d 0 0 [vR (some a0), vI x3] M P3 ∧ ∀ r6 M5, P3 r6 M5 → ((r6 = 0 → zin (x2 + 1) ∧ zin (x3 + 1) ∧ ZX7_count E d X P 61 [(0, vR (some a0)), (1, vI x1), (2, vI (x2 + 1)), (3, vI (x3 + 1))] [] M5 0 0) ∧ (r6 ≠ 0 → zin (x2 + 0) ∧ zin (x3 + 1) ∧ ZX7_count E d X P 61 [(0, vR (some a0)), (1, vI x1), (2, vI (x2 + 0)), (3, vI (x3 + 1))] [] M5 0 0))))) :
    ZX7_count E d X P 61 [(0, vR (some a0)), (1, vI x1), (2, vI x2), (3, vI x3)] [] M 0 0 := by
  refine z_iload_n 3 dX7_count_61 rfl ?_
  refine z_aload_n 0 dX7_count_62 rfl ?_
  obtain ⟨q1, h⟩ := h
  refine z_getI fl_X7_74 dX7_count_63 q1 ?_
  refine z_icmp_ge (tgt := 91) dX7_count_66 (by decide) (fun q2 => ?_) (fun q2 => ?_)
  · have h := h.1 q2
    refine z_iload_n 2 dX7_count_91 rfl ?_
    exact z_iret hr dX7_count_92 (Nat.le_of_ble_eq_true rfl) (Nat.le_of_ble_eq_true rfl) ⟨_, rfl, h⟩
  · have h := h.2 q2
    refine z_iload_n 2 dX7_count_69 rfl ?_
    refine z_aload_n 0 dX7_count_70 rfl ?_
    refine z_iload_n 3 dX7_count_71 rfl ?_
    obtain ⟨q8, h⟩ := h
    obtain ⟨P3, c4, h⟩ := h
    refine z_Vi (as := [vI x3]) mv_X7_89 dX7_count_72 c4 q8 rfl rfl (Nat.le_of_ble_eq_true rfl) (Nat.le_of_ble_eq_true rfl) (Nat.le_of_ble_eq_true rfl) (fun r6 M5 p7 => ?_)
    have h := h r6 M5 p7
    refine z_if_eq (tgt := 82) dX7_count_75 (by decide) (fun q9 => ?_) (fun q9 => ?_)
    · have h := h.1 q9
      refine z_iconst dX7_count_82 (by decide) ?_
      obtain ⟨q10, h⟩ := h
      refine z_iadd dX7_count_83 q10 ?_
      refine z_istore_n dX7_count_84 (by decide) rfl ?_
      obtain ⟨q11, h⟩ := h
      refine z_iinc 3 dX7_count_85 rfl (by decide) q11 rfl ?_
      refine z_goto (tgt := 61) dX7_count_88 (by decide) ?_
      exact z_sub [2, 3, 1, 0] rfl h
    · have h := h.2 q9
      refine z_iconst dX7_count_78 (by decide) ?_
      refine z_goto (tgt := 83) dX7_count_79 (by decide) ?_
      obtain ⟨q12, h⟩ := h
      refine z_iadd dX7_count_83 q12 ?_
      refine z_istore_n dX7_count_84 (by decide) rfl ?_
      obtain ⟨q13, h⟩ := h
      refine z_iinc 3 dX7_count_85 rfl (by decide) q13 rfl ?_
      refine z_goto (tgt := 61) dX7_count_88 (by decide) ?_
      exact z_sub [2, 3, 1, 0] rfl h
set_option maxRecDepth 20000 in
theorem vX7_count_95 {E : zE} {d : Nat} {X : zX} {P : Int → zM → Prop} {M : zM} (hr : (xh X).sig.returnType = (some .int)) (a0 : Nat) (x1 : Int) (x2 : Int) (x3 : Int)
    (h : zK M a0 = (8, 25) ∧ (((zI M a0 8) ≤ x3 → P x2 M) ∧ (x3 < (zI M a0 8) → zK M a0 = (8, 25) ∧ ∃ P3 : Int → zM → Prop, zCi E mX7_isDone d 0 0 [vR (some a0), vI x3] M P3 ∧ ∀ r6 M5, P3 r6 M5 → ((r6 = 0 → zin (x2 + 0) ∧ zin (x3 + 1) ∧ ZX7_count E d X P 95 [(0, vR (some a0)), (1, vI x1), (2, vI (x2 + 0)), (3, vI (x3 + 1))] [] M5 0 0) ∧ (r6 ≠ 0 → zin (x2 + 1) ∧ zin (x3 + 1) ∧ ZX7_count E d X P 95 [(0, vR (some a0)), (1, vI x1), (2, vI (x2 + 1)), (3, vI (x3 + 1))] [] M5 0 0))))) :
    ZX7_count E d X P 95 [(0, vR (some a0)), (1, vI x1), (2, vI x2), (3, vI x3)] [] M 0 0 := by
  refine z_iload_n 3 dX7_count_95 rfl ?_
  refine z_aload_n 0 dX7_count_96 rfl ?_
  obtain ⟨q1, h⟩ := h
  refine z_getI fl_X7_74 dX7_count_97 q1 ?_
  refine z_icmp_ge (tgt := 125) dX7_count_100 (by decide) (fun q2 => ?_) (fun q2 => ?_)
  · have h := h.1 q2
    refine z_iload_n 2 dX7_count_125 rfl ?_
    exact z_iret hr dX7_count_126 (Nat.le_of_ble_eq_true rfl) (Nat.le_of_ble_eq_true rfl) ⟨_, rfl, h⟩
  · have h := h.2 q2
    refine z_iload_n 2 dX7_count_103 rfl ?_
    refine z_aload_n 0 dX7_count_104 rfl ?_
    refine z_iload_n 3 dX7_count_105 rfl ?_
    obtain ⟨q8, h⟩ := h
    obtain ⟨P3, c4, h⟩ := h
    refine z_Vi (as := [vI x3]) mv_X7_148 dX7_count_106 c4 q8 rfl rfl (Nat.le_of_ble_eq_true rfl) (Nat.le_of_ble_eq_true rfl) (Nat.le_of_ble_eq_true rfl) (fun r6 M5 p7 => ?_)
    have h := h r6 M5 p7
    refine z_if_eq (tgt := 116) dX7_count_109 (by decide) (fun q9 => ?_) (fun q9 => ?_)
    · have h := h.1 q9
      refine z_iconst dX7_count_116 (by decide) ?_
      obtain ⟨q10, h⟩ := h
      refine z_iadd dX7_count_117 q10 ?_
      refine z_istore_n dX7_count_118 (by decide) rfl ?_
      obtain ⟨q11, h⟩ := h
      refine z_iinc 3 dX7_count_119 rfl (by decide) q11 rfl ?_
      refine z_goto (tgt := 95) dX7_count_122 (by decide) ?_
      exact z_sub [2, 3, 1, 0] rfl h
    · have h := h.2 q9
      refine z_iconst dX7_count_112 (by decide) ?_
      refine z_goto (tgt := 117) dX7_count_113 (by decide) ?_
      obtain ⟨q12, h⟩ := h
      refine z_iadd dX7_count_117 q12 ?_
      refine z_istore_n dX7_count_118 (by decide) rfl ?_
      obtain ⟨q13, h⟩ := h
      refine z_iinc 3 dX7_count_119 rfl (by decide) q13 rfl ?_
      refine z_goto (tgt := 95) dX7_count_122 (by decide) ?_
      exact z_sub [2, 3, 1, 0] rfl h
theorem sX7_count {E : zE} {d : Nat} {P : Int → zM → Prop} {M : zM} (a0 : Nat) (x1 : Int) (h : ∀ X : zX, (xh X).sig.returnType = (some .int) → ZX7_count E d X P 0 [(0, vR (some a0)), (1, vI x1)] [] M 0 0) : zCi E mX7_count (d + 1) 0 0 [vR (some a0), vI x1] M P := z_start (f := mX7_count) rfl (Nat.le_of_ble_eq_true rfl) rfl h
