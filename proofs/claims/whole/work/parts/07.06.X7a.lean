abbrev ZX7_end (E : zE) (d : Nat) (X : zX) (P : Int → zM → Prop) (pc : Nat) (Lc : List (Nat × zV)) (S : List zV) (M : zM) (ce sl : Nat) : Prop := zZ cX7_end RX7 "end" 3 E (zrm (d + 1) 0 0) X (zQ E (zPi P) X 0 0) pc Lc S M ce sl
set_option maxRecDepth 20000 in
theorem vX7_end_0 {E : zE} {d : Nat} {X : zX} {P : Int → zM → Prop} {M : zM} (hr : (xh X).sig.returnType = (some .int)) (a0 : Nat)
    (h : ZX7_end E d X P 4 [(0, vR (some a0)), (1, vI 0), (2, vI 0)] [] M 0 0) :
    ZX7_end E d X P 0 [(0, vR (some a0))] [] M 0 0 := by
  refine z_iconst dX7_end_0 (by decide) ?_
  refine z_istore_n dX7_end_1 (by decide) rfl ?_
  refine z_iconst dX7_end_2 (by decide) ?_
  refine z_istore_n dX7_end_3 (by decide) rfl ?_
  exact z_sub [2, 1, 0] rfl h
set_option maxRecDepth 20000 in
theorem vX7_end_4 {E : zE} {d : Nat} {X : zX} {P : Int → zM → Prop} {M : zM} (hr : (xh X).sig.returnType = (some .int)) (a0 : Nat) (x1 : Int) (x2 : Int)
    (h : zK M a0 = (8, 25) ∧ (((zI M a0 8) ≤ x2 → P x1 M) ∧ (x2 < (zI M a0 8) → zK M a0 = (8, 25) ∧ ∃ P3 : Int → zM → Prop, zCi E mX7_isPut d 0 0 [vR (some a0), vI x2] M P3 ∧ ∀ r6 M5, P3 r6 M5 → ((r6 = 0 → zin (x2 + 1) ∧ ZX7_end E d X P 4 [(0, vR (some a0)), (1, vI x1), (2, vI (x2 + 1))] [] M5 0 0) ∧ (r6 ≠ 0 → zK M5 a0 = (8, 25) ∧ ∃ P11 : Int → zM → Prop, zCi E mX7_endOf d 0 0 [vR (some a0), vI x2] M5 P11 ∧ ∀ r14 M13, P11 r14 M13 → ((r14 ≤ x1 → zin (x2 + 1) ∧ ZX7_end E d X P 4 [(0, vR (some a0)), (1, vI x1), (2, vI (x2 + 1))] [] M13 0 0) ∧ (x1 < r14 → zK M13 a0 = (8, 25) ∧ ∃ P19 : Int → zM → Prop, zCi E mX7_endOf d 0 0 [vR (some a0), vI x2] M13 P19 ∧ ∀ r22 M21, P19 r22 M21 → zin (x2 + 1) ∧ ZX7_end E d X P 4 [(0, vR (some a0)), (1, vI r22), (2, vI (x2 + 1))] [] M21 0 0))))))) :
    ZX7_end E d X P 4 [(0, vR (some a0)), (1, vI x1), (2, vI x2)] [] M 0 0 := by
  refine z_iload_n 2 dX7_end_4 rfl ?_
  refine z_aload_n 0 dX7_end_5 rfl ?_
  obtain ⟨q1, h⟩ := h
  refine z_getI fl_X7_74 dX7_end_6 q1 ?_
  refine z_icmp_ge (tgt := 41) dX7_end_9 (by decide) (fun q2 => ?_) (fun q2 => ?_)
  · have h := h.1 q2
    refine z_iload_n 1 dX7_end_41 rfl ?_
    exact z_iret hr dX7_end_42 (Nat.le_of_ble_eq_true rfl) (Nat.le_of_ble_eq_true rfl) ⟨_, rfl, h⟩
  · have h := h.2 q2
    refine z_aload_n 0 dX7_end_12 rfl ?_
    refine z_iload_n 2 dX7_end_13 rfl ?_
    obtain ⟨q8, h⟩ := h
    obtain ⟨P3, c4, h⟩ := h
    refine z_Vi (as := [vI x2]) mv_X7_89 dX7_end_14 c4 q8 rfl rfl (Nat.le_of_ble_eq_true rfl) (Nat.le_of_ble_eq_true rfl) (Nat.le_of_ble_eq_true rfl) (fun r6 M5 p7 => ?_)
    have h := h r6 M5 p7
    refine z_if_eq (tgt := 35) dX7_end_17 (by decide) (fun q9 => ?_) (fun q9 => ?_)
    · have h := h.1 q9
      obtain ⟨q10, h⟩ := h
      refine z_iinc 2 dX7_end_35 rfl (by decide) q10 rfl ?_
      refine z_goto (tgt := 4) dX7_end_38 (by decide) ?_
      exact z_sub [1, 2, 0] rfl h
    · have h := h.2 q9
      refine z_aload_n 0 dX7_end_20 rfl ?_
      refine z_iload_n 2 dX7_end_21 rfl ?_
      obtain ⟨q16, h⟩ := h
      obtain ⟨P11, c12, h⟩ := h
      refine z_Vi (as := [vI x2]) mv_X7_96 dX7_end_22 c12 q16 rfl rfl (Nat.le_of_ble_eq_true rfl) (Nat.le_of_ble_eq_true rfl) (Nat.le_of_ble_eq_true rfl) (fun r14 M13 p15 => ?_)
      have h := h r14 M13 p15
      refine z_iload_n 1 dX7_end_25 rfl ?_
      refine z_icmp_le (tgt := 35) dX7_end_26 (by decide) (fun q17 => ?_) (fun q17 => ?_)
      · have h := h.1 q17
        obtain ⟨q18, h⟩ := h
        refine z_iinc 2 dX7_end_35 rfl (by decide) q18 rfl ?_
        refine z_goto (tgt := 4) dX7_end_38 (by decide) ?_
        exact z_sub [1, 2, 0] rfl h
      · have h := h.2 q17
        refine z_aload_n 0 dX7_end_29 rfl ?_
        refine z_iload_n 2 dX7_end_30 rfl ?_
        obtain ⟨q24, h⟩ := h
        obtain ⟨P19, c20, h⟩ := h
        refine z_Vi (as := [vI x2]) mv_X7_96 dX7_end_31 c20 q24 rfl rfl (Nat.le_of_ble_eq_true rfl) (Nat.le_of_ble_eq_true rfl) (Nat.le_of_ble_eq_true rfl) (fun r22 M21 p23 => ?_)
        have h := h r22 M21 p23
        refine z_istore_n dX7_end_34 (by decide) rfl ?_
        obtain ⟨q25, h⟩ := h
        refine z_iinc 2 dX7_end_35 rfl (by decide) q25 rfl ?_
        refine z_goto (tgt := 4) dX7_end_38 (by decide) ?_
        exact z_sub [2, 1, 0] rfl h
theorem sX7_end {E : zE} {d : Nat} {P : Int → zM → Prop} {M : zM} (a0 : Nat) (h : ∀ X : zX, (xh X).sig.returnType = (some .int) → ZX7_end E d X P 0 [(0, vR (some a0))] [] M 0 0) : zCi E mX7_end (d + 1) 0 0 [vR (some a0)] M P := z_start (f := mX7_end) rfl (Nat.le_of_ble_eq_true rfl) rfl h
abbrev ZX7_best (E : zE) (d : Nat) (X : zX) (P : Int → zM → Prop) (pc : Nat) (Lc : List (Nat × zV)) (S : List zV) (M : zM) (ce sl : Nat) : Prop := zZ cX7_best RX7 "best" 5 E (zrm (d + 1) 0 0) X (zQ E (zPi P) X 0 0) pc Lc S M ce sl
set_option maxRecDepth 20000 in
theorem vX7_best_0 {E : zE} {d : Nat} {X : zX} {P : Int → zM → Prop} {M : zM} (hr : (xh X).sig.returnType = (some .int)) (a0 : Nat)
    (h : zK M a0 = (8, 25) ∧ (((zI M a0 8) < 1 → P (-1) M) ∧ (1 ≤ (zI M a0 8) → zK M a0 = (8, 25) ∧ ((6 < (zI M a0 8) → P (-1) M) ∧ ((zI M a0 8) ≤ 6 → zK M a0 = (8, 25) ∧ (((zI M a0 0) ≤ 0 → ZX7_best E d X P 28 [(0, vR (some a0)), (1, vI 0)] [] M 0 0) ∧ (0 < (zI M a0 0) → P (-1) M))))))) :
    ZX7_best E d X P 0 [(0, vR (some a0))] [] M 0 0 := by
  refine z_aload_n 0 dX7_best_0 rfl ?_
  obtain ⟨q1, h⟩ := h
  refine z_getI fl_X7_74 dX7_best_1 q1 ?_
  refine z_iconst dX7_best_4 (by decide) ?_
  refine z_icmp_lt (tgt := 24) dX7_best_5 (by decide) (fun q2 => ?_) (fun q2 => ?_)
  · have h := h.1 q2
    refine z_iconst dX7_best_24 (by decide) ?_
    exact z_iret hr dX7_best_25 (Nat.le_of_ble_eq_true rfl) (Nat.le_of_ble_eq_true rfl) ⟨_, rfl, h⟩
  · have h := h.2 q2
    refine z_aload_n 0 dX7_best_8 rfl ?_
    obtain ⟨q3, h⟩ := h
    refine z_getI fl_X7_74 dX7_best_9 q3 ?_
    refine z_bipush dX7_best_12 (by decide) ?_
    refine z_icmp_gt (tgt := 24) dX7_best_14 (by decide) (fun q4 => ?_) (fun q4 => ?_)
    · have h := h.1 q4
      refine z_iconst dX7_best_24 (by decide) ?_
      exact z_iret hr dX7_best_25 (Nat.le_of_ble_eq_true rfl) (Nat.le_of_ble_eq_true rfl) ⟨_, rfl, h⟩
    · have h := h.2 q4
      refine z_aload_n 0 dX7_best_17 rfl ?_
      obtain ⟨q5, h⟩ := h
      refine z_getI fl_X7_93 dX7_best_18 q5 ?_
      refine z_if_le (tgt := 26) dX7_best_21 (by decide) (fun q6 => ?_) (fun q6 => ?_)
      · have h := h.1 q6
        refine z_iconst dX7_best_26 (by decide) ?_
        refine z_istore_n dX7_best_27 (by decide) rfl ?_
        exact z_sub [1, 0] rfl h
      · have h := h.2 q6
        refine z_iconst dX7_best_24 (by decide) ?_
        exact z_iret hr dX7_best_25 (Nat.le_of_ble_eq_true rfl) (Nat.le_of_ble_eq_true rfl) ⟨_, rfl, h⟩
set_option maxRecDepth 20000 in
theorem vX7_best_28 {E : zE} {d : Nat} {X : zX} {P : Int → zM → Prop} {M : zM} (hr : (xh X).sig.returnType = (some .int)) (a0 : Nat) (x1 : Int)
    (h : zK M a0 = (8, 25) ∧ (((zI M a0 8) ≤ x1 → zK M a0 = (8, 25) ∧ ∃ b4, zR M a0 23 = some b4 ∧ (zK M b4).1 = 9 ∧ 0 ≤ (0 : Int) ∧ 0 < ((zK M b4).2 : Int) ∧ ∀ M8, M8 = zsI M b4 0 0 → ZX7_best E d X P 63 [(0, vR (some a0)), (1, vI (-1)), (2, vI 0)] [] M8 0 0) ∧ (x1 < (zI M a0 8) → zK M a0 = (8, 25) ∧ ∃ P9 : Int → zM → Prop, zCi E mX7_isPut d 0 0 [vR (some a0), vI x1] M P9 ∧ ∀ r12 M11, P9 r12 M11 → ((r12 = 0 → zin (x1 + 1) ∧ ZX7_best E d X P 28 [(0, vR (some a0)), (1, vI (x1 + 1))] [] M11 0 0) ∧ (r12 ≠ 0 → P (-1) M11))))) :
    ZX7_best E d X P 28 [(0, vR (some a0)), (1, vI x1)] [] M 0 0 := by
  refine z_iload_n 1 dX7_best_28 rfl ?_
  refine z_aload_n 0 dX7_best_29 rfl ?_
  obtain ⟨q1, h⟩ := h
  refine z_getI fl_X7_74 dX7_best_30 q1 ?_
  refine z_icmp_ge (tgt := 52) dX7_best_33 (by decide) (fun q2 => ?_) (fun q2 => ?_)
  · have h := h.1 q2
    refine z_iconst dX7_best_52 (by decide) ?_
    refine z_istore_n dX7_best_53 (by decide) rfl ?_
    refine z_iconst dX7_best_54 (by decide) ?_
    refine z_istore_n dX7_best_55 (by decide) rfl ?_
    refine z_aload_n 2 dX7_best_56 rfl ?_
    obtain ⟨q3, h⟩ := h
    refine z_getR fl_X7_68 rfl dX7_best_57 q3 ?_
    refine z_iconst dX7_best_60 (by decide) ?_
    refine z_iconst dX7_best_61 (by decide) ?_
    obtain ⟨b4, eb4, h⟩ := h
    rw [eb4]
    obtain ⟨q5, h⟩ := h
    obtain ⟨q6, h⟩ := h
    obtain ⟨q7, h⟩ := h
    refine z_iast dX7_best_62 (n := (zK M b4).2) (Prod.ext q5 rfl) q6 q7 ?_
    obtain ⟨M8, hmM8⟩ : ∃ z, z = zsI M b4 0 0 := ⟨_, rfl⟩
    rw [← hmM8]
    have h := h M8 hmM8
    exact z_sub [2, 1, 0] rfl h
  · have h := h.2 q2
    refine z_aload_n 0 dX7_best_36 rfl ?_
    refine z_iload_n 1 dX7_best_37 rfl ?_
    obtain ⟨q14, h⟩ := h
    obtain ⟨P9, c10, h⟩ := h
    refine z_Vi (as := [vI x1]) mv_X7_89 dX7_best_38 c10 q14 rfl rfl (Nat.le_of_ble_eq_true rfl) (Nat.le_of_ble_eq_true rfl) (Nat.le_of_ble_eq_true rfl) (fun r12 M11 p13 => ?_)
    have h := h r12 M11 p13
    refine z_if_eq (tgt := 46) dX7_best_41 (by decide) (fun q15 => ?_) (fun q15 => ?_)
    · have h := h.1 q15
      obtain ⟨q16, h⟩ := h
      refine z_iinc 1 dX7_best_46 rfl (by decide) q16 rfl ?_
      refine z_goto (tgt := 28) dX7_best_49 (by decide) ?_
      exact z_sub [1, 0] rfl h
    · have h := h.2 q15
      refine z_iconst dX7_best_44 (by decide) ?_
      exact z_iret hr dX7_best_45 (Nat.le_of_ble_eq_true rfl) (Nat.le_of_ble_eq_true rfl) ⟨_, rfl, h⟩
set_option maxRecDepth 20000 in
theorem vX7_best_63 {E : zE} {d : Nat} {X : zX} {P : Int → zM → Prop} {M : zM} (hr : (xh X).sig.returnType = (some .int)) (a0 : Nat) (x1 : Int) (x2 : Int)
    (h : ((x2 < 0 → ZX7_best E d X P 244 [(0, vR (some a0)), (1, vI x1), (2, vI x2), (3, vI 0)] [] M 0 0) ∧ (0 ≤ x2 → zK M a0 = (8, 25) ∧ ((x2 ≠ (zI M a0 8) → ZX7_best E d X P 124 [(0, vR (some a0)), (1, vI x1), (2, vI x2)] [] M 0 0) ∧ (x2 = (zI M a0 8) → zK M a0 = (8, 25) ∧ ∃ P4 : Int → zM → Prop, zCi E mX7_end d 0 0 [vR (some a0)] M P4 ∧ ∀ r7 M6, P4 r7 M6 → ((x1 = (-1) → ZX7_best E d X P 95 [(0, vR (some a0)), (1, vI r7), (2, vI x2), (3, vI r7), (4, vI 0)] [] M6 0 0) ∧ (x1 ≠ (-1) → ((x1 ≤ r7 → ZX7_best E d X P 124 [(0, vR (some a0)), (1, vI x1), (2, vI x2)] [] M6 0 0) ∧ (r7 < x1 → ZX7_best E d X P 95 [(0, vR (some a0)), (1, vI r7), (2, vI x2), (3, vI r7), (4, vI 0)] [] M6 0 0))))))))) :
    ZX7_best E d X P 63 [(0, vR (some a0)), (1, vI x1), (2, vI x2)] [] M 0 0 := by
  refine z_iload_n 2 dX7_best_63 rfl ?_
  refine z_if_lt (tgt := 242) dX7_best_64 (by decide) (fun q1 => ?_) (fun q1 => ?_)
  · have h := h.1 q1
    refine z_iconst dX7_best_242 (by decide) ?_
    refine z_istore_n dX7_best_243 (by decide) rfl ?_
    exact z_sub [1, 2, 3, 0] rfl h
  · have h := h.2 q1
    refine z_iload_n 2 dX7_best_67 rfl ?_
    refine z_aload_n 0 dX7_best_68 rfl ?_
    obtain ⟨q2, h⟩ := h
    refine z_getI fl_X7_74 dX7_best_69 q2 ?_
    refine z_icmp_ne (tgt := 124) dX7_best_72 (by decide) (fun q3 => ?_) (fun q3 => ?_)
    · have h := h.1 q3
      exact z_sub [0, 1, 2] rfl h
    · have h := h.2 q3
      refine z_aload_n 0 dX7_best_75 rfl ?_
      obtain ⟨q9, h⟩ := h
      obtain ⟨P4, c5, h⟩ := h
      refine z_Vi (as := []) mv_X7_145 dX7_best_76 c5 q9 rfl rfl (Nat.le_of_ble_eq_true rfl) (Nat.le_of_ble_eq_true rfl) (Nat.le_of_ble_eq_true rfl) (fun r7 M6 p8 => ?_)
      have h := h r7 M6 p8
      refine z_istore_n dX7_best_79 (by decide) rfl ?_
      refine z_iload_n 2 dX7_best_80 rfl ?_
      refine z_iconst dX7_best_81 (by decide) ?_
      refine z_icmp_eq (tgt := 90) dX7_best_82 (by decide) (fun q10 => ?_) (fun q10 => ?_)
      · have h := h.1 q10
        refine z_iload_n 0 dX7_best_90 rfl ?_
        refine z_istore_n dX7_best_91 (by decide) rfl ?_
        refine z_iconst dX7_best_92 (by decide) ?_
        refine z_istore dX7_best_93 (by decide) rfl ?_
        exact z_sub [3, 1, 4, 2, 0] rfl h
      · have h := h.2 q10
        refine z_iload_n 0 dX7_best_85 rfl ?_
        refine z_iload_n 2 dX7_best_86 rfl ?_
        refine z_icmp_ge (tgt := 124) dX7_best_87 (by decide) (fun q11 => ?_) (fun q11 => ?_)
        · have h := h.1 q11
          exact z_sub [1, 2, 3] rfl h
        · have h := h.2 q11
          refine z_iload_n 0 dX7_best_90 rfl ?_
          refine z_istore_n dX7_best_91 (by decide) rfl ?_
          refine z_iconst dX7_best_92 (by decide) ?_
          refine z_istore dX7_best_93 (by decide) rfl ?_
          exact z_sub [3, 1, 4, 2, 0] rfl h
set_option maxRecDepth 20000 in
theorem vX7_best_95 {E : zE} {d : Nat} {X : zX} {P : Int → zM → Prop} {M : zM} (hr : (xh X).sig.returnType = (some .int)) (a0 : Nat) (x1 : Int) (x2 : Int) (x3 : Int) (x4 : Int)
    (h : zK M a0 = (8, 25) ∧ (((zI M a0 8) ≤ x4 → ZX7_best E d X P 124 [(0, vR (some a0)), (1, vI x1), (2, vI x2)] [] M 0 0) ∧ (x4 < (zI M a0 8) → zK M a0 = (8, 25) ∧ zK M a0 = (8, 25) ∧ ∃ b5, zR M a0 15 = some b5 ∧ (zK M b5).1 = 9 ∧ 0 ≤ x4 ∧ x4 < ((zK M b5).2 : Int) ∧ ∃ b9, zR M a0 24 = some b9 ∧ (zK M b9).1 = 9 ∧ 0 ≤ x4 ∧ x4 < ((zK M b9).2 : Int) ∧ ∀ M13, M13 = zsI M b9 x4 (zI M b5 x4) → zin (x4 + 1) ∧ ZX7_best E d X P 95 [(0, vR (some a0)), (1, vI x1), (2, vI x2), (3, vI x3), (4, vI (x4 + 1))] [] M13 0 0))) :
    ZX7_best E d X P 95 [(0, vR (some a0)), (1, vI x1), (2, vI x2), (3, vI x3), (4, vI x4)] [] M 0 0 := by
  refine z_iload 4 dX7_best_95 rfl ?_
  refine z_aload_n 0 dX7_best_97 rfl ?_
  obtain ⟨q1, h⟩ := h
  refine z_getI fl_X7_74 dX7_best_98 q1 ?_
  refine z_icmp_ge (tgt := 124) dX7_best_101 (by decide) (fun q2 => ?_) (fun q2 => ?_)
  · have h := h.1 q2
    exact z_sub [0, 1, 2] rfl h
  · have h := h.2 q2
    refine z_aload_n 0 dX7_best_104 rfl ?_
    obtain ⟨q3, h⟩ := h
    refine z_getR fl_X7_71 rfl dX7_best_105 q3 ?_
    refine z_iload 4 dX7_best_108 rfl ?_
    refine z_aload_n 0 dX7_best_110 rfl ?_
    obtain ⟨q4, h⟩ := h
    refine z_getR fl_X7_44 rfl dX7_best_111 q4 ?_
    refine z_iload 4 dX7_best_114 rfl ?_
    obtain ⟨b5, eb5, h⟩ := h
    rw [eb5]
    obtain ⟨q6, h⟩ := h
    obtain ⟨q7, h⟩ := h
    obtain ⟨q8, h⟩ := h
    refine z_iald dX7_best_116 (n := (zK M b5).2) (Prod.ext q6 rfl) q7 q8 ?_
    obtain ⟨b9, eb9, h⟩ := h
    rw [eb9]
    obtain ⟨q10, h⟩ := h
    obtain ⟨q11, h⟩ := h
    obtain ⟨q12, h⟩ := h
    refine z_iast dX7_best_117 (n := (zK M b9).2) (Prod.ext q10 rfl) q11 q12 ?_
    obtain ⟨M13, hmM13⟩ : ∃ z, z = zsI M b9 x4 (zI M b5 x4) := ⟨_, rfl⟩
    rw [← hmM13]
    have h := h M13 hmM13
    obtain ⟨q14, h⟩ := h
    refine z_iinc 4 dX7_best_118 rfl (by decide) q14 rfl ?_
    refine z_goto (tgt := 95) dX7_best_121 (by decide) ?_
    exact z_sub [1, 2, 3, 4, 0] rfl h
set_option maxRecDepth 20000 in
theorem vX7_best_124 {E : zE} {d : Nat} {X : zX} {P : Int → zM → Prop} {M : zM} (hr : (xh X).sig.returnType = (some .int)) (a0 : Nat) (x1 : Int) (x2 : Int)
    (h : zK M a0 = (8, 25) ∧ ((x2 ≠ (zI M a0 8) → zK M a0 = (8, 25) ∧ ∃ b4, zR M a0 23 = some b4 ∧ (zK M b4).1 = 9 ∧ 0 ≤ x2 ∧ x2 < ((zK M b4).2 : Int) ∧ ZX7_best E d X P 146 [(0, vR (some a0)), (1, vI x1), (2, vI x2), (3, vI (zI M b4 x2))] [] M 0 0) ∧ (x2 = (zI M a0 8) → zK M a0 = (8, 25) ∧ ZX7_best E d X P 146 [(0, vR (some a0)), (1, vI x1), (2, vI x2), (3, vI (zI M a0 8))] [] M 0 0))) :
    ZX7_best E d X P 124 [(0, vR (some a0)), (1, vI x1), (2, vI x2)] [] M 0 0 := by
  refine z_iload_n 2 dX7_best_124 rfl ?_
  refine z_aload_n 0 dX7_best_125 rfl ?_
  obtain ⟨q1, h⟩ := h
  refine z_getI fl_X7_74 dX7_best_126 q1 ?_
  refine z_icmp_ne (tgt := 139) dX7_best_129 (by decide) (fun q2 => ?_) (fun q2 => ?_)
  · have h := h.1 q2
    refine z_aload_n 0 dX7_best_139 rfl ?_
    obtain ⟨q3, h⟩ := h
    refine z_getR fl_X7_68 rfl dX7_best_140 q3 ?_
    refine z_iload_n 2 dX7_best_143 rfl ?_
    obtain ⟨b4, eb4, h⟩ := h
    rw [eb4]
    obtain ⟨q5, h⟩ := h
    obtain ⟨q6, h⟩ := h
    obtain ⟨q7, h⟩ := h
    refine z_iald dX7_best_144 (n := (zK M b4).2) (Prod.ext q5 rfl) q6 q7 ?_
    refine z_istore_n dX7_best_145 (by decide) rfl ?_
    exact z_sub [1, 2, 3, 0] rfl h
  · have h := h.2 q2
    refine z_aload_n 0 dX7_best_132 rfl ?_
    obtain ⟨q8, h⟩ := h
    refine z_getI fl_X7_74 dX7_best_133 q8 ?_
    refine z_goto (tgt := 145) dX7_best_136 (by decide) ?_
    refine z_istore_n dX7_best_145 (by decide) rfl ?_
    exact z_sub [1, 2, 3, 0] rfl h
set_option maxRecDepth 20000 in
theorem vX7_best_146 {E : zE} {d : Nat} {X : zX} {P : Int → zM → Prop} {M : zM} (hr : (xh X).sig.returnType = (some .int)) (a0 : Nat) (x1 : Int) (x2 : Int) (x3 : Int)
    (h : zK M a0 = (8, 25) ∧ ((x3 ≠ (zI M a0 8) → zK M a0 = (8, 25) ∧ ∃ b4, zR M a0 23 = some b4 ∧ (zK M b4).1 = 9 ∧ 0 ≤ x2 ∧ x2 < ((zK M b4).2 : Int) ∧ zin ((zI M b4 x2) + 1) ∧ (zK M b4).1 = 9 ∧ 0 ≤ x2 ∧ x2 < ((zK M b4).2 : Int) ∧ ∀ M12, M12 = zsI M b4 x2 ((zI M b4 x2) + 1) → zK M12 a0 = (8, 25) ∧ ∃ P13 : Int → zM → Prop, zCi E mX7_isReady d 0 0 [vR (some a0), vI x3] M12 P13 ∧ ∀ r16 M15, P13 r16 M15 → ((r16 ≠ 0 → zK M15 a0 = (8, 25) ∧ ∃ P20 : Int → zM → Prop, zCi E mX7_first d 0 0 [vR (some a0), vI x3, vI 0] M15 P20 ∧ ∀ r23 M22, P20 r23 M22 → ((r23 ≠ (-1) → zK M22 a0 = (8, 25) ∧ ∃ b28, zR M22 a0 15 = some b28 ∧ (zK M22 b28).1 = 9 ∧ 0 ≤ x3 ∧ x3 < ((zK M22 b28).2 : Int) ∧ ∀ M32, M32 = zsI M22 b28 x3 r23 → zK M32 a0 = (8, 25) ∧ ∃ b34, zR M32 a0 22 = some b34 ∧ (zK M32 b34).1 = 9 ∧ 0 ≤ x2 ∧ x2 < ((zK M32 b34).2 : Int) ∧ ∀ M38, M38 = zsI M32 b34 x2 x3 → zin (x2 + 1) ∧ zK M38 a0 = (8, 25) ∧ ∃ b41, zR M38 a0 23 = some b41 ∧ (zK M38 b41).1 = 9 ∧ 0 ≤ (x2 + 1) ∧ (x2 + 1) < ((zK M38 b41).2 : Int) ∧ ∀ M45, M45 = zsI M38 b41 (x2 + 1) 0 → ZX7_best E d X P 63 [(0, vR (some a0)), (1, vI x1), (2, vI (x2 + 1))] [] M45 0 0) ∧ (r23 = (-1) → ZX7_best E d X P 63 [(0, vR (some a0)), (1, vI x1), (2, vI x2)] [] M22 0 0))) ∧ (r16 = 0 → ZX7_best E d X P 63 [(0, vR (some a0)), (1, vI x1), (2, vI x2)] [] M15 0 0))) ∧ (x3 = (zI M a0 8) → zin (x2 + (-1)) ∧ (((x2 + (-1)) < 0 → ZX7_best E d X P 63 [(0, vR (some a0)), (1, vI x1), (2, vI (x2 + (-1)))] [] M 0 0) ∧ (0 ≤ (x2 + (-1)) → zK M a0 = (8, 25) ∧ zK M a0 = (8, 25) ∧ ∃ b50, zR M a0 22 = some b50 ∧ (zK M b50).1 = 9 ∧ 0 ≤ (x2 + (-1)) ∧ (x2 + (-1)) < ((zK M b50).2 : Int) ∧ ∃ b54, zR M a0 15 = some b54 ∧ (zK M b54).1 = 9 ∧ 0 ≤ (zI M b50 (x2 + (-1))) ∧ (zI M b50 (x2 + (-1))) < ((zK M b54).2 : Int) ∧ ∀ M58, M58 = zsI M b54 (zI M b50 (x2 + (-1))) (-1) → ZX7_best E d X P 63 [(0, vR (some a0)), (1, vI x1), (2, vI (x2 + (-1)))] [] M58 0 0))))) :
    ZX7_best E d X P 146 [(0, vR (some a0)), (1, vI x1), (2, vI x2), (3, vI x3)] [] M 0 0 := by
  refine z_iload_n 3 dX7_best_146 rfl ?_
  refine z_aload_n 0 dX7_best_147 rfl ?_
  obtain ⟨q1, h⟩ := h
  refine z_getI fl_X7_74 dX7_best_148 q1 ?_
  refine z_icmp_ne (tgt := 176) dX7_best_151 (by decide) (fun q2 => ?_) (fun q2 => ?_)
  · have h := h.1 q2
    refine z_aload_n 0 dX7_best_176 rfl ?_
    obtain ⟨q3, h⟩ := h
    refine z_getR fl_X7_68 rfl dX7_best_177 q3 ?_
    refine z_iload_n 2 dX7_best_180 rfl ?_
    refine z_dup2 dX7_best_181 rfl rfl ?_
    obtain ⟨b4, eb4, h⟩ := h
    rw [eb4]
    obtain ⟨q5, h⟩ := h
    obtain ⟨q6, h⟩ := h
    obtain ⟨q7, h⟩ := h
    refine z_iald dX7_best_182 (n := (zK M b4).2) (Prod.ext q5 rfl) q6 q7 ?_
    refine z_iconst dX7_best_183 (by decide) ?_
    obtain ⟨q8, h⟩ := h
    refine z_iadd dX7_best_184 q8 ?_
    obtain ⟨q9, h⟩ := h
    obtain ⟨q10, h⟩ := h
    obtain ⟨q11, h⟩ := h
    refine z_iast dX7_best_185 (n := (zK M b4).2) (Prod.ext q9 rfl) q10 q11 ?_
    obtain ⟨M12, hmM12⟩ : ∃ z, z = zsI M b4 x2 ((zI M b4 x2) + 1) := ⟨_, rfl⟩
    rw [← hmM12]
    have h := h M12 hmM12
    refine z_aload_n 0 dX7_best_186 rfl ?_
    refine z_iload_n 3 dX7_best_187 rfl ?_
    obtain ⟨q18, h⟩ := h
    obtain ⟨P13, c14, h⟩ := h
    refine z_Vi (as := [vI x3]) mv_X7_139 dX7_best_188 c14 q18 rfl rfl (Nat.le_of_ble_eq_true rfl) (Nat.le_of_ble_eq_true rfl) (Nat.le_of_ble_eq_true rfl) (fun r16 M15 p17 => ?_)
    have h := h r16 M15 p17
    refine z_if_ne (tgt := 197) dX7_best_191 (by decide) (fun q19 => ?_) (fun q19 => ?_)
    · have h := h.1 q19
      refine z_aload_n 0 dX7_best_197 rfl ?_
      refine z_iload_n 3 dX7_best_198 rfl ?_
      refine z_iconst dX7_best_199 (by decide) ?_
      obtain ⟨q25, h⟩ := h
      obtain ⟨P20, c21, h⟩ := h
      refine z_Vi (as := [vI x3, vI 0]) mv_X7_142 dX7_best_200 c21 q25 rfl rfl (Nat.le_of_ble_eq_true rfl) (Nat.le_of_ble_eq_true rfl) (Nat.le_of_ble_eq_true rfl) (fun r23 M22 p24 => ?_)
      have h := h r23 M22 p24
      refine z_istore dX7_best_203 (by decide) rfl ?_
      refine z_iload 0 dX7_best_205 rfl ?_
      refine z_iconst dX7_best_207 (by decide) ?_
      refine z_icmp_ne (tgt := 214) dX7_best_208 (by decide) (fun q26 => ?_) (fun q26 => ?_)
      · have h := h.1 q26
        refine z_aload_n 1 dX7_best_214 rfl ?_
        obtain ⟨q27, h⟩ := h
        refine z_getR fl_X7_44 rfl dX7_best_215 q27 ?_
        refine z_iload_n 4 dX7_best_218 rfl ?_
        refine z_iload 0 dX7_best_219 rfl ?_
        obtain ⟨b28, eb28, h⟩ := h
        rw [eb28]
        obtain ⟨q29, h⟩ := h
        obtain ⟨q30, h⟩ := h
        obtain ⟨q31, h⟩ := h
        refine z_iast dX7_best_221 (n := (zK M22 b28).2) (Prod.ext q29 rfl) q30 q31 ?_
        obtain ⟨M32, hmM32⟩ : ∃ z, z = zsI M22 b28 x3 r23 := ⟨_, rfl⟩
        rw [← hmM32]
        have h := h M32 hmM32
        refine z_aload_n 1 dX7_best_222 rfl ?_
        obtain ⟨q33, h⟩ := h
        refine z_getR fl_X7_65 rfl dX7_best_223 q33 ?_
        refine z_iload_n 3 dX7_best_226 rfl ?_
        refine z_iload_n 4 dX7_best_227 rfl ?_
        obtain ⟨b34, eb34, h⟩ := h
        rw [eb34]
        obtain ⟨q35, h⟩ := h
        obtain ⟨q36, h⟩ := h
        obtain ⟨q37, h⟩ := h
        refine z_iast dX7_best_228 (n := (zK M32 b34).2) (Prod.ext q35 rfl) q36 q37 ?_
        obtain ⟨M38, hmM38⟩ : ∃ z, z = zsI M32 b34 x2 x3 := ⟨_, rfl⟩
        rw [← hmM38]
        have h := h M38 hmM38
        obtain ⟨q39, h⟩ := h
        refine z_iinc 3 dX7_best_229 rfl (by decide) q39 rfl ?_
        refine z_aload_n 2 dX7_best_232 rfl ?_
        obtain ⟨q40, h⟩ := h
        refine z_getR fl_X7_68 rfl dX7_best_233 q40 ?_
        refine z_iload_n 0 dX7_best_236 rfl ?_
        refine z_iconst dX7_best_237 (by decide) ?_
        obtain ⟨b41, eb41, h⟩ := h
        rw [eb41]
        obtain ⟨q42, h⟩ := h
        obtain ⟨q43, h⟩ := h
        obtain ⟨q44, h⟩ := h
        refine z_iast dX7_best_238 (n := (zK M38 b41).2) (Prod.ext q42 rfl) q43 q44 ?_
        obtain ⟨M45, hmM45⟩ : ∃ z, z = zsI M38 b41 (x2 + 1) 0 := ⟨_, rfl⟩
        rw [← hmM45]
        have h := h M45 hmM45
        refine z_goto (tgt := 63) dX7_best_239 (by decide) ?_
        exact z_sub [2, 3, 0] rfl h
      · have h := h.2 q26
        refine z_goto (tgt := 63) dX7_best_211 (by decide) ?_
        exact z_sub [1, 2, 3] rfl h
    · have h := h.2 q19
      refine z_goto (tgt := 63) dX7_best_194 (by decide) ?_
      exact z_sub [0, 1, 2] rfl h
  · have h := h.2 q2
    obtain ⟨q46, h⟩ := h
    refine z_iinc 2 dX7_best_154 rfl (by decide) q46 rfl ?_
    refine z_iload_n 0 dX7_best_157 rfl ?_
    refine z_if_lt (tgt := 63) dX7_best_158 (by decide) (fun q47 => ?_) (fun q47 => ?_)
    · have h := h.1 q47
      exact z_sub [1, 2, 0] rfl h
    · have h := h.2 q47
      refine z_aload_n 1 dX7_best_161 rfl ?_
      obtain ⟨q48, h⟩ := h
      refine z_getR fl_X7_44 rfl dX7_best_162 q48 ?_
      refine z_aload_n 1 dX7_best_165 rfl ?_
      obtain ⟨q49, h⟩ := h
      refine z_getR fl_X7_65 rfl dX7_best_166 q49 ?_
      refine z_iload_n 0 dX7_best_169 rfl ?_
      obtain ⟨b50, eb50, h⟩ := h
      rw [eb50]
      obtain ⟨q51, h⟩ := h
      obtain ⟨q52, h⟩ := h
      obtain ⟨q53, h⟩ := h
      refine z_iald dX7_best_170 (n := (zK M b50).2) (Prod.ext q51 rfl) q52 q53 ?_
      refine z_iconst dX7_best_171 (by decide) ?_
      obtain ⟨b54, eb54, h⟩ := h
      rw [eb54]
      obtain ⟨q55, h⟩ := h
      obtain ⟨q56, h⟩ := h
      obtain ⟨q57, h⟩ := h
      refine z_iast dX7_best_172 (n := (zK M b54).2) (Prod.ext q55 rfl) q56 q57 ?_
      obtain ⟨M58, hmM58⟩ : ∃ z, z = zsI M b54 (zI M b50 (x2 + (-1))) (-1) := ⟨_, rfl⟩
      rw [← hmM58]
      have h := h M58 hmM58
      refine z_goto (tgt := 63) dX7_best_173 (by decide) ?_
      exact z_sub [1, 2, 0] rfl h
set_option maxRecDepth 20000 in
theorem vX7_best_244 {E : zE} {d : Nat} {X : zX} {P : Int → zM → Prop} {M : zM} (hr : (xh X).sig.returnType = (some .int)) (a0 : Nat) (x1 : Int) (x2 : Int) (x3 : Int)
    (h : zK M a0 = (8, 25) ∧ (((zI M a0 8) ≤ x3 → P x1 M) ∧ (x3 < (zI M a0 8) → ((x1 = (-1) → P x1 M) ∧ (x1 ≠ (-1) → zK M a0 = (8, 25) ∧ zK M a0 = (8, 25) ∧ ∃ b6, zR M a0 24 = some b6 ∧ (zK M b6).1 = 9 ∧ 0 ≤ x3 ∧ x3 < ((zK M b6).2 : Int) ∧ ∃ b10, zR M a0 15 = some b10 ∧ (zK M b10).1 = 9 ∧ 0 ≤ x3 ∧ x3 < ((zK M b10).2 : Int) ∧ ∀ M14, M14 = zsI M b10 x3 (zI M b6 x3) → zin (x3 + 1) ∧ ZX7_best E d X P 244 [(0, vR (some a0)), (1, vI x1), (2, vI x2), (3, vI (x3 + 1))] [] M14 0 0))))) :
    ZX7_best E d X P 244 [(0, vR (some a0)), (1, vI x1), (2, vI x2), (3, vI x3)] [] M 0 0 := by
  refine z_iload_n 3 dX7_best_244 rfl ?_
  refine z_aload_n 0 dX7_best_245 rfl ?_
  obtain ⟨q1, h⟩ := h
  refine z_getI fl_X7_74 dX7_best_246 q1 ?_
  refine z_icmp_ge (tgt := 275) dX7_best_249 (by decide) (fun q2 => ?_) (fun q2 => ?_)
  · have h := h.1 q2
    refine z_iload_n 1 dX7_best_275 rfl ?_
    exact z_iret hr dX7_best_276 (Nat.le_of_ble_eq_true rfl) (Nat.le_of_ble_eq_true rfl) ⟨_, rfl, h⟩
  · have h := h.2 q2
    refine z_iload_n 1 dX7_best_252 rfl ?_
    refine z_iconst dX7_best_253 (by decide) ?_
    refine z_icmp_eq (tgt := 275) dX7_best_254 (by decide) (fun q3 => ?_) (fun q3 => ?_)
    · have h := h.1 q3
      refine z_iload_n 1 dX7_best_275 rfl ?_
      exact z_iret hr dX7_best_276 (Nat.le_of_ble_eq_true rfl) (Nat.le_of_ble_eq_true rfl) ⟨_, rfl, h⟩
    · have h := h.2 q3
      refine z_aload_n 0 dX7_best_257 rfl ?_
      obtain ⟨q4, h⟩ := h
      refine z_getR fl_X7_44 rfl dX7_best_258 q4 ?_
      refine z_iload_n 3 dX7_best_261 rfl ?_
      refine z_aload_n 0 dX7_best_262 rfl ?_
      obtain ⟨q5, h⟩ := h
      refine z_getR fl_X7_71 rfl dX7_best_263 q5 ?_
      refine z_iload_n 3 dX7_best_266 rfl ?_
      obtain ⟨b6, eb6, h⟩ := h
      rw [eb6]
      obtain ⟨q7, h⟩ := h
      obtain ⟨q8, h⟩ := h
      obtain ⟨q9, h⟩ := h
      refine z_iald dX7_best_267 (n := (zK M b6).2) (Prod.ext q7 rfl) q8 q9 ?_
      obtain ⟨b10, eb10, h⟩ := h
      rw [eb10]
      obtain ⟨q11, h⟩ := h
      obtain ⟨q12, h⟩ := h
      obtain ⟨q13, h⟩ := h
      refine z_iast dX7_best_268 (n := (zK M b10).2) (Prod.ext q11 rfl) q12 q13 ?_
      obtain ⟨M14, hmM14⟩ : ∃ z, z = zsI M b10 x3 (zI M b6 x3) := ⟨_, rfl⟩
      rw [← hmM14]
      have h := h M14 hmM14
      obtain ⟨q15, h⟩ := h
      refine z_iinc 3 dX7_best_269 rfl (by decide) q15 rfl ?_
      refine z_goto (tgt := 244) dX7_best_272 (by decide) ?_
      exact z_sub [1, 2, 3, 0] rfl h
theorem sX7_best {E : zE} {d : Nat} {P : Int → zM → Prop} {M : zM} (a0 : Nat) (h : ∀ X : zX, (xh X).sig.returnType = (some .int) → ZX7_best E d X P 0 [(0, vR (some a0))] [] M 0 0) : zCi E mX7_best (d + 1) 0 0 [vR (some a0)] M P := z_start (f := mX7_best) rfl (Nat.le_of_ble_eq_true rfl) rfl h
abbrev ZX7_go (E : zE) (d : Nat) (X : zX) (P : Int → zM → Prop) (pc : Nat) (Lc : List (Nat × zV)) (S : List zV) (M : zM) (ce sl : Nat) : Prop := zZ cX7_go RX7 "go" 2 E (zrm (d + 1) 0 0) X (zQ E (zPi P) X 0 0) pc Lc S M ce sl
set_option maxRecDepth 20000 in
theorem vX7_go_0 {E : zE} {d : Nat} {X : zX} {P : Int → zM → Prop} {M : zM} (hr : (xh X).sig.returnType = (some .int)) (a0 : Nat) (x1 : Int)
    (h : ∃ P1 : Int → zM → Prop, zCi E mX7_in d 0 0 [vI x1, vI 0, vI 400] M P1 ∧ ∀ r4 M3, P1 r4 M3 → ((r4 ≠ 0 → zK M3 a0 = (8, 25) ∧ zin ((zI M3 a0 0) + x1) ∧ ((((zI M3 a0 0) + x1) ≤ 400 → zK M3 a0 = (8, 25) ∧ zin ((zI M3 a0 0) + x1) ∧ zK M3 a0 = (8, 25) ∧ ∀ M13, M13 = zsI M3 a0 0 ((zI M3 a0 0) + x1) → zK M13 a0 = (8, 25) ∧ P (zI M13 a0 0) M13) ∧ (400 < ((zI M3 a0 0) + x1) → zK M3 a0 = (8, 25) ∧ ∀ M16, M16 = zsI M3 a0 0 400 → zK M16 a0 = (8, 25) ∧ P (zI M16 a0 0) M16))) ∧ (r4 = 0 → P (-1) M3))) :
    ZX7_go E d X P 0 [(0, vR (some a0)), (1, vI x1)] [] M 0 0 := by
  refine z_iload_n 1 dX7_go_0 rfl ?_
  refine z_iconst dX7_go_1 (by decide) ?_
  refine z_sipush dX7_go_2 (by decide) ?_
  obtain ⟨P1, c2, h⟩ := h
  refine z_Si (as := [vI x1, vI 0, vI 400]) ms_X7_78 dX7_go_5 c2 rfl rfl (Nat.le_of_ble_eq_true rfl) (Nat.le_of_ble_eq_true rfl) (Nat.le_of_ble_eq_true rfl) (fun r4 M3 p5 => ?_)
  have h := h r4 M3 p5
  refine z_if_ne (tgt := 13) dX7_go_8 (by decide) (fun q6 => ?_) (fun q6 => ?_)
  · have h := h.1 q6
    refine z_aload_n 0 dX7_go_13 rfl ?_
    refine z_aload_n 0 dX7_go_14 rfl ?_
    obtain ⟨q7, h⟩ := h
    refine z_getI fl_X7_93 dX7_go_15 q7 ?_
    refine z_iload_n 1 dX7_go_18 rfl ?_
    obtain ⟨q8, h⟩ := h
    refine z_iadd dX7_go_19 q8 ?_
    refine z_sipush dX7_go_20 (by decide) ?_
    refine z_icmp_le (tgt := 32) dX7_go_23 (by decide) (fun q9 => ?_) (fun q9 => ?_)
    · have h := h.1 q9
      refine z_aload_n 0 dX7_go_32 rfl ?_
      obtain ⟨q10, h⟩ := h
      refine z_getI fl_X7_93 dX7_go_33 q10 ?_
      refine z_iload_n 1 dX7_go_36 rfl ?_
      obtain ⟨q11, h⟩ := h
      refine z_iadd dX7_go_37 q11 ?_
      obtain ⟨q12, h⟩ := h
      refine z_putI fl_X7_93 (Or.inl rfl) dX7_go_38 q12 ?_
      obtain ⟨M13, hmM13⟩ : ∃ z, z = zsI M3 a0 0 ((zI M3 a0 0) + x1) := ⟨_, rfl⟩
      rw [← hmM13]
      have h := h M13 hmM13
      refine z_aload_n 0 dX7_go_41 rfl ?_
      obtain ⟨q14, h⟩ := h
      refine z_getI fl_X7_93 dX7_go_42 q14 ?_
      exact z_iret hr dX7_go_45 (Nat.le_of_ble_eq_true rfl) (Nat.le_of_ble_eq_true rfl) ⟨_, rfl, h⟩
    · have h := h.2 q9
      refine z_sipush dX7_go_26 (by decide) ?_
      refine z_goto (tgt := 38) dX7_go_29 (by decide) ?_
      obtain ⟨q15, h⟩ := h
      refine z_putI fl_X7_93 (Or.inl rfl) dX7_go_38 q15 ?_
      obtain ⟨M16, hmM16⟩ : ∃ z, z = zsI M3 a0 0 400 := ⟨_, rfl⟩
      rw [← hmM16]
      have h := h M16 hmM16
      refine z_aload_n 0 dX7_go_41 rfl ?_
      obtain ⟨q17, h⟩ := h
      refine z_getI fl_X7_93 dX7_go_42 q17 ?_
      exact z_iret hr dX7_go_45 (Nat.le_of_ble_eq_true rfl) (Nat.le_of_ble_eq_true rfl) ⟨_, rfl, h⟩
  · have h := h.2 q6
    refine z_iconst dX7_go_11 (by decide) ?_
    exact z_iret hr dX7_go_12 (Nat.le_of_ble_eq_true rfl) (Nat.le_of_ble_eq_true rfl) ⟨_, rfl, h⟩
theorem sX7_go {E : zE} {d : Nat} {P : Int → zM → Prop} {M : zM} (a0 : Nat) (x1 : Int) (h : ∀ X : zX, (xh X).sig.returnType = (some .int) → ZX7_go E d X P 0 [(0, vR (some a0)), (1, vI x1)] [] M 0 0) : zCi E mX7_go (d + 1) 0 0 [vR (some a0), vI x1] M P := z_start (f := mX7_go) rfl (Nat.le_of_ble_eq_true rfl) rfl h
abbrev ZX7_fail (E : zE) (d : Nat) (X : zX) (P : Int → zM → Prop) (pc : Nat) (Lc : List (Nat × zV)) (S : List zV) (M : zM) (ce sl : Nat) : Prop := zZ cX7_fail RX7 "fail" 6 E (zrm (d + 1) 1 40) X (zQ E (zPi P) X 1 40) pc Lc S M ce sl
set_option maxRecDepth 20000 in
theorem vX7_fail_0 {E : zE} {d : Nat} {X : zX} {P : Int → zM → Prop} {M : zM} (hr : (xh X).sig.returnType = (some .int)) (a0 : Nat) (x1 : Int)
    (h : zK M a0 = (8, 25) ∧ ∃ P1 : Int → zM → Prop, zCi E mX7_isWork d 0 0 [vR (some a0), vI x1] M P1 ∧ ∀ r4 M3, P1 r4 M3 → ((r4 = 0 → P (-1) M3) ∧ (r4 ≠ 0 → zK M3 a0 = (8, 25) ∧ ∃ b9, zR M3 a0 13 = some b9 ∧ (zK M3 b9).1 = 9 ∧ 0 ≤ x1 ∧ x1 < ((zK M3 b9).2 : Int) ∧ (((zI M3 b9 x1) ≠ 4 → P (-1) M3) ∧ ((zI M3 b9 x1) = 4 → zK M3 a0 = (8, 25) ∧ ∃ P14 : Int → zM → Prop, zCi E mX7_isDone d 0 0 [vR (some a0), vI x1] M3 P14 ∧ ∀ r17 M16, P14 r17 M16 → ((r17 ≠ 0 → ∀ M21, M21 = znew M16 10 40 → ZX7_fail E d X P 35 [(0, vR (some a0)), (1, vI x1), (2, vR (some (zsz M16))), (3, vI 0)] [] M21 1 40) ∧ (r17 = 0 → P (-1) M16))))))) :
    ZX7_fail E d X P 0 [(0, vR (some a0)), (1, vI x1)] [] M 0 0 := by
  refine z_aload_n 0 dX7_fail_0 rfl ?_
  refine z_iload_n 1 dX7_fail_1 rfl ?_
  obtain ⟨q6, h⟩ := h
  obtain ⟨P1, c2, h⟩ := h
  refine z_Vi (as := [vI x1]) mv_X7_100 dX7_fail_2 c2 q6 rfl rfl (Nat.le_of_ble_eq_true rfl) (Nat.le_of_ble_eq_true rfl) (Nat.le_of_ble_eq_true rfl) (fun r4 M3 p5 => ?_)
  have h := h r4 M3 p5
  refine z_if_eq (tgt := 26) dX7_fail_5 (by decide) (fun q7 => ?_) (fun q7 => ?_)
  · have h := h.1 q7
    refine z_iconst dX7_fail_26 (by decide) ?_
    exact z_iret hr dX7_fail_27 (Nat.le_of_ble_eq_true rfl) (Nat.le_of_ble_eq_true rfl) ⟨_, rfl, h⟩
  · have h := h.2 q7
    refine z_aload_n 0 dX7_fail_8 rfl ?_
    obtain ⟨q8, h⟩ := h
    refine z_getR fl_X7_38 rfl dX7_fail_9 q8 ?_
    refine z_iload_n 1 dX7_fail_12 rfl ?_
    obtain ⟨b9, eb9, h⟩ := h
    rw [eb9]
    obtain ⟨q10, h⟩ := h
    obtain ⟨q11, h⟩ := h
    obtain ⟨q12, h⟩ := h
    refine z_iald dX7_fail_13 (n := (zK M3 b9).2) (Prod.ext q10 rfl) q11 q12 ?_
    refine z_iconst dX7_fail_14 (by decide) ?_
    refine z_icmp_ne (tgt := 26) dX7_fail_15 (by decide) (fun q13 => ?_) (fun q13 => ?_)
    · have h := h.1 q13
      refine z_iconst dX7_fail_26 (by decide) ?_
      exact z_iret hr dX7_fail_27 (Nat.le_of_ble_eq_true rfl) (Nat.le_of_ble_eq_true rfl) ⟨_, rfl, h⟩
    · have h := h.2 q13
      refine z_aload_n 0 dX7_fail_18 rfl ?_
      refine z_iload_n 1 dX7_fail_19 rfl ?_
      obtain ⟨q19, h⟩ := h
      obtain ⟨P14, c15, h⟩ := h
      refine z_Vi (as := [vI x1]) mv_X7_148 dX7_fail_20 c15 q19 rfl rfl (Nat.le_of_ble_eq_true rfl) (Nat.le_of_ble_eq_true rfl) (Nat.le_of_ble_eq_true rfl) (fun r17 M16 p18 => ?_)
      have h := h r17 M16 p18
      refine z_if_ne (tgt := 28) dX7_fail_23 (by decide) (fun q20 => ?_) (fun q20 => ?_)
      · have h := h.1 q20
        refine z_bipush dX7_fail_28 (by decide) ?_
        refine z_newa (at_ := .boolean) (tg := 10) (n := 40) (by simp) kw_760 dX7_fail_30 rfl (by decide) (Nat.le_of_ble_eq_true rfl) (Nat.le_of_ble_eq_true rfl) ?_
        obtain ⟨M21, hmM21⟩ : ∃ z, z = znew M16 10 40 := ⟨_, rfl⟩
        rw [← hmM21]
        have h := h M21 hmM21
        refine z_astore_n dX7_fail_32 (by decide) rfl ?_
        refine z_iconst dX7_fail_33 (by decide) ?_
        refine z_istore_n dX7_fail_34 (by decide) rfl ?_
        exact z_sub [2, 3, 1, 0] rfl h
      · have h := h.2 q20
        refine z_iconst dX7_fail_26 (by decide) ?_
        exact z_iret hr dX7_fail_27 (Nat.le_of_ble_eq_true rfl) (Nat.le_of_ble_eq_true rfl) ⟨_, rfl, h⟩
set_option maxRecDepth 20000 in
theorem vX7_fail_35 {E : zE} {d : Nat} {X : zX} {P : Int → zM → Prop} {M : zM} (hr : (xh X).sig.returnType = (some .int)) (a0 : Nat) (x1 : Int) (g2 : Option Nat) (x3 : Int)
    (h : zK M a0 = (8, 25) ∧ (((zI M a0 8) ≤ x3 → ZX7_fail E d X P 86 [(0, vR (some a0)), (1, vI x1), (2, vR g2), (3, vI 1)] [] M 1 40) ∧ (x3 < (zI M a0 8) → zK M a0 = (8, 25) ∧ ∃ P3 : Int → zM → Prop, zCi E mX7_isDone d 0 0 [vR (some a0), vI x3] M P3 ∧ ∀ r6 M5, P3 r6 M5 → ((r6 = 0 → ∃ b10, g2 = some b10 ∧ (zK M5 b10).1 = 10 ∧ 0 ≤ x3 ∧ x3 < ((zK M5 b10).2 : Int) ∧ ∀ M14, M14 = zsI M5 b10 x3 0 → zin (x3 + 1) ∧ ZX7_fail E d X P 35 [(0, vR (some a0)), (1, vI x1), (2, vR (some b10)), (3, vI (x3 + 1))] [] M14 1 40) ∧ (r6 ≠ 0 → ((x3 = x1 → ∃ b17, g2 = some b17 ∧ (zK M5 b17).1 = 10 ∧ 0 ≤ x3 ∧ x3 < ((zK M5 b17).2 : Int) ∧ ∀ M21, M21 = zsI M5 b17 x3 1 → zin (x3 + 1) ∧ ZX7_fail E d X P 35 [(0, vR (some a0)), (1, vI x1), (2, vR (some b17)), (3, vI (x3 + 1))] [] M21 1 40) ∧ (x3 ≠ x1 → zK M5 a0 = (8, 25) ∧ zin (40 * x1) ∧ zin ((40 * x1) + x3) ∧ ∃ b26, zR M5 a0 18 = some b26 ∧ (zK M5 b26).1 = 10 ∧ 0 ≤ ((40 * x1) + x3) ∧ ((40 * x1) + x3) < ((zK M5 b26).2 : Int) ∧ (((zI M5 b26 ((40 * x1) + x3)) = 0 → ∃ b31, g2 = some b31 ∧ (zK M5 b31).1 = 10 ∧ 0 ≤ x3 ∧ x3 < ((zK M5 b31).2 : Int) ∧ ∀ M35, M35 = zsI M5 b31 x3 0 → zin (x3 + 1) ∧ ZX7_fail E d X P 35 [(0, vR (some a0)), (1, vI x1), (2, vR (some b31)), (3, vI (x3 + 1))] [] M35 1 40) ∧ ((zI M5 b26 ((40 * x1) + x3)) ≠ 0 → ∃ b37, g2 = some b37 ∧ (zK M5 b37).1 = 10 ∧ 0 ≤ x3 ∧ x3 < ((zK M5 b37).2 : Int) ∧ ∀ M41, M41 = zsI M5 b37 x3 1 → zin (x3 + 1) ∧ ZX7_fail E d X P 35 [(0, vR (some a0)), (1, vI x1), (2, vR (some b37)), (3, vI (x3 + 1))] [] M41 1 40))))))))) :
    ZX7_fail E d X P 35 [(0, vR (some a0)), (1, vI x1), (2, vR g2), (3, vI x3)] [] M 1 40 := by
  refine z_iload_n 3 dX7_fail_35 rfl ?_
  refine z_aload_n 0 dX7_fail_36 rfl ?_
  obtain ⟨q1, h⟩ := h
  refine z_getI fl_X7_74 dX7_fail_37 q1 ?_
  refine z_icmp_ge (tgt := 84) dX7_fail_40 (by decide) (fun q2 => ?_) (fun q2 => ?_)
  · have h := h.1 q2
    refine z_iconst dX7_fail_84 (by decide) ?_
    refine z_istore_n dX7_fail_85 (by decide) rfl ?_
    exact z_sub [1, 2, 3, 0] rfl h
  · have h := h.2 q2
    refine z_aload_n 2 dX7_fail_43 rfl ?_
    refine z_iload_n 3 dX7_fail_44 rfl ?_
    refine z_aload_n 0 dX7_fail_45 rfl ?_
    refine z_iload_n 3 dX7_fail_46 rfl ?_
    obtain ⟨q8, h⟩ := h
    obtain ⟨P3, c4, h⟩ := h
    refine z_Vi (as := [vI x3]) mv_X7_148 dX7_fail_47 c4 q8 rfl rfl (Nat.le_of_ble_eq_true rfl) (Nat.le_of_ble_eq_true rfl) (Nat.le_of_ble_eq_true rfl) (fun r6 M5 p7 => ?_)
    have h := h r6 M5 p7
    refine z_if_eq (tgt := 76) dX7_fail_50 (by decide) (fun q9 => ?_) (fun q9 => ?_)
    · have h := h.1 q9
      refine z_iconst dX7_fail_76 (by decide) ?_
      obtain ⟨b10, eb10, h⟩ := h
      rw [eb10]
      obtain ⟨q11, h⟩ := h
      obtain ⟨q12, h⟩ := h
      obtain ⟨q13, h⟩ := h
      refine z_bast dX7_fail_77 (n := (zK M5 b10).2) (Prod.ext q11 rfl) q12 q13 (by decide) ?_
      obtain ⟨M14, hmM14⟩ : ∃ z, z = zsI M5 b10 x3 0 := ⟨_, rfl⟩
      rw [← hmM14]
      have h := h M14 hmM14
      obtain ⟨q15, h⟩ := h
      refine z_iinc 3 dX7_fail_78 rfl (by decide) q15 rfl ?_
      refine z_goto (tgt := 35) dX7_fail_81 (by decide) ?_
      exact z_sub [1, 2, 3, 0] rfl h
    · have h := h.2 q9
      refine z_iload_n 3 dX7_fail_53 rfl ?_
      refine z_iload_n 1 dX7_fail_54 rfl ?_
      refine z_icmp_eq (tgt := 72) dX7_fail_55 (by decide) (fun q16 => ?_) (fun q16 => ?_)
      · have h := h.1 q16
        refine z_iconst dX7_fail_72 (by decide) ?_
        refine z_goto (tgt := 77) dX7_fail_73 (by decide) ?_
        obtain ⟨b17, eb17, h⟩ := h
        rw [eb17]
        obtain ⟨q18, h⟩ := h
        obtain ⟨q19, h⟩ := h
        obtain ⟨q20, h⟩ := h
        refine z_bast dX7_fail_77 (n := (zK M5 b17).2) (Prod.ext q18 rfl) q19 q20 (by decide) ?_
        obtain ⟨M21, hmM21⟩ : ∃ z, z = zsI M5 b17 x3 1 := ⟨_, rfl⟩
        rw [← hmM21]
        have h := h M21 hmM21
        obtain ⟨q22, h⟩ := h
        refine z_iinc 3 dX7_fail_78 rfl (by decide) q22 rfl ?_
        refine z_goto (tgt := 35) dX7_fail_81 (by decide) ?_
        exact z_sub [1, 2, 3, 0] rfl h
      · have h := h.2 q16
        refine z_aload_n 0 dX7_fail_58 rfl ?_
        obtain ⟨q23, h⟩ := h
        refine z_getR fl_X7_53 rfl dX7_fail_59 q23 ?_
        refine z_bipush dX7_fail_62 (by decide) ?_
        refine z_iload_n 1 dX7_fail_64 rfl ?_
        obtain ⟨q24, h⟩ := h
        refine z_imul dX7_fail_65 q24 ?_
        refine z_iload_n 3 dX7_fail_66 rfl ?_
        obtain ⟨q25, h⟩ := h
        refine z_iadd dX7_fail_67 q25 ?_
        obtain ⟨b26, eb26, h⟩ := h
        rw [eb26]
        obtain ⟨q27, h⟩ := h
        obtain ⟨q28, h⟩ := h
        obtain ⟨q29, h⟩ := h
        refine z_bald dX7_fail_68 (n := (zK M5 b26).2) (Prod.ext q27 rfl) q28 q29 ?_
        refine z_if_eq (tgt := 76) dX7_fail_69 (by decide) (fun q30 => ?_) (fun q30 => ?_)
        · have h := h.1 q30
          refine z_iconst dX7_fail_76 (by decide) ?_
          obtain ⟨b31, eb31, h⟩ := h
          rw [eb31]
          obtain ⟨q32, h⟩ := h
          obtain ⟨q33, h⟩ := h
          obtain ⟨q34, h⟩ := h
          refine z_bast dX7_fail_77 (n := (zK M5 b31).2) (Prod.ext q32 rfl) q33 q34 (by decide) ?_
          obtain ⟨M35, hmM35⟩ : ∃ z, z = zsI M5 b31 x3 0 := ⟨_, rfl⟩
          rw [← hmM35]
          have h := h M35 hmM35
          obtain ⟨q36, h⟩ := h
          refine z_iinc 3 dX7_fail_78 rfl (by decide) q36 rfl ?_
          refine z_goto (tgt := 35) dX7_fail_81 (by decide) ?_
          exact z_sub [1, 2, 3, 0] rfl h
        · have h := h.2 q30
          refine z_iconst dX7_fail_72 (by decide) ?_
          refine z_goto (tgt := 77) dX7_fail_73 (by decide) ?_
          obtain ⟨b37, eb37, h⟩ := h
          rw [eb37]
          obtain ⟨q38, h⟩ := h
          obtain ⟨q39, h⟩ := h
          obtain ⟨q40, h⟩ := h
          refine z_bast dX7_fail_77 (n := (zK M5 b37).2) (Prod.ext q38 rfl) q39 q40 (by decide) ?_
          obtain ⟨M41, hmM41⟩ : ∃ z, z = zsI M5 b37 x3 1 := ⟨_, rfl⟩
          rw [← hmM41]
          have h := h M41 hmM41
          obtain ⟨q42, h⟩ := h
          refine z_iinc 3 dX7_fail_78 rfl (by decide) q42 rfl ?_
          refine z_goto (tgt := 35) dX7_fail_81 (by decide) ?_
          exact z_sub [1, 2, 3, 0] rfl h
set_option maxRecDepth 20000 in
theorem vX7_fail_86 {E : zE} {d : Nat} {X : zX} {P : Int → zM → Prop} {M : zM} (hr : (xh X).sig.returnType = (some .int)) (a0 : Nat) (x1 : Int) (g2 : Option Nat) (x3 : Int)
    (h : ((x3 = 0 → ZX7_fail E d X P 186 [(0, vR (some a0)), (1, vI x1), (2, vR g2), (3, vI x3), (4, vI 0), (5, vI 0)] [] M 1 40) ∧ (x3 ≠ 0 → ZX7_fail E d X P 95 [(0, vR (some a0)), (1, vI x1), (2, vR g2), (3, vI 0), (4, vI 0)] [] M 1 40))) :
    ZX7_fail E d X P 86 [(0, vR (some a0)), (1, vI x1), (2, vR g2), (3, vI x3)] [] M 1 40 := by
  refine z_iload_n 3 dX7_fail_86 rfl ?_
  refine z_if_eq (tgt := 180) dX7_fail_87 (by decide) (fun q1 => ?_) (fun q1 => ?_)
  · have h := h.1 q1
    refine z_iconst dX7_fail_180 (by decide) ?_
    refine z_istore dX7_fail_181 (by decide) rfl ?_
    refine z_iconst dX7_fail_183 (by decide) ?_
    refine z_istore dX7_fail_184 (by decide) rfl ?_
    exact z_sub [2, 3, 4, 5, 1, 0] rfl h
  · have h := h.2 q1
    refine z_iconst dX7_fail_90 (by decide) ?_
    refine z_istore_n dX7_fail_91 (by decide) rfl ?_
    refine z_iconst dX7_fail_92 (by decide) ?_
    refine z_istore dX7_fail_93 (by decide) rfl ?_
    exact z_sub [2, 3, 4, 1, 0] rfl h
set_option maxRecDepth 20000 in
theorem vX7_fail_95 {E : zE} {d : Nat} {X : zX} {P : Int → zM → Prop} {M : zM} (hr : (xh X).sig.returnType = (some .int)) (a0 : Nat) (x1 : Int) (g2 : Option Nat) (x3 : Int) (x4 : Int)
    (h : zK M a0 = (8, 25) ∧ (((zI M a0 8) ≤ x4 → ZX7_fail E d X P 86 [(0, vR (some a0)), (1, vI x1), (2, vR g2), (3, vI x3)] [] M 1 40) ∧ (x4 < (zI M a0 8) → ZX7_fail E d X P 107 [(0, vR (some a0)), (1, vI x1), (2, vR g2), (3, vI x3), (4, vI x4), (5, vI 0)] [] M 1 40))) :
    ZX7_fail E d X P 95 [(0, vR (some a0)), (1, vI x1), (2, vR g2), (3, vI x3), (4, vI x4)] [] M 1 40 := by
  refine z_iload 4 dX7_fail_95 rfl ?_
  refine z_aload_n 0 dX7_fail_97 rfl ?_
  obtain ⟨q1, h⟩ := h
  refine z_getI fl_X7_74 dX7_fail_98 q1 ?_
  refine z_icmp_ge (tgt := 177) dX7_fail_101 (by decide) (fun q2 => ?_) (fun q2 => ?_)
  · have h := h.1 q2
    refine z_goto (tgt := 86) dX7_fail_177 (by decide) ?_
    exact z_sub [0, 1, 2, 3] rfl h
  · have h := h.2 q2
    refine z_iconst dX7_fail_104 (by decide) ?_
    refine z_istore dX7_fail_105 (by decide) rfl ?_
    exact z_sub [1, 2, 3, 4, 5, 0] rfl h
set_option maxRecDepth 20000 in
theorem vX7_fail_107 {E : zE} {d : Nat} {X : zX} {P : Int → zM → Prop} {M : zM} (hr : (xh X).sig.returnType = (some .int)) (a0 : Nat) (x1 : Int) (g2 : Option Nat) (x3 : Int) (x4 : Int) (x5 : Int)
    (h : zK M a0 = (8, 25) ∧ (((zI M a0 8) ≤ x5 → zin (x4 + 1) ∧ ZX7_fail E d X P 95 [(0, vR (some a0)), (1, vI x1), (2, vR g2), (3, vI x3), (4, vI (x4 + 1))] [] M 1 40) ∧ (x5 < (zI M a0 8) → ∃ b4, g2 = some b4 ∧ (zK M b4).1 = 10 ∧ 0 ≤ x4 ∧ x4 < ((zK M b4).2 : Int) ∧ (((zI M b4 x4) ≠ 0 → zin (x4 + 1) ∧ ZX7_fail E d X P 95 [(0, vR (some a0)), (1, vI x1), (2, vR (some b4)), (3, vI x3), (4, vI (x4 + 1))] [] M 1 40) ∧ ((zI M b4 x4) = 0 → zK M a0 = (8, 25) ∧ ∃ P10 : Int → zM → Prop, zCi E mX7_isDone d 0 0 [vR (some a0), vI x4] M P10 ∧ ∀ r13 M12, P10 r13 M12 → ((r13 = 0 → zin (x4 + 1) ∧ ZX7_fail E d X P 95 [(0, vR (some a0)), (1, vI x1), (2, vR (some b4)), (3, vI x3), (4, vI (x4 + 1))] [] M12 1 40) ∧ (r13 ≠ 0 → (zK M12 b4).1 = 10 ∧ 0 ≤ x5 ∧ x5 < ((zK M12 b4).2 : Int) ∧ (((zI M12 b4 x5) = 0 → zin (x5 + 1) ∧ ZX7_fail E d X P 107 [(0, vR (some a0)), (1, vI x1), (2, vR (some b4)), (3, vI x3), (4, vI x4), (5, vI (x5 + 1))] [] M12 1 40) ∧ ((zI M12 b4 x5) ≠ 0 → zK M12 a0 = (8, 25) ∧ zin (40 * x4) ∧ zin ((40 * x4) + x5) ∧ ∃ b26, zR M12 a0 17 = some b26 ∧ (zK M12 b26).1 = 10 ∧ 0 ≤ ((40 * x4) + x5) ∧ ((40 * x4) + x5) < ((zK M12 b26).2 : Int) ∧ (((zI M12 b26 ((40 * x4) + x5)) ≠ 0 → (zK M12 b4).1 = 10 ∧ 0 ≤ x4 ∧ x4 < ((zK M12 b4).2 : Int) ∧ ∀ M34, M34 = zsI M12 b4 x4 1 → zin (x5 + 1) ∧ ZX7_fail E d X P 107 [(0, vR (some a0)), (1, vI x1), (2, vR (some b4)), (3, vI 1), (4, vI x4), (5, vI (x5 + 1))] [] M34 1 40) ∧ ((zI M12 b26 ((40 * x4) + x5)) = 0 → zin (x5 + 1) ∧ ZX7_fail E d X P 107 [(0, vR (some a0)), (1, vI x1), (2, vR (some b4)), (3, vI x3), (4, vI x4), (5, vI (x5 + 1))] [] M12 1 40))))))))))) :
    ZX7_fail E d X P 107 [(0, vR (some a0)), (1, vI x1), (2, vR g2), (3, vI x3), (4, vI x4), (5, vI x5)] [] M 1 40 := by
  refine z_iload 5 dX7_fail_107 rfl ?_
  refine z_aload_n 0 dX7_fail_109 rfl ?_
  obtain ⟨q1, h⟩ := h
  refine z_getI fl_X7_74 dX7_fail_110 q1 ?_
  refine z_icmp_ge (tgt := 171) dX7_fail_113 (by decide) (fun q2 => ?_) (fun q2 => ?_)
  · have h := h.1 q2
    obtain ⟨q3, h⟩ := h
    refine z_iinc 4 dX7_fail_171 rfl (by decide) q3 rfl ?_
    refine z_goto (tgt := 95) dX7_fail_174 (by decide) ?_
    exact z_sub [1, 2, 3, 4, 0] rfl h
  · have h := h.2 q2
    refine z_aload_n 2 dX7_fail_116 rfl ?_
    refine z_iload 4 dX7_fail_117 rfl ?_
    obtain ⟨b4, eb4, h⟩ := h
    rw [eb4]
    obtain ⟨q5, h⟩ := h
    obtain ⟨q6, h⟩ := h
    obtain ⟨q7, h⟩ := h
    refine z_bald dX7_fail_119 (n := (zK M b4).2) (Prod.ext q5 rfl) q6 q7 ?_
    refine z_if_ne (tgt := 171) dX7_fail_120 (by decide) (fun q8 => ?_) (fun q8 => ?_)
    · have h := h.1 q8
      obtain ⟨q9, h⟩ := h
      refine z_iinc 4 dX7_fail_171 rfl (by decide) q9 rfl ?_
      refine z_goto (tgt := 95) dX7_fail_174 (by decide) ?_
      exact z_sub [1, 2, 3, 4, 0] rfl h
    · have h := h.2 q8
      refine z_aload_n 0 dX7_fail_123 rfl ?_
      refine z_iload 4 dX7_fail_124 rfl ?_
      obtain ⟨q15, h⟩ := h
      obtain ⟨P10, c11, h⟩ := h
      refine z_Vi (as := [vI x4]) mv_X7_148 dX7_fail_126 c11 q15 rfl rfl (Nat.le_of_ble_eq_true rfl) (Nat.le_of_ble_eq_true rfl) (Nat.le_of_ble_eq_true rfl) (fun r13 M12 p14 => ?_)
      have h := h r13 M12 p14
      refine z_if_eq (tgt := 171) dX7_fail_129 (by decide) (fun q16 => ?_) (fun q16 => ?_)
      · have h := h.1 q16
        obtain ⟨q17, h⟩ := h
        refine z_iinc 4 dX7_fail_171 rfl (by decide) q17 rfl ?_
        refine z_goto (tgt := 95) dX7_fail_174 (by decide) ?_
        exact z_sub [1, 2, 3, 4, 0] rfl h
      · have h := h.2 q16
        refine z_aload_n 2 dX7_fail_132 rfl ?_
        refine z_iload 5 dX7_fail_133 rfl ?_
        obtain ⟨q18, h⟩ := h
        obtain ⟨q19, h⟩ := h
        obtain ⟨q20, h⟩ := h
        refine z_bald dX7_fail_135 (n := (zK M12 b4).2) (Prod.ext q18 rfl) q19 q20 ?_
        refine z_if_eq (tgt := 165) dX7_fail_136 (by decide) (fun q21 => ?_) (fun q21 => ?_)
        · have h := h.1 q21
          obtain ⟨q22, h⟩ := h
          refine z_iinc 5 dX7_fail_165 rfl (by decide) q22 rfl ?_
          refine z_goto (tgt := 107) dX7_fail_168 (by decide) ?_
          exact z_sub [1, 2, 3, 4, 5, 0] rfl h
        · have h := h.2 q21
          refine z_aload_n 0 dX7_fail_139 rfl ?_
          obtain ⟨q23, h⟩ := h
          refine z_getR fl_X7_50 rfl dX7_fail_140 q23 ?_
          refine z_bipush dX7_fail_143 (by decide) ?_
          refine z_iload 4 dX7_fail_145 rfl ?_
          obtain ⟨q24, h⟩ := h
          refine z_imul dX7_fail_147 q24 ?_
          refine z_iload 5 dX7_fail_148 rfl ?_
          obtain ⟨q25, h⟩ := h
          refine z_iadd dX7_fail_150 q25 ?_
          obtain ⟨b26, eb26, h⟩ := h
          rw [eb26]
          obtain ⟨q27, h⟩ := h
          obtain ⟨q28, h⟩ := h
          obtain ⟨q29, h⟩ := h
          refine z_bald dX7_fail_151 (n := (zK M12 b26).2) (Prod.ext q27 rfl) q28 q29 ?_
          refine z_if_ne (tgt := 158) dX7_fail_152 (by decide) (fun q30 => ?_) (fun q30 => ?_)
          · have h := h.1 q30
            refine z_aload_n 2 dX7_fail_158 rfl ?_
            refine z_iload 4 dX7_fail_159 rfl ?_
            refine z_iconst dX7_fail_161 (by decide) ?_
            obtain ⟨q31, h⟩ := h
            obtain ⟨q32, h⟩ := h
            obtain ⟨q33, h⟩ := h
            refine z_bast dX7_fail_162 (n := (zK M12 b4).2) (Prod.ext q31 rfl) q32 q33 (by decide) ?_
            obtain ⟨M34, hmM34⟩ : ∃ z, z = zsI M12 b4 x4 1 := ⟨_, rfl⟩
            rw [← hmM34]
            have h := h M34 hmM34
            refine z_iconst dX7_fail_163 (by decide) ?_
            refine z_istore_n dX7_fail_164 (by decide) rfl ?_
            obtain ⟨q35, h⟩ := h
            refine z_iinc 5 dX7_fail_165 rfl (by decide) q35 rfl ?_
            refine z_goto (tgt := 107) dX7_fail_168 (by decide) ?_
            exact z_sub [2, 3, 4, 1, 5, 0] rfl h
          · have h := h.2 q30
            refine z_goto (tgt := 165) dX7_fail_155 (by decide) ?_
            obtain ⟨q36, h⟩ := h
            refine z_iinc 5 dX7_fail_165 rfl (by decide) q36 rfl ?_
            refine z_goto (tgt := 107) dX7_fail_168 (by decide) ?_
            exact z_sub [1, 2, 3, 4, 5, 0] rfl h
set_option maxRecDepth 20000 in
theorem vX7_fail_186 {E : zE} {d : Nat} {X : zX} {P : Int → zM → Prop} {M : zM} (hr : (xh X).sig.returnType = (some .int)) (a0 : Nat) (x1 : Int) (g2 : Option Nat) (x3 : Int) (x4 : Int) (x5 : Int)
    (h : zK M a0 = (8, 25) ∧ (((zI M a0 8) ≤ x5 → P x4 M) ∧ (x5 < (zI M a0 8) → ∃ b3, g2 = some b3 ∧ (zK M b3).1 = 10 ∧ 0 ≤ x5 ∧ x5 < ((zK M b3).2 : Int) ∧ (((zI M b3 x5) ≠ 0 → zK M a0 = (8, 25) ∧ ∃ b9, zR M a0 15 = some b9 ∧ (zK M b9).1 = 9 ∧ 0 ≤ x5 ∧ x5 < ((zK M b9).2 : Int) ∧ ∀ M13, M13 = zsI M b9 x5 (-1) → zK M13 a0 = (8, 25) ∧ ∃ b15, zR M13 a0 16 = some b15 ∧ (zK M13 b15).1 = 9 ∧ 0 ≤ x5 ∧ x5 < ((zK M13 b15).2 : Int) ∧ zin ((zI M13 b15 x5) + 1) ∧ (zK M13 b15).1 = 9 ∧ 0 ≤ x5 ∧ x5 < ((zK M13 b15).2 : Int) ∧ ∀ M23, M23 = zsI M13 b15 x5 ((zI M13 b15 x5) + 1) → zin (x4 + 1) ∧ zin (x5 + 1) ∧ ZX7_fail E d X P 186 [(0, vR (some a0)), (1, vI x1), (2, vR (some b3)), (3, vI x3), (4, vI (x4 + 1)), (5, vI (x5 + 1))] [] M23 1 40) ∧ ((zI M b3 x5) = 0 → zin (x5 + 1) ∧ ZX7_fail E d X P 186 [(0, vR (some a0)), (1, vI x1), (2, vR (some b3)), (3, vI x3), (4, vI x4), (5, vI (x5 + 1))] [] M 1 40))))) :
    ZX7_fail E d X P 186 [(0, vR (some a0)), (1, vI x1), (2, vR g2), (3, vI x3), (4, vI x4), (5, vI x5)] [] M 1 40 := by
  refine z_iload 5 dX7_fail_186 rfl ?_
  refine z_aload_n 0 dX7_fail_188 rfl ?_
  obtain ⟨q1, h⟩ := h
  refine z_getI fl_X7_74 dX7_fail_189 q1 ?_
  refine z_icmp_ge (tgt := 233) dX7_fail_192 (by decide) (fun q2 => ?_) (fun q2 => ?_)
  · have h := h.1 q2
    refine z_iload 4 dX7_fail_233 rfl ?_
    exact z_iret hr dX7_fail_235 (Nat.le_of_ble_eq_true rfl) (Nat.le_of_ble_eq_true rfl) ⟨_, rfl, h⟩
  · have h := h.2 q2
    refine z_aload_n 2 dX7_fail_195 rfl ?_
    refine z_iload 5 dX7_fail_196 rfl ?_
    obtain ⟨b3, eb3, h⟩ := h
    rw [eb3]
    obtain ⟨q4, h⟩ := h
    obtain ⟨q5, h⟩ := h
    obtain ⟨q6, h⟩ := h
    refine z_bald dX7_fail_198 (n := (zK M b3).2) (Prod.ext q4 rfl) q5 q6 ?_
    refine z_if_ne (tgt := 205) dX7_fail_199 (by decide) (fun q7 => ?_) (fun q7 => ?_)
    · have h := h.1 q7
      refine z_aload_n 0 dX7_fail_205 rfl ?_
      obtain ⟨q8, h⟩ := h
      refine z_getR fl_X7_44 rfl dX7_fail_206 q8 ?_
      refine z_iload 5 dX7_fail_209 rfl ?_
      refine z_iconst dX7_fail_211 (by decide) ?_
      obtain ⟨b9, eb9, h⟩ := h
      rw [eb9]
      obtain ⟨q10, h⟩ := h
      obtain ⟨q11, h⟩ := h
      obtain ⟨q12, h⟩ := h
      refine z_iast dX7_fail_212 (n := (zK M b9).2) (Prod.ext q10 rfl) q11 q12 ?_
      obtain ⟨M13, hmM13⟩ : ∃ z, z = zsI M b9 x5 (-1) := ⟨_, rfl⟩
      rw [← hmM13]
      have h := h M13 hmM13
      refine z_aload_n 0 dX7_fail_213 rfl ?_
      obtain ⟨q14, h⟩ := h
      refine z_getR fl_X7_47 rfl dX7_fail_214 q14 ?_
      refine z_iload 5 dX7_fail_217 rfl ?_
      refine z_dup2 dX7_fail_219 rfl rfl ?_
      obtain ⟨b15, eb15, h⟩ := h
      rw [eb15]
      obtain ⟨q16, h⟩ := h
      obtain ⟨q17, h⟩ := h
      obtain ⟨q18, h⟩ := h
      refine z_iald dX7_fail_220 (n := (zK M13 b15).2) (Prod.ext q16 rfl) q17 q18 ?_
      refine z_iconst dX7_fail_221 (by decide) ?_
      obtain ⟨q19, h⟩ := h
      refine z_iadd dX7_fail_222 q19 ?_
      obtain ⟨q20, h⟩ := h
      obtain ⟨q21, h⟩ := h
      obtain ⟨q22, h⟩ := h
      refine z_iast dX7_fail_223 (n := (zK M13 b15).2) (Prod.ext q20 rfl) q21 q22 ?_
      obtain ⟨M23, hmM23⟩ : ∃ z, z = zsI M13 b15 x5 ((zI M13 b15 x5) + 1) := ⟨_, rfl⟩
      rw [← hmM23]
      have h := h M23 hmM23
      obtain ⟨q24, h⟩ := h
      refine z_iinc 4 dX7_fail_224 rfl (by decide) q24 rfl ?_
      obtain ⟨q25, h⟩ := h
      refine z_iinc 5 dX7_fail_227 rfl (by decide) q25 rfl ?_
      refine z_goto (tgt := 186) dX7_fail_230 (by decide) ?_
      exact z_sub [2, 3, 4, 5, 1, 0] rfl h
    · have h := h.2 q7
      refine z_goto (tgt := 227) dX7_fail_202 (by decide) ?_
      obtain ⟨q26, h⟩ := h
      refine z_iinc 5 dX7_fail_227 rfl (by decide) q26 rfl ?_
      refine z_goto (tgt := 186) dX7_fail_230 (by decide) ?_
      exact z_sub [1, 2, 3, 4, 5, 0] rfl h
theorem sX7_fail {E : zE} {d : Nat} {P : Int → zM → Prop} {M : zM} (a0 : Nat) (x1 : Int) (h : ∀ X : zX, (xh X).sig.returnType = (some .int) → ZX7_fail E d X P 0 [(0, vR (some a0)), (1, vI x1)] [] M 0 0) : zCi E mX7_fail (d + 1) 1 40 [vR (some a0), vI x1] M P := z_start (f := mX7_fail) rfl (Nat.le_of_ble_eq_true rfl) rfl h
abbrev ZX7_more (E : zE) (d : Nat) (X : zX) (P : Int → zM → Prop) (pc : Nat) (Lc : List (Nat × zV)) (S : List zV) (M : zM) (ce sl : Nat) : Prop := zZ cX7_more RX7 "more" 3 E (zrm (d + 1) 0 0) X (zQ E (zPi P) X 0 0) pc Lc S M ce sl
set_option maxRecDepth 20000 in
theorem vX7_more_0 {E : zE} {d : Nat} {X : zX} {P : Int → zM → Prop} {M : zM} (hr : (xh X).sig.returnType = (some .int)) (a0 : Nat) (x1 : Int) (x2 : Int)
    (h : zK M a0 = (8, 25) ∧ ∃ P1 : Int → zM → Prop, zCi E mX7_isWork d 0 0 [vR (some a0), vI x1] M P1 ∧ ∀ r4 M3, P1 r4 M3 → ((r4 = 0 → P (-1) M3) ∧ (r4 ≠ 0 → zK M3 a0 = (8, 25) ∧ ∃ P8 : Int → zM → Prop, zCi E mX7_isDone d 0 0 [vR (some a0), vI x1] M3 P8 ∧ ∀ r11 M10, P8 r11 M10 → ((r11 ≠ 0 → P (-1) M10) ∧ (r11 = 0 → ∃ P15 : Int → zM → Prop, zCi E mX7_in d 0 0 [vI x2, vI 1, vI 40] M10 P15 ∧ ∀ r18 M17, P15 r18 M17 → ((r18 = 0 → P (-1) M17) ∧ (r18 ≠ 0 → zK M17 a0 = (8, 25) ∧ ∃ b22, zR M17 a0 9 = some b22 ∧ (zK M17 b22).1 = 9 ∧ 0 ≤ x1 ∧ x1 < ((zK M17 b22).2 : Int) ∧ zin ((zI M17 b22 x1) + x2) ∧ ((40 < ((zI M17 b22 x1) + x2) → P (-1) M17) ∧ (((zI M17 b22 x1) + x2) ≤ 40 → zK M17 a0 = (8, 25) ∧ ∃ P28 : Int → zM → Prop, zCi E mX7_isPut d 0 0 [vR (some a0), vI x1] M17 P28 ∧ ∀ r31 M30, P28 r31 M30 → ((r31 = 0 → zK M30 a0 = (8, 25) ∧ ∃ b36, zR M30 a0 9 = some b36 ∧ (zK M30 b36).1 = 9 ∧ 0 ≤ x1 ∧ x1 < ((zK M30 b36).2 : Int) ∧ zin ((zI M30 b36 x1) + x2) ∧ (zK M30 b36).1 = 9 ∧ 0 ≤ x1 ∧ x1 < ((zK M30 b36).2 : Int) ∧ ∀ M44, M44 = zsI M30 b36 x1 ((zI M30 b36 x1) + x2) → zK M44 a0 = (8, 25) ∧ ∃ b46, zR M44 a0 9 = some b46 ∧ (zK M44 b46).1 = 9 ∧ 0 ≤ x1 ∧ x1 < ((zK M44 b46).2 : Int) ∧ P (zI M44 b46 x1) M44) ∧ (r31 ≠ 0 → zK M30 a0 = (8, 25) ∧ ∃ P50 : Int → zM → Prop, zCi E mX7_endOf d 0 0 [vR (some a0), vI x1] M30 P50 ∧ ∀ r53 M52, P50 r53 M52 → zin (r53 + x2) ∧ (((r53 + x2) ≤ 400 → zK M52 a0 = (8, 25) ∧ ∃ b59, zR M52 a0 9 = some b59 ∧ (zK M52 b59).1 = 9 ∧ 0 ≤ x1 ∧ x1 < ((zK M52 b59).2 : Int) ∧ zin ((zI M52 b59 x1) + x2) ∧ (zK M52 b59).1 = 9 ∧ 0 ≤ x1 ∧ x1 < ((zK M52 b59).2 : Int) ∧ ∀ M67, M67 = zsI M52 b59 x1 ((zI M52 b59 x1) + x2) → zK M67 a0 = (8, 25) ∧ ∃ b69, zR M67 a0 9 = some b69 ∧ (zK M67 b69).1 = 9 ∧ 0 ≤ x1 ∧ x1 < ((zK M67 b69).2 : Int) ∧ P (zI M67 b69 x1) M67) ∧ (400 < (r53 + x2) → P (-1) M52))))))))))))) :
    ZX7_more E d X P 0 [(0, vR (some a0)), (1, vI x1), (2, vI x2)] [] M 0 0 := by
  refine z_aload_n 0 dX7_more_0 rfl ?_
  refine z_iload_n 1 dX7_more_1 rfl ?_
  obtain ⟨q6, h⟩ := h
  obtain ⟨P1, c2, h⟩ := h
  refine z_Vi (as := [vI x1]) mv_X7_100 dX7_more_2 c2 q6 rfl rfl (Nat.le_of_ble_eq_true rfl) (Nat.le_of_ble_eq_true rfl) (Nat.le_of_ble_eq_true rfl) (fun r4 M3 p5 => ?_)
  have h := h r4 M3 p5
  refine z_if_eq (tgt := 60) dX7_more_5 (by decide) (fun q7 => ?_) (fun q7 => ?_)
  · have h := h.1 q7
    refine z_iconst dX7_more_60 (by decide) ?_
    exact z_iret hr dX7_more_61 (Nat.le_of_ble_eq_true rfl) (Nat.le_of_ble_eq_true rfl) ⟨_, rfl, h⟩
  · have h := h.2 q7
    refine z_aload_n 0 dX7_more_8 rfl ?_
    refine z_iload_n 1 dX7_more_9 rfl ?_
    obtain ⟨q13, h⟩ := h
    obtain ⟨P8, c9, h⟩ := h
    refine z_Vi (as := [vI x1]) mv_X7_148 dX7_more_10 c9 q13 rfl rfl (Nat.le_of_ble_eq_true rfl) (Nat.le_of_ble_eq_true rfl) (Nat.le_of_ble_eq_true rfl) (fun r11 M10 p12 => ?_)
    have h := h r11 M10 p12
    refine z_if_ne (tgt := 60) dX7_more_13 (by decide) (fun q14 => ?_) (fun q14 => ?_)
    · have h := h.1 q14
      refine z_iconst dX7_more_60 (by decide) ?_
      exact z_iret hr dX7_more_61 (Nat.le_of_ble_eq_true rfl) (Nat.le_of_ble_eq_true rfl) ⟨_, rfl, h⟩
    · have h := h.2 q14
      refine z_iload_n 2 dX7_more_16 rfl ?_
      refine z_iconst dX7_more_17 (by decide) ?_
      refine z_bipush dX7_more_18 (by decide) ?_
      obtain ⟨P15, c16, h⟩ := h
      refine z_Si (as := [vI x2, vI 1, vI 40]) ms_X7_78 dX7_more_20 c16 rfl rfl (Nat.le_of_ble_eq_true rfl) (Nat.le_of_ble_eq_true rfl) (Nat.le_of_ble_eq_true rfl) (fun r18 M17 p19 => ?_)
      have h := h r18 M17 p19
      refine z_if_eq (tgt := 60) dX7_more_23 (by decide) (fun q20 => ?_) (fun q20 => ?_)
      · have h := h.1 q20
        refine z_iconst dX7_more_60 (by decide) ?_
        exact z_iret hr dX7_more_61 (Nat.le_of_ble_eq_true rfl) (Nat.le_of_ble_eq_true rfl) ⟨_, rfl, h⟩
      · have h := h.2 q20
        refine z_aload_n 0 dX7_more_26 rfl ?_
        obtain ⟨q21, h⟩ := h
        refine z_getR fl_X7_26 rfl dX7_more_27 q21 ?_
        refine z_iload_n 1 dX7_more_30 rfl ?_
        obtain ⟨b22, eb22, h⟩ := h
        rw [eb22]
        obtain ⟨q23, h⟩ := h
        obtain ⟨q24, h⟩ := h
        obtain ⟨q25, h⟩ := h
        refine z_iald dX7_more_31 (n := (zK M17 b22).2) (Prod.ext q23 rfl) q24 q25 ?_
        refine z_iload_n 2 dX7_more_32 rfl ?_
        obtain ⟨q26, h⟩ := h
        refine z_iadd dX7_more_33 q26 ?_
        refine z_bipush dX7_more_34 (by decide) ?_
        refine z_icmp_gt (tgt := 60) dX7_more_36 (by decide) (fun q27 => ?_) (fun q27 => ?_)
        · have h := h.1 q27
          refine z_iconst dX7_more_60 (by decide) ?_
          exact z_iret hr dX7_more_61 (Nat.le_of_ble_eq_true rfl) (Nat.le_of_ble_eq_true rfl) ⟨_, rfl, h⟩
        · have h := h.2 q27
          refine z_aload_n 0 dX7_more_39 rfl ?_
          refine z_iload_n 1 dX7_more_40 rfl ?_
          obtain ⟨q33, h⟩ := h
          obtain ⟨P28, c29, h⟩ := h
          refine z_Vi (as := [vI x1]) mv_X7_89 dX7_more_41 c29 q33 rfl rfl (Nat.le_of_ble_eq_true rfl) (Nat.le_of_ble_eq_true rfl) (Nat.le_of_ble_eq_true rfl) (fun r31 M30 p32 => ?_)
          have h := h r31 M30 p32
          refine z_if_eq (tgt := 62) dX7_more_44 (by decide) (fun q34 => ?_) (fun q34 => ?_)
          · have h := h.1 q34
            refine z_aload_n 0 dX7_more_62 rfl ?_
            obtain ⟨q35, h⟩ := h
            refine z_getR fl_X7_26 rfl dX7_more_63 q35 ?_
            refine z_iload_n 1 dX7_more_66 rfl ?_
            refine z_dup2 dX7_more_67 rfl rfl ?_
            obtain ⟨b36, eb36, h⟩ := h
            rw [eb36]
            obtain ⟨q37, h⟩ := h
            obtain ⟨q38, h⟩ := h
            obtain ⟨q39, h⟩ := h
            refine z_iald dX7_more_68 (n := (zK M30 b36).2) (Prod.ext q37 rfl) q38 q39 ?_
            refine z_iload_n 2 dX7_more_69 rfl ?_
            obtain ⟨q40, h⟩ := h
            refine z_iadd dX7_more_70 q40 ?_
            obtain ⟨q41, h⟩ := h
            obtain ⟨q42, h⟩ := h
            obtain ⟨q43, h⟩ := h
            refine z_iast dX7_more_71 (n := (zK M30 b36).2) (Prod.ext q41 rfl) q42 q43 ?_
            obtain ⟨M44, hmM44⟩ : ∃ z, z = zsI M30 b36 x1 ((zI M30 b36 x1) + x2) := ⟨_, rfl⟩
            rw [← hmM44]
            have h := h M44 hmM44
            refine z_aload_n 0 dX7_more_72 rfl ?_
            obtain ⟨q45, h⟩ := h
            refine z_getR fl_X7_26 rfl dX7_more_73 q45 ?_
            refine z_iload_n 1 dX7_more_76 rfl ?_
            obtain ⟨b46, eb46, h⟩ := h
            rw [eb46]
            obtain ⟨q47, h⟩ := h
            obtain ⟨q48, h⟩ := h
            obtain ⟨q49, h⟩ := h
            refine z_iald dX7_more_77 (n := (zK M44 b46).2) (Prod.ext q47 rfl) q48 q49 ?_
            exact z_iret hr dX7_more_78 (Nat.le_of_ble_eq_true rfl) (Nat.le_of_ble_eq_true rfl) ⟨_, rfl, h⟩
          · have h := h.2 q34
            refine z_aload_n 0 dX7_more_47 rfl ?_
            refine z_iload_n 1 dX7_more_48 rfl ?_
            obtain ⟨q55, h⟩ := h
            obtain ⟨P50, c51, h⟩ := h
            refine z_Vi (as := [vI x1]) mv_X7_96 dX7_more_49 c51 q55 rfl rfl (Nat.le_of_ble_eq_true rfl) (Nat.le_of_ble_eq_true rfl) (Nat.le_of_ble_eq_true rfl) (fun r53 M52 p54 => ?_)
            have h := h r53 M52 p54
            refine z_iload_n 2 dX7_more_52 rfl ?_
            obtain ⟨q56, h⟩ := h
            refine z_iadd dX7_more_53 q56 ?_
            refine z_sipush dX7_more_54 (by decide) ?_
            refine z_icmp_le (tgt := 62) dX7_more_57 (by decide) (fun q57 => ?_) (fun q57 => ?_)
            · have h := h.1 q57
              refine z_aload_n 0 dX7_more_62 rfl ?_
              obtain ⟨q58, h⟩ := h
              refine z_getR fl_X7_26 rfl dX7_more_63 q58 ?_
              refine z_iload_n 1 dX7_more_66 rfl ?_
              refine z_dup2 dX7_more_67 rfl rfl ?_
              obtain ⟨b59, eb59, h⟩ := h
              rw [eb59]
              obtain ⟨q60, h⟩ := h
              obtain ⟨q61, h⟩ := h
              obtain ⟨q62, h⟩ := h
              refine z_iald dX7_more_68 (n := (zK M52 b59).2) (Prod.ext q60 rfl) q61 q62 ?_
              refine z_iload_n 2 dX7_more_69 rfl ?_
              obtain ⟨q63, h⟩ := h
              refine z_iadd dX7_more_70 q63 ?_
              obtain ⟨q64, h⟩ := h
              obtain ⟨q65, h⟩ := h
              obtain ⟨q66, h⟩ := h
              refine z_iast dX7_more_71 (n := (zK M52 b59).2) (Prod.ext q64 rfl) q65 q66 ?_
              obtain ⟨M67, hmM67⟩ : ∃ z, z = zsI M52 b59 x1 ((zI M52 b59 x1) + x2) := ⟨_, rfl⟩
              rw [← hmM67]
              have h := h M67 hmM67
              refine z_aload_n 0 dX7_more_72 rfl ?_
              obtain ⟨q68, h⟩ := h
              refine z_getR fl_X7_26 rfl dX7_more_73 q68 ?_
              refine z_iload_n 1 dX7_more_76 rfl ?_
              obtain ⟨b69, eb69, h⟩ := h
              rw [eb69]
              obtain ⟨q70, h⟩ := h
              obtain ⟨q71, h⟩ := h
              obtain ⟨q72, h⟩ := h
              refine z_iald dX7_more_77 (n := (zK M67 b69).2) (Prod.ext q70 rfl) q71 q72 ?_
              exact z_iret hr dX7_more_78 (Nat.le_of_ble_eq_true rfl) (Nat.le_of_ble_eq_true rfl) ⟨_, rfl, h⟩
            · have h := h.2 q57
              refine z_iconst dX7_more_60 (by decide) ?_
              exact z_iret hr dX7_more_61 (Nat.le_of_ble_eq_true rfl) (Nat.le_of_ble_eq_true rfl) ⟨_, rfl, h⟩
theorem sX7_more {E : zE} {d : Nat} {P : Int → zM → Prop} {M : zM} (a0 : Nat) (x1 : Int) (x2 : Int) (h : ∀ X : zX, (xh X).sig.returnType = (some .int) → ZX7_more E d X P 0 [(0, vR (some a0)), (1, vI x1), (2, vI x2)] [] M 0 0) : zCi E mX7_more (d + 1) 0 0 [vR (some a0), vI x1, vI x2] M P := z_start (f := mX7_more) rfl (Nat.le_of_ble_eq_true rfl) rfl h
abbrev ZX7_stateOf (E : zE) (d : Nat) (X : zX) (P : Int → zM → Prop) (pc : Nat) (Lc : List (Nat × zV)) (S : List zV) (M : zM) (ce sl : Nat) : Prop := zZ cX7_stateOf RX7 "stateOf" 2 E (zrm (d + 1) 0 0) X (zQ E (zPi P) X 0 0) pc Lc S M ce sl
set_option maxRecDepth 20000 in
theorem vX7_stateOf_0 {E : zE} {d : Nat} {X : zX} {P : Int → zM → Prop} {M : zM} (hr : (xh X).sig.returnType = (some .int)) (a0 : Nat) (x1 : Int)
    (h : zK M a0 = (8, 25) ∧ ∃ P1 : Int → zM → Prop, zCi E mX7_isPut d 0 0 [vR (some a0), vI x1] M P1 ∧ ∀ r4 M3, P1 r4 M3 → ((r4 ≠ 0 → zK M3 a0 = (8, 25) ∧ ∃ P8 : Int → zM → Prop, zCi E mX7_isDone d 0 0 [vR (some a0), vI x1] M3 P8 ∧ ∀ r11 M10, P8 r11 M10 → ((r11 = 0 → zK M10 a0 = (8, 25) ∧ ∃ P15 : Int → zM → Prop, zCi E mX7_isBegun d 0 0 [vR (some a0), vI x1] M10 P15 ∧ ∀ r18 M17, P15 r18 M17 → ((r18 = 0 → P 1 M17) ∧ (r18 ≠ 0 → P 2 M17))) ∧ (r11 ≠ 0 → P 3 M10))) ∧ (r4 = 0 → P 0 M3))) :
    ZX7_stateOf E d X P 0 [(0, vR (some a0)), (1, vI x1)] [] M 0 0 := by
  refine z_aload_n 0 dX7_stateOf_0 rfl ?_
  refine z_iload_n 1 dX7_stateOf_1 rfl ?_
  obtain ⟨q6, h⟩ := h
  obtain ⟨P1, c2, h⟩ := h
  refine z_Vi (as := [vI x1]) mv_X7_89 dX7_stateOf_2 c2 q6 rfl rfl (Nat.le_of_ble_eq_true rfl) (Nat.le_of_ble_eq_true rfl) (Nat.le_of_ble_eq_true rfl) (fun r4 M3 p5 => ?_)
  have h := h r4 M3 p5
  refine z_if_ne (tgt := 12) dX7_stateOf_5 (by decide) (fun q7 => ?_) (fun q7 => ?_)
  · have h := h.1 q7
    refine z_aload_n 0 dX7_stateOf_12 rfl ?_
    refine z_iload_n 1 dX7_stateOf_13 rfl ?_
    obtain ⟨q13, h⟩ := h
    obtain ⟨P8, c9, h⟩ := h
    refine z_Vi (as := [vI x1]) mv_X7_148 dX7_stateOf_14 c9 q13 rfl rfl (Nat.le_of_ble_eq_true rfl) (Nat.le_of_ble_eq_true rfl) (Nat.le_of_ble_eq_true rfl) (fun r11 M10 p12 => ?_)
    have h := h r11 M10 p12
    refine z_if_eq (tgt := 24) dX7_stateOf_17 (by decide) (fun q14 => ?_) (fun q14 => ?_)
    · have h := h.1 q14
      refine z_aload_n 0 dX7_stateOf_24 rfl ?_
      refine z_iload_n 1 dX7_stateOf_25 rfl ?_
      obtain ⟨q20, h⟩ := h
      obtain ⟨P15, c16, h⟩ := h
      refine z_Vi (as := [vI x1]) mv_X7_103 dX7_stateOf_26 c16 q20 rfl rfl (Nat.le_of_ble_eq_true rfl) (Nat.le_of_ble_eq_true rfl) (Nat.le_of_ble_eq_true rfl) (fun r18 M17 p19 => ?_)
      have h := h r18 M17 p19
      refine z_if_eq (tgt := 36) dX7_stateOf_29 (by decide) (fun q21 => ?_) (fun q21 => ?_)
      · have h := h.1 q21
        refine z_iconst dX7_stateOf_36 (by decide) ?_
        exact z_iret hr dX7_stateOf_37 (Nat.le_of_ble_eq_true rfl) (Nat.le_of_ble_eq_true rfl) ⟨_, rfl, h⟩
      · have h := h.2 q21
        refine z_iconst dX7_stateOf_32 (by decide) ?_
        refine z_goto (tgt := 37) dX7_stateOf_33 (by decide) ?_
        exact z_iret hr dX7_stateOf_37 (Nat.le_of_ble_eq_true rfl) (Nat.le_of_ble_eq_true rfl) ⟨_, rfl, h⟩
    · have h := h.2 q14
      refine z_iconst dX7_stateOf_20 (by decide) ?_
      refine z_goto (tgt := 37) dX7_stateOf_21 (by decide) ?_
      exact z_iret hr dX7_stateOf_37 (Nat.le_of_ble_eq_true rfl) (Nat.le_of_ble_eq_true rfl) ⟨_, rfl, h⟩
  · have h := h.2 q7
    refine z_iconst dX7_stateOf_8 (by decide) ?_
    refine z_goto (tgt := 37) dX7_stateOf_9 (by decide) ?_
    exact z_iret hr dX7_stateOf_37 (Nat.le_of_ble_eq_true rfl) (Nat.le_of_ble_eq_true rfl) ⟨_, rfl, h⟩
theorem sX7_stateOf {E : zE} {d : Nat} {P : Int → zM → Prop} {M : zM} (a0 : Nat) (x1 : Int) (h : ∀ X : zX, (xh X).sig.returnType = (some .int) → ZX7_stateOf E d X P 0 [(0, vR (some a0)), (1, vI x1)] [] M 0 0) : zCi E mX7_stateOf (d + 1) 0 0 [vR (some a0), vI x1] M P := z_start (f := mX7_stateOf) rfl (Nat.le_of_ble_eq_true rfl) rfl h
abbrev ZX7_told (E : zE) (d : Nat) (X : zX) (P : Int → zM → Prop) (pc : Nat) (Lc : List (Nat × zV)) (S : List zV) (M : zM) (ce sl : Nat) : Prop := zZ cX7_told RX7 "told" 6 E (zrm (d + 1) 0 0) X (zQ E (zPi P) X 0 0) pc Lc S M ce sl
set_option maxRecDepth 20000 in
theorem vX7_told_0 {E : zE} {d : Nat} {X : zX} {P : Int → zM → Prop} {M : zM} (hr : (xh X).sig.returnType = (some .int)) (a0 : Nat) (x1 : Int) (x2 : Int)
    (h : zK M a0 = (8, 25) ∧ ∃ P1 : Int → zM → Prop, zCi E mX7_isWork d 0 0 [vR (some a0), vI x1] M P1 ∧ ∀ r4 M3, P1 r4 M3 → ((r4 ≠ 0 → ((x2 < 8 → ZX7_told E d X P 34 [(0, vR (some a0)), (1, vI x1), (2, vI x2), (3, vI 0), (4, vI 0)] [] M3 0 0) ∧ (8 ≤ x2 → ((10 < x2 → ZX7_told E d X P 34 [(0, vR (some a0)), (1, vI x1), (2, vI x2), (3, vI 0), (4, vI 0)] [] M3 0 0) ∧ (x2 ≤ 10 → zK M3 a0 = (8, 25) ∧ ∃ P10 : Int → zM → Prop, zCi E mX7_way d 0 0 [vR (some a0)] M3 P10 ∧ ∀ r13 M12, P10 r13 M12 → ZX7_told E d X P 34 [(0, vR (some a0)), (1, vI x1), (2, vI x2), (3, vI 0), (4, vI r13)] [] M12 0 0))))) ∧ (r4 = 0 → P (-1) M3))) :
    ZX7_told E d X P 0 [(0, vR (some a0)), (1, vI x1), (2, vI x2)] [] M 0 0 := by
  refine z_aload_n 0 dX7_told_0 rfl ?_
  refine z_iload_n 1 dX7_told_1 rfl ?_
  obtain ⟨q6, h⟩ := h
  obtain ⟨P1, c2, h⟩ := h
  refine z_Vi (as := [vI x1]) mv_X7_100 dX7_told_2 c2 q6 rfl rfl (Nat.le_of_ble_eq_true rfl) (Nat.le_of_ble_eq_true rfl) (Nat.le_of_ble_eq_true rfl) (fun r4 M3 p5 => ?_)
  have h := h r4 M3 p5
  refine z_if_ne (tgt := 10) dX7_told_5 (by decide) (fun q7 => ?_) (fun q7 => ?_)
  · have h := h.1 q7
    refine z_iconst dX7_told_10 (by decide) ?_
    refine z_istore_n dX7_told_11 (by decide) rfl ?_
    refine z_iload_n 3 dX7_told_12 rfl ?_
    refine z_bipush dX7_told_13 (by decide) ?_
    refine z_icmp_lt (tgt := 31) dX7_told_15 (by decide) (fun q8 => ?_) (fun q8 => ?_)
    · have h := h.1 q8
      refine z_iconst dX7_told_31 (by decide) ?_
      refine z_istore dX7_told_32 (by decide) rfl ?_
      exact z_sub [2, 3, 4, 1, 0] rfl h
    · have h := h.2 q8
      refine z_iload_n 3 dX7_told_18 rfl ?_
      refine z_bipush dX7_told_19 (by decide) ?_
      refine z_icmp_gt (tgt := 31) dX7_told_21 (by decide) (fun q9 => ?_) (fun q9 => ?_)
      · have h := h.1 q9
        refine z_iconst dX7_told_31 (by decide) ?_
        refine z_istore dX7_told_32 (by decide) rfl ?_
        exact z_sub [2, 3, 4, 1, 0] rfl h
      · have h := h.2 q9
        refine z_aload_n 1 dX7_told_24 rfl ?_
        obtain ⟨q15, h⟩ := h
        obtain ⟨P10, c11, h⟩ := h
        refine z_Vi (as := []) mv_X7_132 dX7_told_25 c11 q15 rfl rfl (Nat.le_of_ble_eq_true rfl) (Nat.le_of_ble_eq_true rfl) (Nat.le_of_ble_eq_true rfl) (fun r13 M12 p14 => ?_)
        have h := h r13 M12 p14
        refine z_goto (tgt := 32) dX7_told_28 (by decide) ?_
        refine z_istore dX7_told_32 (by decide) rfl ?_
        exact z_sub [2, 3, 4, 1, 0] rfl h
  · have h := h.2 q7
    refine z_iconst dX7_told_8 (by decide) ?_
    exact z_iret hr dX7_told_9 (Nat.le_of_ble_eq_true rfl) (Nat.le_of_ble_eq_true rfl) ⟨_, rfl, h⟩
set_option maxRecDepth 20000 in
theorem vX7_told_34 {E : zE} {d : Nat} {X : zX} {P : Int → zM → Prop} {M : zM} (hr : (xh X).sig.returnType = (some .int)) (a0 : Nat) (x1 : Int) (x2 : Int) (x3 : Int) (x4 : Int)
    (h : ((x2 = 0 → zK M a0 = (8, 25) ∧ ∃ b3, zR M a0 9 = some b3 ∧ (zK M b3).1 = 9 ∧ 0 ≤ x1 ∧ x1 < ((zK M b3).2 : Int) ∧ P (zI M b3 x1) M) ∧ (x2 = 1 → zK M a0 = (8, 25) ∧ ∃ b9, zR M a0 10 = some b9 ∧ (zK M b9).1 = 9 ∧ 0 ≤ x1 ∧ x1 < ((zK M b9).2 : Int) ∧ P (zI M b9 x1) M) ∧ (x2 = 2 → zK M a0 = (8, 25) ∧ ∃ b15, zR M a0 11 = some b15 ∧ (zK M b15).1 = 9 ∧ 0 ≤ x1 ∧ x1 < ((zK M b15).2 : Int) ∧ P (zI M b15 x1) M) ∧ (x2 = 3 → zK M a0 = (8, 25) ∧ ∃ b21, zR M a0 12 = some b21 ∧ (zK M b21).1 = 9 ∧ 0 ≤ x1 ∧ x1 < ((zK M b21).2 : Int) ∧ P (zI M b21 x1) M) ∧ (x2 = 4 → zK M a0 = (8, 25) ∧ ∃ b27, zR M a0 13 = some b27 ∧ (zK M b27).1 = 9 ∧ 0 ≤ x1 ∧ x1 < ((zK M b27).2 : Int) ∧ P (zI M b27 x1) M) ∧ (x2 = 5 → zK M a0 = (8, 25) ∧ ∃ b33, zR M a0 14 = some b33 ∧ (zK M b33).1 = 9 ∧ 0 ≤ x1 ∧ x1 < ((zK M b33).2 : Int) ∧ P (zI M b33 x1) M) ∧ (x2 = 6 → zK M a0 = (8, 25) ∧ ∃ P38 : Int → zM → Prop, zCi E mX7_stateOf d 0 0 [vR (some a0), vI x1] M P38 ∧ ∀ r41 M40, P38 r41 M40 → P r41 M40) ∧ (x2 = 7 → zK M a0 = (8, 25) ∧ ∃ b46, zR M a0 15 = some b46 ∧ (zK M b46).1 = 9 ∧ 0 ≤ x1 ∧ x1 < ((zK M b46).2 : Int) ∧ P (zI M b46 x1) M) ∧ (x2 = 8 → zK M a0 = (8, 25) ∧ ∃ b52, zR M a0 20 = some b52 ∧ (zK M b52).1 = 9 ∧ 0 ≤ x1 ∧ x1 < ((zK M b52).2 : Int) ∧ P (zI M b52 x1) M) ∧ (x2 = 9 → zK M a0 = (8, 25) ∧ ∃ b58, zR M a0 21 = some b58 ∧ (zK M b58).1 = 9 ∧ 0 ≤ x1 ∧ x1 < ((zK M b58).2 : Int) ∧ P (zI M b58 x1) M) ∧ (x2 = 10 → zK M a0 = (8, 25) ∧ ∃ P63 : Int → zM → Prop, zCi E mX7_slack d 0 0 [vR (some a0), vI x4, vI x1] M P63 ∧ ∀ r66 M65, P63 r66 M65 → P r66 M65) ∧ (x2 = 11 → ZX7_told E d X P 180 [(0, vR (some a0)), (1, vI x1), (2, vI x2), (3, vI x3), (4, vI x4), (5, vI 0)] [] M 0 0) ∧ (x2 = 12 → zK M a0 = (8, 25) ∧ ∃ b72, zR M a0 16 = some b72 ∧ (zK M b72).1 = 9 ∧ 0 ≤ x1 ∧ x1 < ((zK M b72).2 : Int) ∧ P (zI M b72 x1) M) ∧ ((x2 < 0 ∨ 12 < x2) → P (-1) M))) :
    ZX7_told E d X P 34 [(0, vR (some a0)), (1, vI x1), (2, vI x2), (3, vI x3), (4, vI x4)] [] M 0 0 := by
  refine z_iload_n 2 dX7_told_34 rfl ?_
  obtain ⟨hq1, h⟩ := h
  by_cases q1 : x2 = 0
  · refine z_tableIn (tgt := 100) dX7_told_35 0 q1 (by decide) (by decide) rfl (by decide) ?_
    have h := hq1 q1
    refine z_aload_n 0 dX7_told_100 rfl ?_
    obtain ⟨q2, h⟩ := h
    refine z_getR fl_X7_26 rfl dX7_told_101 q2 ?_
    refine z_iload_n 1 dX7_told_104 rfl ?_
    obtain ⟨b3, eb3, h⟩ := h
    rw [eb3]
    obtain ⟨q4, h⟩ := h
    obtain ⟨q5, h⟩ := h
    obtain ⟨q6, h⟩ := h
    refine z_iald dX7_told_105 (n := (zK M b3).2) (Prod.ext q4 rfl) q5 q6 ?_
    exact z_iret hr dX7_told_106 (Nat.le_of_ble_eq_true rfl) (Nat.le_of_ble_eq_true rfl) ⟨_, rfl, h⟩
  obtain ⟨hq7, h⟩ := h
  by_cases q7 : x2 = 1
  · refine z_tableIn (tgt := 107) dX7_told_35 1 q7 (by decide) (by decide) rfl (by decide) ?_
    have h := hq7 q7
    refine z_aload_n 0 dX7_told_107 rfl ?_
    obtain ⟨q8, h⟩ := h
    refine z_getR fl_X7_29 rfl dX7_told_108 q8 ?_
    refine z_iload_n 1 dX7_told_111 rfl ?_
    obtain ⟨b9, eb9, h⟩ := h
    rw [eb9]
    obtain ⟨q10, h⟩ := h
    obtain ⟨q11, h⟩ := h
    obtain ⟨q12, h⟩ := h
    refine z_iald dX7_told_112 (n := (zK M b9).2) (Prod.ext q10 rfl) q11 q12 ?_
    exact z_iret hr dX7_told_113 (Nat.le_of_ble_eq_true rfl) (Nat.le_of_ble_eq_true rfl) ⟨_, rfl, h⟩
  obtain ⟨hq13, h⟩ := h
  by_cases q13 : x2 = 2
  · refine z_tableIn (tgt := 114) dX7_told_35 2 q13 (by decide) (by decide) rfl (by decide) ?_
    have h := hq13 q13
    refine z_aload_n 0 dX7_told_114 rfl ?_
    obtain ⟨q14, h⟩ := h
    refine z_getR fl_X7_32 rfl dX7_told_115 q14 ?_
    refine z_iload_n 1 dX7_told_118 rfl ?_
    obtain ⟨b15, eb15, h⟩ := h
    rw [eb15]
    obtain ⟨q16, h⟩ := h
    obtain ⟨q17, h⟩ := h
    obtain ⟨q18, h⟩ := h
    refine z_iald dX7_told_119 (n := (zK M b15).2) (Prod.ext q16 rfl) q17 q18 ?_
    exact z_iret hr dX7_told_120 (Nat.le_of_ble_eq_true rfl) (Nat.le_of_ble_eq_true rfl) ⟨_, rfl, h⟩
  obtain ⟨hq19, h⟩ := h
  by_cases q19 : x2 = 3
  · refine z_tableIn (tgt := 121) dX7_told_35 3 q19 (by decide) (by decide) rfl (by decide) ?_
    have h := hq19 q19
    refine z_aload_n 0 dX7_told_121 rfl ?_
    obtain ⟨q20, h⟩ := h
    refine z_getR fl_X7_35 rfl dX7_told_122 q20 ?_
    refine z_iload_n 1 dX7_told_125 rfl ?_
    obtain ⟨b21, eb21, h⟩ := h
    rw [eb21]
    obtain ⟨q22, h⟩ := h
    obtain ⟨q23, h⟩ := h
    obtain ⟨q24, h⟩ := h
    refine z_iald dX7_told_126 (n := (zK M b21).2) (Prod.ext q22 rfl) q23 q24 ?_
    exact z_iret hr dX7_told_127 (Nat.le_of_ble_eq_true rfl) (Nat.le_of_ble_eq_true rfl) ⟨_, rfl, h⟩
  obtain ⟨hq25, h⟩ := h
  by_cases q25 : x2 = 4
  · refine z_tableIn (tgt := 128) dX7_told_35 4 q25 (by decide) (by decide) rfl (by decide) ?_
    have h := hq25 q25
    refine z_aload_n 0 dX7_told_128 rfl ?_
    obtain ⟨q26, h⟩ := h
    refine z_getR fl_X7_38 rfl dX7_told_129 q26 ?_
    refine z_iload_n 1 dX7_told_132 rfl ?_
    obtain ⟨b27, eb27, h⟩ := h
    rw [eb27]
    obtain ⟨q28, h⟩ := h
    obtain ⟨q29, h⟩ := h
    obtain ⟨q30, h⟩ := h
    refine z_iald dX7_told_133 (n := (zK M b27).2) (Prod.ext q28 rfl) q29 q30 ?_
    exact z_iret hr dX7_told_134 (Nat.le_of_ble_eq_true rfl) (Nat.le_of_ble_eq_true rfl) ⟨_, rfl, h⟩
  obtain ⟨hq31, h⟩ := h
  by_cases q31 : x2 = 5
  · refine z_tableIn (tgt := 135) dX7_told_35 5 q31 (by decide) (by decide) rfl (by decide) ?_
    have h := hq31 q31
    refine z_aload_n 0 dX7_told_135 rfl ?_
    obtain ⟨q32, h⟩ := h
    refine z_getR fl_X7_41 rfl dX7_told_136 q32 ?_
    refine z_iload_n 1 dX7_told_139 rfl ?_
    obtain ⟨b33, eb33, h⟩ := h
    rw [eb33]
    obtain ⟨q34, h⟩ := h
    obtain ⟨q35, h⟩ := h
    obtain ⟨q36, h⟩ := h
    refine z_iald dX7_told_140 (n := (zK M b33).2) (Prod.ext q34 rfl) q35 q36 ?_
    exact z_iret hr dX7_told_141 (Nat.le_of_ble_eq_true rfl) (Nat.le_of_ble_eq_true rfl) ⟨_, rfl, h⟩
  obtain ⟨hq37, h⟩ := h
  by_cases q37 : x2 = 6
  · refine z_tableIn (tgt := 142) dX7_told_35 6 q37 (by decide) (by decide) rfl (by decide) ?_
    have h := hq37 q37
    refine z_aload_n 0 dX7_told_142 rfl ?_
    refine z_iload_n 1 dX7_told_143 rfl ?_
    obtain ⟨q43, h⟩ := h
    obtain ⟨P38, c39, h⟩ := h
    refine z_Vi (as := [vI x1]) mv_X7_151 dX7_told_144 c39 q43 rfl rfl (Nat.le_of_ble_eq_true rfl) (Nat.le_of_ble_eq_true rfl) (Nat.le_of_ble_eq_true rfl) (fun r41 M40 p42 => ?_)
    have h := h r41 M40 p42
    exact z_iret hr dX7_told_147 (Nat.le_of_ble_eq_true rfl) (Nat.le_of_ble_eq_true rfl) ⟨_, rfl, h⟩
  obtain ⟨hq44, h⟩ := h
  by_cases q44 : x2 = 7
  · refine z_tableIn (tgt := 148) dX7_told_35 7 q44 (by decide) (by decide) rfl (by decide) ?_
    have h := hq44 q44
    refine z_aload_n 0 dX7_told_148 rfl ?_
    obtain ⟨q45, h⟩ := h
    refine z_getR fl_X7_44 rfl dX7_told_149 q45 ?_
    refine z_iload_n 1 dX7_told_152 rfl ?_
    obtain ⟨b46, eb46, h⟩ := h
    rw [eb46]
    obtain ⟨q47, h⟩ := h
    obtain ⟨q48, h⟩ := h
    obtain ⟨q49, h⟩ := h
    refine z_iald dX7_told_153 (n := (zK M b46).2) (Prod.ext q47 rfl) q48 q49 ?_
    exact z_iret hr dX7_told_154 (Nat.le_of_ble_eq_true rfl) (Nat.le_of_ble_eq_true rfl) ⟨_, rfl, h⟩
  obtain ⟨hq50, h⟩ := h
  by_cases q50 : x2 = 8
  · refine z_tableIn (tgt := 155) dX7_told_35 8 q50 (by decide) (by decide) rfl (by decide) ?_
    have h := hq50 q50
    refine z_aload_n 0 dX7_told_155 rfl ?_
    obtain ⟨q51, h⟩ := h
    refine z_getR fl_X7_59 rfl dX7_told_156 q51 ?_
    refine z_iload_n 1 dX7_told_159 rfl ?_
    obtain ⟨b52, eb52, h⟩ := h
    rw [eb52]
    obtain ⟨q53, h⟩ := h
    obtain ⟨q54, h⟩ := h
    obtain ⟨q55, h⟩ := h
    refine z_iald dX7_told_160 (n := (zK M b52).2) (Prod.ext q53 rfl) q54 q55 ?_
    exact z_iret hr dX7_told_161 (Nat.le_of_ble_eq_true rfl) (Nat.le_of_ble_eq_true rfl) ⟨_, rfl, h⟩
  obtain ⟨hq56, h⟩ := h
  by_cases q56 : x2 = 9
  · refine z_tableIn (tgt := 162) dX7_told_35 9 q56 (by decide) (by decide) rfl (by decide) ?_
    have h := hq56 q56
    refine z_aload_n 0 dX7_told_162 rfl ?_
    obtain ⟨q57, h⟩ := h
    refine z_getR fl_X7_62 rfl dX7_told_163 q57 ?_
    refine z_iload_n 1 dX7_told_166 rfl ?_
    obtain ⟨b58, eb58, h⟩ := h
    rw [eb58]
    obtain ⟨q59, h⟩ := h
    obtain ⟨q60, h⟩ := h
    obtain ⟨q61, h⟩ := h
    refine z_iald dX7_told_167 (n := (zK M b58).2) (Prod.ext q59 rfl) q60 q61 ?_
    exact z_iret hr dX7_told_168 (Nat.le_of_ble_eq_true rfl) (Nat.le_of_ble_eq_true rfl) ⟨_, rfl, h⟩
  obtain ⟨hq62, h⟩ := h
  by_cases q62 : x2 = 10
  · refine z_tableIn (tgt := 169) dX7_told_35 10 q62 (by decide) (by decide) rfl (by decide) ?_
    have h := hq62 q62
    refine z_aload_n 0 dX7_told_169 rfl ?_
    refine z_iload 4 dX7_told_170 rfl ?_
    refine z_iload_n 1 dX7_told_172 rfl ?_
    obtain ⟨q68, h⟩ := h
    obtain ⟨P63, c64, h⟩ := h
    refine z_Vi (as := [vI x4, vI x1]) mv_X7_136 dX7_told_173 c64 q68 rfl rfl (Nat.le_of_ble_eq_true rfl) (Nat.le_of_ble_eq_true rfl) (Nat.le_of_ble_eq_true rfl) (fun r66 M65 p67 => ?_)
    have h := h r66 M65 p67
    exact z_iret hr dX7_told_176 (Nat.le_of_ble_eq_true rfl) (Nat.le_of_ble_eq_true rfl) ⟨_, rfl, h⟩
  obtain ⟨hq69, h⟩ := h
  by_cases q69 : x2 = 11
  · refine z_tableIn (tgt := 177) dX7_told_35 11 q69 (by decide) (by decide) rfl (by decide) ?_
    have h := hq69 q69
    refine z_iconst dX7_told_177 (by decide) ?_
    refine z_istore dX7_told_178 (by decide) rfl ?_
    exact z_sub [1, 2, 3, 4, 5, 0] rfl h
  obtain ⟨hq70, h⟩ := h
  by_cases q70 : x2 = 12
  · refine z_tableIn (tgt := 220) dX7_told_35 12 q70 (by decide) (by decide) rfl (by decide) ?_
    have h := hq70 q70
    refine z_aload_n 0 dX7_told_220 rfl ?_
    obtain ⟨q71, h⟩ := h
    refine z_getR fl_X7_47 rfl dX7_told_221 q71 ?_
    refine z_iload_n 1 dX7_told_224 rfl ?_
    obtain ⟨b72, eb72, h⟩ := h
    rw [eb72]
    obtain ⟨q73, h⟩ := h
    obtain ⟨q74, h⟩ := h
    obtain ⟨q75, h⟩ := h
    refine z_iald dX7_told_225 (n := (zK M b72).2) (Prod.ext q73 rfl) q74 q75 ?_
    exact z_iret hr dX7_told_226 (Nat.le_of_ble_eq_true rfl) (Nat.le_of_ble_eq_true rfl) ⟨_, rfl, h⟩
  have ho76 := zo_0_12 x2 q1 q7 q13 q19 q25 q31 q37 q44 q50 q56 q62 q69 q70
  refine z_tableOut (tgt := 227) dX7_told_35 ho76 (by decide) ?_
  have h := h ho76
  refine z_iconst dX7_told_227 (by decide) ?_
  exact z_iret hr dX7_told_228 (Nat.le_of_ble_eq_true rfl) (Nat.le_of_ble_eq_true rfl) ⟨_, rfl, h⟩
set_option maxRecDepth 20000 in
theorem vX7_told_180 {E : zE} {d : Nat} {X : zX} {P : Int → zM → Prop} {M : zM} (hr : (xh X).sig.returnType = (some .int)) (a0 : Nat) (x1 : Int) (x2 : Int) (x3 : Int) (x4 : Int) (x5 : Int)
    (h : zK M a0 = (8, 25) ∧ (((zI M a0 8) ≤ x5 → P x3 M) ∧ (x5 < (zI M a0 8) → zK M a0 = (8, 25) ∧ zin (40 * x1) ∧ zin ((40 * x1) + x5) ∧ ∃ b6, zR M a0 17 = some b6 ∧ (zK M b6).1 = 10 ∧ 0 ≤ ((40 * x1) + x5) ∧ ((40 * x1) + x5) < ((zK M b6).2 : Int) ∧ (((zI M b6 ((40 * x1) + x5)) = 0 → zin (x3 + 0) ∧ zin (x5 + 1) ∧ ZX7_told E d X P 180 [(0, vR (some a0)), (1, vI x1), (2, vI x2), (3, vI (x3 + 0)), (4, vI x4), (5, vI (x5 + 1))] [] M 0 0) ∧ ((zI M b6 ((40 * x1) + x5)) ≠ 0 → zin (x3 + 1) ∧ zin (x5 + 1) ∧ ZX7_told E d X P 180 [(0, vR (some a0)), (1, vI x1), (2, vI x2), (3, vI (x3 + 1)), (4, vI x4), (5, vI (x5 + 1))] [] M 0 0))))) :
    ZX7_told E d X P 180 [(0, vR (some a0)), (1, vI x1), (2, vI x2), (3, vI x3), (4, vI x4), (5, vI x5)] [] M 0 0 := by
  refine z_iload 5 dX7_told_180 rfl ?_
  refine z_aload_n 0 dX7_told_182 rfl ?_
  obtain ⟨q1, h⟩ := h
  refine z_getI fl_X7_74 dX7_told_183 q1 ?_
  refine z_icmp_ge (tgt := 218) dX7_told_186 (by decide) (fun q2 => ?_) (fun q2 => ?_)
  · have h := h.1 q2
    refine z_iload_n 3 dX7_told_218 rfl ?_
    exact z_iret hr dX7_told_219 (Nat.le_of_ble_eq_true rfl) (Nat.le_of_ble_eq_true rfl) ⟨_, rfl, h⟩
  · have h := h.2 q2
    refine z_iload_n 3 dX7_told_189 rfl ?_
    refine z_aload_n 0 dX7_told_190 rfl ?_
    obtain ⟨q3, h⟩ := h
    refine z_getR fl_X7_50 rfl dX7_told_191 q3 ?_
    refine z_bipush dX7_told_194 (by decide) ?_
    refine z_iload_n 1 dX7_told_196 rfl ?_
    obtain ⟨q4, h⟩ := h
    refine z_imul dX7_told_197 q4 ?_
    refine z_iload 5 dX7_told_198 rfl ?_
    obtain ⟨q5, h⟩ := h
    refine z_iadd dX7_told_200 q5 ?_
    obtain ⟨b6, eb6, h⟩ := h
    rw [eb6]
    obtain ⟨q7, h⟩ := h
    obtain ⟨q8, h⟩ := h
    obtain ⟨q9, h⟩ := h
    refine z_bald dX7_told_201 (n := (zK M b6).2) (Prod.ext q7 rfl) q8 q9 ?_
    refine z_if_eq (tgt := 209) dX7_told_202 (by decide) (fun q10 => ?_) (fun q10 => ?_)
    · have h := h.1 q10
      refine z_iconst dX7_told_209 (by decide) ?_
      obtain ⟨q11, h⟩ := h
      refine z_iadd dX7_told_210 q11 ?_
      refine z_istore_n dX7_told_211 (by decide) rfl ?_
      obtain ⟨q12, h⟩ := h
      refine z_iinc 5 dX7_told_212 rfl (by decide) q12 rfl ?_
      refine z_goto (tgt := 180) dX7_told_215 (by decide) ?_
      exact z_sub [2, 3, 4, 1, 5, 0] rfl h
    · have h := h.2 q10
      refine z_iconst dX7_told_205 (by decide) ?_
      refine z_goto (tgt := 210) dX7_told_206 (by decide) ?_
      obtain ⟨q13, h⟩ := h
      refine z_iadd dX7_told_210 q13 ?_
      refine z_istore_n dX7_told_211 (by decide) rfl ?_
      obtain ⟨q14, h⟩ := h
      refine z_iinc 5 dX7_told_212 rfl (by decide) q14 rfl ?_
      refine z_goto (tgt := 180) dX7_told_215 (by decide) ?_
      exact z_sub [2, 3, 4, 1, 5, 0] rfl h
theorem sX7_told {E : zE} {d : Nat} {P : Int → zM → Prop} {M : zM} (a0 : Nat) (x1 : Int) (x2 : Int) (h : ∀ X : zX, (xh X).sig.returnType = (some .int) → ZX7_told E d X P 0 [(0, vR (some a0)), (1, vI x1), (2, vI x2)] [] M 0 0) : zCi E mX7_told (d + 1) 0 0 [vR (some a0), vI x1, vI x2] M P := z_start (f := mX7_told) rfl (Nat.le_of_ble_eq_true rfl) rfl h
