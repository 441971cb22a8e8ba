abbrev ZX7_count (E : zE) (d : Nat) (X : zX) (P : Int → zM → Prop) (pc : Nat) (Lc : List (Nat × zV)) (S : List zV) (M : zM) (ce sl : Nat) : Prop := zZ cX7_count RX7 "count" 4 E (zrm (d + 1) 0 0) X (zQ E (zPi P) X 0 0) pc Lc S M ce sl
set_option maxRecDepth 20000 in
theorem vX7_count_0 {E : zE} {d : Nat} {X : zX} {P : Int → zM → Prop} {M : zM} (hr : (xh X).sig.returnType = (some .int)) (a0 : Nat) (x1 : Int)
    (h : ((x1 = 0 → zK M a0 = (8, 25) ∧ P (zI M a0 0) M) ∧ (x1 = 1 → zK M a0 = (8, 25) ∧ P (zI M a0 1) M) ∧ (x1 = 2 → zK M a0 = (8, 25) ∧ P (zI M a0 8) M) ∧ (x1 = 3 → ZX7_count E d X P 61 [(0, vR (some a0)), (1, vI x1), (2, vI 0), (3, vI 0)] [] M 0 0) ∧ (x1 = 4 → ZX7_count E d X P 95 [(0, vR (some a0)), (1, vI x1), (2, vI 0), (3, vI 0)] [] M 0 0) ∧ (x1 = 5 → zK M a0 = (8, 25) ∧ P (zI M a0 6) M) ∧ (x1 = 6 → zK M a0 = (8, 25) ∧ ∃ P12 : Int → zM → Prop, zCi E mX7_way d 0 0 [vR (some a0)] M P12 ∧ ∀ r15 M14, P12 r15 M14 → P r15 M14) ∧ ((x1 < 0 ∨ 6 < x1) → P (-1) M))) :
    ZX7_count E d X P 0 [(0, vR (some a0)), (1, vI x1)] [] M 0 0 := by
  refine z_iconst dX7_count_0 (by decide) ?_
  refine z_istore_n dX7_count_1 (by decide) rfl ?_
  refine z_iload_n 2 dX7_count_2 rfl ?_
  obtain ⟨hq1, h⟩ := h
  by_cases q1 : x1 = 0
  · refine z_tableIn (tgt := 44) dX7_count_3 0 q1 (by decide) (by decide) rfl (by decide) ?_
    have h := hq1 q1
    refine z_aload_n 1 dX7_count_44 rfl ?_
    obtain ⟨q2, h⟩ := h
    refine z_getI fl_X7_93 dX7_count_45 q2 ?_
    exact z_iret hr dX7_count_48 (Nat.le_of_ble_eq_true rfl) (Nat.le_of_ble_eq_true rfl) ⟨_, rfl, h⟩
  obtain ⟨hq3, h⟩ := h
  by_cases q3 : x1 = 1
  · refine z_tableIn (tgt := 49) dX7_count_3 1 q3 (by decide) (by decide) rfl (by decide) ?_
    have h := hq3 q3
    refine z_aload_n 1 dX7_count_49 rfl ?_
    obtain ⟨q4, h⟩ := h
    refine z_getI fl_X7_82 dX7_count_50 q4 ?_
    exact z_iret hr dX7_count_53 (Nat.le_of_ble_eq_true rfl) (Nat.le_of_ble_eq_true rfl) ⟨_, rfl, h⟩
  obtain ⟨hq5, h⟩ := h
  by_cases q5 : x1 = 2
  · refine z_tableIn (tgt := 54) dX7_count_3 2 q5 (by decide) (by decide) rfl (by decide) ?_
    have h := hq5 q5
    refine z_aload_n 1 dX7_count_54 rfl ?_
    obtain ⟨q6, h⟩ := h
    refine z_getI fl_X7_74 dX7_count_55 q6 ?_
    exact z_iret hr dX7_count_58 (Nat.le_of_ble_eq_true rfl) (Nat.le_of_ble_eq_true rfl) ⟨_, rfl, h⟩
  obtain ⟨hq7, h⟩ := h
  by_cases q7 : x1 = 3
  · refine z_tableIn (tgt := 59) dX7_count_3 3 q7 (by decide) (by decide) rfl (by decide) ?_
    have h := hq7 q7
    refine z_iconst dX7_count_59 (by decide) ?_
    refine z_istore_n dX7_count_60 (by decide) rfl ?_
    exact z_sub [2, 3, 1, 0] rfl h
  obtain ⟨hq8, h⟩ := h
  by_cases q8 : x1 = 4
  · refine z_tableIn (tgt := 93) dX7_count_3 4 q8 (by decide) (by decide) rfl (by decide) ?_
    have h := hq8 q8
    refine z_iconst dX7_count_93 (by decide) ?_
    refine z_istore_n dX7_count_94 (by decide) rfl ?_
    exact z_sub [2, 3, 1, 0] rfl h
  obtain ⟨hq9, h⟩ := h
  by_cases q9 : x1 = 5
  · refine z_tableIn (tgt := 127) dX7_count_3 5 q9 (by decide) (by decide) rfl (by decide) ?_
    have h := hq9 q9
    refine z_aload_n 1 dX7_count_127 rfl ?_
    obtain ⟨q10, h⟩ := h
    refine z_getI fl_X7_85 dX7_count_128 q10 ?_
    exact z_iret hr dX7_count_131 (Nat.le_of_ble_eq_true rfl) (Nat.le_of_ble_eq_true rfl) ⟨_, rfl, h⟩
  obtain ⟨hq11, h⟩ := h
  by_cases q11 : x1 = 6
  · refine z_tableIn (tgt := 132) dX7_count_3 6 q11 (by decide) (by decide) rfl (by decide) ?_
    have h := hq11 q11
    refine z_aload_n 1 dX7_count_132 rfl ?_
    obtain ⟨q17, h⟩ := h
    obtain ⟨P12, c13, h⟩ := h
    refine z_Vi (as := []) mv_X7_132 dX7_count_133 c13 q17 rfl rfl (Nat.le_of_ble_eq_true rfl) (Nat.le_of_ble_eq_true rfl) (Nat.le_of_ble_eq_true rfl) (fun r15 M14 p16 => ?_)
    have h := h r15 M14 p16
    exact z_iret hr dX7_count_136 (Nat.le_of_ble_eq_true rfl) (Nat.le_of_ble_eq_true rfl) ⟨_, rfl, h⟩
  have ho18 := zo_0_6 x1 q1 q3 q5 q7 q8 q9 q11
  refine z_tableOut (tgt := 137) dX7_count_3 ho18 (by decide) ?_
  have h := h ho18
  refine z_iconst dX7_count_137 (by decide) ?_
  exact z_iret hr dX7_count_138 (Nat.le_of_ble_eq_true rfl) (Nat.le_of_ble_eq_true rfl) ⟨_, rfl, h⟩
set_option maxRecDepth 20000 in
theorem vX7_count_61 {E : zE} {d : Nat} {X : zX} {P : Int → zM → Prop} {M : zM} (hr : (xh X).sig.returnType = (some .int)) (a0 : Nat) (x1 : Int) (x2 : Int) (x3 : Int)
    (h : zK M a0 = (8, 25) ∧ (((zI M a0 8) ≤ x3 → P x2 M) ∧ (x3 < (zI M a0 8) → zK M a0 = (8, 25) ∧ ∃ P3 : Int → zM → Prop, zCi E mX7_isPut d 0 0 [vR (some a0), vI x3] M P3 ∧ ∀ r6 M5, P3 r6 M5 → ((r6 = 0 → zin (x2 + 1) ∧ zin (x3 + 1) ∧ ZX7_count E d X P 61 [(0, vR (some a0)), (1, vI x1), (2, vI (x2 + 1)), (3, vI (x3 + 1))] [] M5 0 0) ∧ (r6 ≠ 0 → zin (x2 + 0) ∧ zin (x3 + 1) ∧ ZX7_count E d X P 61 [(0, vR (some a0)), (1, vI x1), (2, vI (x2 + 0)), (3, vI (x3 + 1))] [] M5 0 0))))) :
    ZX7_count E d X P 61 [(0, vR (some a0)), (1, vI x1), (2, vI x2), (3, vI x3)] [] M 0 0 := by
  refine z_iload_n 3 dX7_count_61 rfl ?_
  refine z_aload_n 0 dX7_count_62 rfl ?_
  obtain ⟨q1, h⟩ := h
  refine z_getI fl_X7_74 dX7_count_63 q1 ?_
  refine z_icmp_ge (tgt := 91) dX7_count_66 (by decide) (fun q2 => ?_) (fun q2 => ?_)
  · have h := h.1 q2
    refine z_iload_n 2 dX7_count_91 rfl ?_
    exact z_iret hr dX7_count_92 (Nat.le_of_ble_eq_true rfl) (Nat.le_of_ble_eq_true rfl) ⟨_, rfl, h⟩
  · have h := h.2 q2
    refine z_iload_n 2 dX7_count_69 rfl ?_
    refine z_aload_n 0 dX7_count_70 rfl ?_
    refine z_iload_n 3 dX7_count_71 rfl ?_
    obtain ⟨q8, h⟩ := h
    obtain ⟨P3, c4, h⟩ := h
    refine z_Vi (as := [vI x3]) mv_X7_89 dX7_count_72 c4 q8 rfl rfl (Nat.le_of_ble_eq_true rfl) (Nat.le_of_ble_eq_true rfl) (Nat.le_of_ble_eq_true rfl) (fun r6 M5 p7 => ?_)
    have h := h r6 M5 p7
    refine z_if_eq (tgt := 82) dX7_count_75 (by decide) (fun q9 => ?_) (fun q9 => ?_)
    · have h := h.1 q9
      refine z_iconst dX7_count_82 (by decide) ?_
      obtain ⟨q10, h⟩ := h
      refine z_iadd dX7_count_83 q10 ?_
      refine z_istore_n dX7_count_84 (by decide) rfl ?_
      obtain ⟨q11, h⟩ := h
      refine z_iinc 3 dX7_count_85 rfl (by decide) q11 rfl ?_
      refine z_goto (tgt := 61) dX7_count_88 (by decide) ?_
      exact z_sub [2, 3, 1, 0] rfl h
    · have h := h.2 q9
      refine z_iconst dX7_count_78 (by decide) ?_
      refine z_goto (tgt := 83) dX7_count_79 (by decide) ?_
      obtain ⟨q12, h⟩ := h
      refine z_iadd dX7_count_83 q12 ?_
      refine z_istore_n dX7_count_84 (by decide) rfl ?_
      obtain ⟨q13, h⟩ := h
      refine z_iinc 3 dX7_count_85 rfl (by decide) q13 rfl ?_
      refine z_goto (tgt := 61) dX7_count_88 (by decide) ?_
      exact z_sub [2, 3, 1, 0] rfl h
set_option maxRecDepth 20000 in
theorem vX7_count_95 {E : zE} {d : Nat} {X : zX} {P : Int → zM → Prop} {M : zM} (hr : (xh X).sig.returnType = (some .int)) (a0 : Nat) (x1 : Int) (x2 : Int) (x3 : Int)
    (h : zK M a0 = (8, 25) ∧ (((zI M a0 8) ≤ x3 → P x2 M) ∧ (x3 < (zI M a0 8) → zK M a0 = (8, 25) ∧ ∃ P3 : Int → zM → Prop, zCi E mX7_isDone d 0 0 [vR (some a0), vI x3] M P3 ∧ ∀ r6 M5, P3 r6 M5 → ((r6 = 0 → zin (x2 + 0) ∧ zin (x3 + 1) ∧ ZX7_count E d X P 95 [(0, vR (some a0)), (1, vI x1), (2, vI (x2 + 0)), (3, vI (x3 + 1))] [] M5 0 0) ∧ (r6 ≠ 0 → zin (x2 + 1) ∧ zin (x3 + 1) ∧ ZX7_count E d X P 95 [(0, vR (some a0)), (1, vI x1), (2, vI (x2 + 1)), (3, vI (x3 + 1))] [] M5 0 0))))) :
    ZX7_count E d X P 95 [(0, vR (some a0)), (1, vI x1), (2, vI x2), (3, vI x3)] [] M 0 0 := by
  refine z_iload_n 3 dX7_count_95 rfl ?_
  refine z_aload_n 0 dX7_count_96 rfl ?_
  obtain ⟨q1, h⟩ := h
  refine z_getI fl_X7_74 dX7_count_97 q1 ?_
  refine z_icmp_ge (tgt := 125) dX7_count_100 (by decide) (fun q2 => ?_) (fun q2 => ?_)
  · have h := h.1 q2
    refine z_iload_n 2 dX7_count_125 rfl ?_
    exact z_iret hr dX7_count_126 (Nat.le_of_ble_eq_true rfl) (Nat.le_of_ble_eq_true rfl) ⟨_, rfl, h⟩
  · have h := h.2 q2
    refine z_iload_n 2 dX7_count_103 rfl ?_
    refine z_aload_n 0 dX7_count_104 rfl ?_
    refine z_iload_n 3 dX7_count_105 rfl ?_
    obtain ⟨q8, h⟩ := h
    obtain ⟨P3, c4, h⟩ := h
    refine z_Vi (as := [vI x3]) mv_X7_148 dX7_count_106 c4 q8 rfl rfl (Nat.le_of_ble_eq_true rfl) (Nat.le_of_ble_eq_true rfl) (Nat.le_of_ble_eq_true rfl) (fun r6 M5 p7 => ?_)
    have h := h r6 M5 p7
    refine z_if_eq (tgt := 116) dX7_count_109 (by decide) (fun q9 => ?_) (fun q9 => ?_)
    · have h := h.1 q9
      refine z_iconst dX7_count_116 (by decide) ?_
      obtain ⟨q10, h⟩ := h
      refine z_iadd dX7_count_117 q10 ?_
      refine z_istore_n dX7_count_118 (by decide) rfl ?_
      obtain ⟨q11, h⟩ := h
      refine z_iinc 3 dX7_count_119 rfl (by decide) q11 rfl ?_
      refine z_goto (tgt := 95) dX7_count_122 (by decide) ?_
      exact z_sub [2, 3, 1, 0] rfl h
    · have h := h.2 q9
      refine z_iconst dX7_count_112 (by decide) ?_
      refine z_goto (tgt := 117) dX7_count_113 (by decide) ?_
      obtain ⟨q12, h⟩ := h
      refine z_iadd dX7_count_117 q12 ?_
      refine z_istore_n dX7_count_118 (by decide) rfl ?_
      obtain ⟨q13, h⟩ := h
      refine z_iinc 3 dX7_count_119 rfl (by decide) q13 rfl ?_
      refine z_goto (tgt := 95) dX7_count_122 (by decide) ?_
      exact z_sub [2, 3, 1, 0] rfl h
theorem sX7_count {E : zE} {d : Nat} {P : Int → zM → Prop} {M : zM} (a0 : Nat) (x1 : Int) (h : ∀ X : zX, (xh X).sig.returnType = (some .int) → ZX7_count E d X P 0 [(0, vR (some a0)), (1, vI x1)] [] M 0 0) : zCi E mX7_count (d + 1) 0 0 [vR (some a0), vI x1] M P := z_start (f := mX7_count) rfl (Nat.le_of_ble_eq_true rfl) rfl h
