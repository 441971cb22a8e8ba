abbrev ZX7_fail (E : zE) (d : Nat) (X : zX) (P : Int → zM → Prop) (pc : Nat) (Lc : List (Nat × zV)) (S : List zV) (M : zM) (ce sl : Nat) : Prop := zZ cX7_fail RX7 "fail" 6 E (zrm (d + 1) 1 40) X (zQ E (zPi P) X 1 40) pc Lc S M ce sl
set_option maxRecDepth 20000 in
theorem vX7_fail_0 {E : zE} {d : Nat} {X : zX} {P : Int → zM → Prop} {M : zM} (hr : (xh X).sig.returnType = (some .int)) (a0 : Nat) (x1 : Int)
    (h : zK M a0 = (8, 25) ∧ ∃ P1 : Int → zM → Prop, zCi E mX7_isWork d 0 0 [vR (some a0), vI x1] M P1 ∧ ∀ r4 M3, P1 r4 M3 → ((r4 = 0 → P (-1) M3) ∧ (r4 ≠ 0 → zK M3 a0 = (8, 25) ∧ ∃ b9, zR M3 a0 13 = some b9 ∧ (zK M3 b9).1 = 9 ∧ 0 ≤ x1 ∧ x1 < ((zK M3 b9).2 : Int) ∧ (((zI M3 b9 x1) ≠ 4 → P (-1) M3) ∧ ((zI M3 b9 x1) = 4 → zK M3 a0 = (8, 25) ∧ ∃ P14 : Int → zM → Prop, zCi E mX7_isDone d 0 0 [vR (some a0), vI x1] M3 P14 ∧ ∀ r17 M16, P14 r17 M16 → ((r17 ≠ 0 → ∀ M21, M21 = znew M16 10 40 → ZX7_fail E d X P 35 [(0, vR (some a0)), (1, vI x1), (2, vR (some (zsz M16))), (3, vI 0)] [] M21 1 40) ∧ (r17 = 0 → P (-1) M16))))))) :
    ZX7_fail E d X P 0 [(0, vR (some a0)), (1, vI x1)] [] M 0 0 := by
  refine z_aload_n 0 dX7_fail_0 rfl ?_
  refine z_iload_n 1 dX7_fail_1 rfl ?_
  obtain ⟨q6, h⟩ := h
  obtain ⟨P1, c2, h⟩ := h
  refine z_Vi (as := [vI x1]) mv_X7_100 dX7_fail_2 c2 q6 rfl rfl (Nat.le_of_ble_eq_true rfl) (Nat.le_of_ble_eq_true rfl) (Nat.le_of_ble_eq_true rfl) (fun r4 M3 p5 => ?_)
  have h := h r4 M3 p5
  refine z_if_eq (tgt := 26) dX7_fail_5 (by decide) (fun q7 => ?_) (fun q7 => ?_)
  · have h := h.1 q7
    refine z_iconst dX7_fail_26 (by decide) ?_
    exact z_iret hr dX7_fail_27 (Nat.le_of_ble_eq_true rfl) (Nat.le_of_ble_eq_true rfl) ⟨_, rfl, h⟩
  · have h := h.2 q7
    refine z_aload_n 0 dX7_fail_8 rfl ?_
    obtain ⟨q8, h⟩ := h
    refine z_getR fl_X7_38 rfl dX7_fail_9 q8 ?_
    refine z_iload_n 1 dX7_fail_12 rfl ?_
    obtain ⟨b9, eb9, h⟩ := h
    rw [eb9]
    obtain ⟨q10, h⟩ := h
    obtain ⟨q11, h⟩ := h
    obtain ⟨q12, h⟩ := h
    refine z_iald dX7_fail_13 (n := (zK M3 b9).2) (Prod.ext q10 rfl) q11 q12 ?_
    refine z_iconst dX7_fail_14 (by decide) ?_
    refine z_icmp_ne (tgt := 26) dX7_fail_15 (by decide) (fun q13 => ?_) (fun q13 => ?_)
    · have h := h.1 q13
      refine z_iconst dX7_fail_26 (by decide) ?_
      exact z_iret hr dX7_fail_27 (Nat.le_of_ble_eq_true rfl) (Nat.le_of_ble_eq_true rfl) ⟨_, rfl, h⟩
    · have h := h.2 q13
      refine z_aload_n 0 dX7_fail_18 rfl ?_
      refine z_iload_n 1 dX7_fail_19 rfl ?_
      obtain ⟨q19, h⟩ := h
      obtain ⟨P14, c15, h⟩ := h
      refine z_Vi (as := [vI x1]) mv_X7_148 dX7_fail_20 c15 q19 rfl rfl (Nat.le_of_ble_eq_true rfl) (Nat.le_of_ble_eq_true rfl) (Nat.le_of_ble_eq_true rfl) (fun r17 M16 p18 => ?_)
      have h := h r17 M16 p18
      refine z_if_ne (tgt := 28) dX7_fail_23 (by decide) (fun q20 => ?_) (fun q20 => ?_)
      · have h := h.1 q20
        refine z_bipush dX7_fail_28 (by decide) ?_
        refine z_newa (at_ := .boolean) (tg := 10) (n := 40) (by simp) kw_760 dX7_fail_30 rfl (by decide) (Nat.le_of_ble_eq_true rfl) (Nat.le_of_ble_eq_true rfl) ?_
        obtain ⟨M21, hmM21⟩ : ∃ z, z = znew M16 10 40 := ⟨_, rfl⟩
        rw [← hmM21]
        have h := h M21 hmM21
        refine z_astore_n dX7_fail_32 (by decide) rfl ?_
        refine z_iconst dX7_fail_33 (by decide) ?_
        refine z_istore_n dX7_fail_34 (by decide) rfl ?_
        exact z_sub [2, 3, 1, 0] rfl h
      · have h := h.2 q20
        refine z_iconst dX7_fail_26 (by decide) ?_
        exact z_iret hr dX7_fail_27 (Nat.le_of_ble_eq_true rfl) (Nat.le_of_ble_eq_true rfl) ⟨_, rfl, h⟩
set_option maxRecDepth 20000 in
theorem vX7_fail_35 {E : zE} {d : Nat} {X : zX} {P : Int → zM → Prop} {M : zM} (hr : (xh X).sig.returnType = (some .int)) (a0 : Nat) (x1 : Int) (g2 : Option Nat) (x3 : Int)
    (h : zK M a0 = (8, 25) ∧ (((zI M a0 8) ≤ x3 → ZX7_fail E d X P 86 [(0, vR (some a0)), (1, vI x1), (2, vR g2), (3, vI 1)] [] M 1 40) ∧ (x3 < (zI M a0 8) → zK M a0 = (8, 25) ∧ ∃ P3 : Int → zM → Prop, zCi E mX7_isDone d 0 0 [vR (some a0), vI x3] M P3 ∧ ∀ r6 M5, P3 r6 M5 → ((r6 = 0 → ∃ b10, g2 = some b10 ∧ (zK M5 b10).1 = 10 ∧ 0 ≤ x3 ∧ x3 < ((zK M5 b10).2 : Int) ∧ ∀ M14, M14 = zsI M5 b10 x3 0 → zin (x3 + 1) ∧ ZX7_fail E d X P 35 [(0, vR (some a0)), (1, vI x1), (2, vR (some b10)), (3, vI (x3 + 1))] [] M14 1 40) ∧ (r6 ≠ 0 → ((x3 = x1 → ∃ b17, g2 = some b17 ∧ (zK M5 b17).1 = 10 ∧ 0 ≤ x3 ∧ x3 < ((zK M5 b17).2 : Int) ∧ ∀ M21, M21 = zsI M5 b17 x3 1 → zin (x3 + 1) ∧ ZX7_fail E d X P 35 [(0, vR (some a0)), (1, vI x1), (2, vR (some b17)), (3, vI (x3 + 1))] [] M21 1 40) ∧ (x3 ≠ x1 → zK M5 a0 = (8, 25) ∧ zin (40 * x1) ∧ zin ((40 * x1) + x3) ∧ ∃ b26, zR M5 a0 18 = some b26 ∧ (zK M5 b26).1 = 10 ∧ 0 ≤ ((40 * x1) + x3) ∧ ((40 * x1) + x3) < ((zK M5 b26).2 : Int) ∧ (((zI M5 b26 ((40 * x1) + x3)) = 0 → ∃ b31, g2 = some b31 ∧ (zK M5 b31).1 = 10 ∧ 0 ≤ x3 ∧ x3 < ((zK M5 b31).2 : Int) ∧ ∀ M35, M35 = zsI M5 b31 x3 0 → zin (x3 + 1) ∧ ZX7_fail E d X P 35 [(0, vR (some a0)), (1, vI x1), (2, vR (some b31)), (3, vI (x3 + 1))] [] M35 1 40) ∧ ((zI M5 b26 ((40 * x1) + x3)) ≠ 0 → ∃ b37, g2 = some b37 ∧ (zK M5 b37).1 = 10 ∧ 0 ≤ x3 ∧ x3 < ((zK M5 b37).2 : Int) ∧ ∀ M41, M41 = zsI M5 b37 x3 1 → zin (x3 + 1) ∧ ZX7_fail E d X P 35 [(0, vR (some a0)), (1, vI x1), (2, vR (some b37)), (3, vI (x3 + 1))] [] M41 1 40))))))))) :
    ZX7_fail E d X P 35 [(0, vR (some a0)), (1, vI x1), (2, vR g2), (3, vI x3)] [] M 1 40 := by
  refine z_iload_n 3 dX7_fail_35 rfl ?_
  refine z_aload_n 0 dX7_fail_36 rfl ?_
  obtain ⟨q1, h⟩ := h
  refine z_getI fl_X7_74 dX7_fail_37 q1 ?_
  refine z_icmp_ge (tgt := 84) dX7_fail_40 (by decide) (fun q2 => ?_) (fun q2 => ?_)
  · have h := h.1 q2
    refine z_iconst dX7_fail_84 (by decide) ?_
    refine z_istore_n dX7_fail_85 (by decide) rfl ?_
    exact z_sub [1, 2, 3, 0] rfl h
  · have h := h.2 q2
    refine z_aload_n 2 dX7_fail_43 rfl ?_
    refine z_iload_n 3 dX7_fail_44 rfl ?_
    refine z_aload_n 0 dX7_fail_45 rfl ?_
    refine z_iload_n 3 dX7_fail_46 rfl ?_
    obtain ⟨q8, h⟩ := h
    obtain ⟨P3, c4, h⟩ := h
    refine z_Vi (as := [vI x3]) mv_X7_148 dX7_fail_47 c4 q8 rfl rfl (Nat.le_of_ble_eq_true rfl) (Nat.le_of_ble_eq_true rfl) (Nat.le_of_ble_eq_true rfl) (fun r6 M5 p7 => ?_)
    have h := h r6 M5 p7
    refine z_if_eq (tgt := 76) dX7_fail_50 (by decide) (fun q9 => ?_) (fun q9 => ?_)
    · have h := h.1 q9
      refine z_iconst dX7_fail_76 (by decide) ?_
      obtain ⟨b10, eb10, h⟩ := h
      rw [eb10]
      obtain ⟨q11, h⟩ := h
      obtain ⟨q12, h⟩ := h
      obtain ⟨q13, h⟩ := h
      refine z_bast dX7_fail_77 (n := (zK M5 b10).2) (Prod.ext q11 rfl) q12 q13 (by decide) ?_
      obtain ⟨M14, hmM14⟩ : ∃ z, z = zsI M5 b10 x3 0 := ⟨_, rfl⟩
      rw [← hmM14]
      have h := h M14 hmM14
      obtain ⟨q15, h⟩ := h
      refine z_iinc 3 dX7_fail_78 rfl (by decide) q15 rfl ?_
      refine z_goto (tgt := 35) dX7_fail_81 (by decide) ?_
      exact z_sub [1, 2, 3, 0] rfl h
    · have h := h.2 q9
      refine z_iload_n 3 dX7_fail_53 rfl ?_
      refine z_iload_n 1 dX7_fail_54 rfl ?_
      refine z_icmp_eq (tgt := 72) dX7_fail_55 (by decide) (fun q16 => ?_) (fun q16 => ?_)
      · have h := h.1 q16
        refine z_iconst dX7_fail_72 (by decide) ?_
        refine z_goto (tgt := 77) dX7_fail_73 (by decide) ?_
        obtain ⟨b17, eb17, h⟩ := h
        rw [eb17]
        obtain ⟨q18, h⟩ := h
        obtain ⟨q19, h⟩ := h
        obtain ⟨q20, h⟩ := h
        refine z_bast dX7_fail_77 (n := (zK M5 b17).2) (Prod.ext q18 rfl) q19 q20 (by decide) ?_
        obtain ⟨M21, hmM21⟩ : ∃ z, z = zsI M5 b17 x3 1 := ⟨_, rfl⟩
        rw [← hmM21]
        have h := h M21 hmM21
        obtain ⟨q22, h⟩ := h
        refine z_iinc 3 dX7_fail_78 rfl (by decide) q22 rfl ?_
        refine z_goto (tgt := 35) dX7_fail_81 (by decide) ?_
        exact z_sub [1, 2, 3, 0] rfl h
      · have h := h.2 q16
        refine z_aload_n 0 dX7_fail_58 rfl ?_
        obtain ⟨q23, h⟩ := h
        refine z_getR fl_X7_53 rfl dX7_fail_59 q23 ?_
        refine z_bipush dX7_fail_62 (by decide) ?_
        refine z_iload_n 1 dX7_fail_64 rfl ?_
        obtain ⟨q24, h⟩ := h
        refine z_imul dX7_fail_65 q24 ?_
        refine z_iload_n 3 dX7_fail_66 rfl ?_
        obtain ⟨q25, h⟩ := h
        refine z_iadd dX7_fail_67 q25 ?_
        obtain ⟨b26, eb26, h⟩ := h
        rw [eb26]
        obtain ⟨q27, h⟩ := h
        obtain ⟨q28, h⟩ := h
        obtain ⟨q29, h⟩ := h
        refine z_bald dX7_fail_68 (n := (zK M5 b26).2) (Prod.ext q27 rfl) q28 q29 ?_
        refine z_if_eq (tgt := 76) dX7_fail_69 (by decide) (fun q30 => ?_) (fun q30 => ?_)
        · have h := h.1 q30
          refine z_iconst dX7_fail_76 (by decide) ?_
          obtain ⟨b31, eb31, h⟩ := h
          rw [eb31]
          obtain ⟨q32, h⟩ := h
          obtain ⟨q33, h⟩ := h
          obtain ⟨q34, h⟩ := h
          refine z_bast dX7_fail_77 (n := (zK M5 b31).2) (Prod.ext q32 rfl) q33 q34 (by decide) ?_
          obtain ⟨M35, hmM35⟩ : ∃ z, z = zsI M5 b31 x3 0 := ⟨_, rfl⟩
          rw [← hmM35]
          have h := h M35 hmM35
          obtain ⟨q36, h⟩ := h
          refine z_iinc 3 dX7_fail_78 rfl (by decide) q36 rfl ?_
          refine z_goto (tgt := 35) dX7_fail_81 (by decide) ?_
          exact z_sub [1, 2, 3, 0] rfl h
        · have h := h.2 q30
          refine z_iconst dX7_fail_72 (by decide) ?_
          refine z_goto (tgt := 77) dX7_fail_73 (by decide) ?_
          obtain ⟨b37, eb37, h⟩ := h
          rw [eb37]
          obtain ⟨q38, h⟩ := h
          obtain ⟨q39, h⟩ := h
          obtain ⟨q40, h⟩ := h
          refine z_bast dX7_fail_77 (n := (zK M5 b37).2) (Prod.ext q38 rfl) q39 q40 (by decide) ?_
          obtain ⟨M41, hmM41⟩ : ∃ z, z = zsI M5 b37 x3 1 := ⟨_, rfl⟩
          rw [← hmM41]
          have h := h M41 hmM41
          obtain ⟨q42, h⟩ := h
          refine z_iinc 3 dX7_fail_78 rfl (by decide) q42 rfl ?_
          refine z_goto (tgt := 35) dX7_fail_81 (by decide) ?_
          exact z_sub [1, 2, 3, 0] rfl h
set_option maxRecDepth 20000 in
theorem vX7_fail_86 {E : zE} {d : Nat} {X : zX} {P : Int → zM → Prop} {M : zM} (hr : (xh X).sig.returnType = (some .int)) (a0 : Nat) (x1 : Int) (g2 : Option Nat) (x3 : Int)
    (h : ((x3 = 0 → ZX7_fail E d X P 186 [(0, vR (some a0)), (1, vI x1), (2, vR g2), (3, vI x3), (4, vI 0), (5, vI 0)] [] M 1 40) ∧ (x3 ≠ 0 → ZX7_fail E d X P 95 [(0, vR (some a0)), (1, vI x1), (2, vR g2), (3, vI 0), (4, vI 0)] [] M 1 40))) :
    ZX7_fail E d X P 86 [(0, vR (some a0)), (1, vI x1), (2, vR g2), (3, vI x3)] [] M 1 40 := by
  refine z_iload_n 3 dX7_fail_86 rfl ?_
  refine z_if_eq (tgt := 180) dX7_fail_87 (by decide) (fun q1 => ?_) (fun q1 => ?_)
  · have h := h.1 q1
    refine z_iconst dX7_fail_180 (by decide) ?_
    refine z_istore dX7_fail_181 (by decide) rfl ?_
    refine z_iconst dX7_fail_183 (by decide) ?_
    refine z_istore dX7_fail_184 (by decide) rfl ?_
    exact z_sub [2, 3, 4, 5, 1, 0] rfl h
  · have h := h.2 q1
    refine z_iconst dX7_fail_90 (by decide) ?_
    refine z_istore_n dX7_fail_91 (by decide) rfl ?_
    refine z_iconst dX7_fail_92 (by decide) ?_
    refine z_istore dX7_fail_93 (by decide) rfl ?_
    exact z_sub [2, 3, 4, 1, 0] rfl h
set_option maxRecDepth 20000 in
theorem vX7_fail_95 {E : zE} {d : Nat} {X : zX} {P : Int → zM → Prop} {M : zM} (hr : (xh X).sig.returnType = (some .int)) (a0 : Nat) (x1 : Int) (g2 : Option Nat) (x3 : Int) (x4 : Int)
    (h : zK M a0 = (8, 25) ∧ (((zI M a0 8) ≤ x4 → ZX7_fail E d X P 86 [(0, vR (some a0)), (1, vI x1), (2, vR g2), (3, vI x3)] [] M 1 40) ∧ (x4 < (zI M a0 8) → ZX7_fail E d X P 107 [(0, vR (some a0)), (1, vI x1), (2, vR g2), (3, vI x3), (4, vI x4), (5, vI 0)] [] M 1 40))) :
    ZX7_fail E d X P 95 [(0, vR (some a0)), (1, vI x1), (2, vR g2), (3, vI x3), (4, vI x4)] [] M 1 40 := by
  refine z_iload 4 dX7_fail_95 rfl ?_
  refine z_aload_n 0 dX7_fail_97 rfl ?_
  obtain ⟨q1, h⟩ := h
  refine z_getI fl_X7_74 dX7_fail_98 q1 ?_
  refine z_icmp_ge (tgt := 177) dX7_fail_101 (by decide) (fun q2 => ?_) (fun q2 => ?_)
  · have h := h.1 q2
    refine z_goto (tgt := 86) dX7_fail_177 (by decide) ?_
    exact z_sub [0, 1, 2, 3] rfl h
  · have h := h.2 q2
    refine z_iconst dX7_fail_104 (by decide) ?_
    refine z_istore dX7_fail_105 (by decide) rfl ?_
    exact z_sub [1, 2, 3, 4, 5, 0] rfl h
set_option maxRecDepth 20000 in
theorem vX7_fail_107 {E : zE} {d : Nat} {X : zX} {P : Int → zM → Prop} {M : zM} (hr : (xh X).sig.returnType = (some .int)) (a0 : Nat) (x1 : Int) (g2 : Option Nat) (x3 : Int) (x4 : Int) (x5 : Int)
    (h : zK M a0 = (8, 25) ∧ (((zI M a0 8) ≤ x5 → zin (x4 + 1) ∧ ZX7_fail E d X P 95 [(0, vR (some a0)), (1, vI x1), (2, vR g2), (3, vI x3), (4, vI (x4 + 1))] [] M 1 40) ∧ (x5 < (zI M a0 8) → ∃ b4, g2 = some b4 ∧ (zK M b4).1 = 10 ∧ 0 ≤ x4 ∧ x4 < ((zK M b4).2 : Int) ∧ (((zI M b4 x4) ≠ 0 → zin (x4 + 1) ∧ ZX7_fail E d X P 95 [(0, vR (some a0)), (1, vI x1), (2, vR (some b4)), (3, vI x3), (4, vI (x4 + 1))] [] M 1 40) ∧ ((zI M b4 x4) = 0 → zK M a0 = (8, 25) ∧ ∃ P10 : Int → zM → Prop, zCi E mX7_isDone d 0 0 [vR (some a0), vI x4] M P10 ∧ ∀ r13 M12, P10 r13 M12 → ((r13 = 0 → zin (x4 + 1) ∧ ZX7_fail E d X P 95 [(0, vR (some a0)), (1, vI x1), (2, vR (some b4)), (3, vI x3), (4, vI (x4 + 1))] [] M12 1 40) ∧ (r13 ≠ 0 → (zK M12 b4).1 = 10 ∧ 0 ≤ x5 ∧ x5 < ((zK M12 b4).2 : Int) ∧ (((zI M12 b4 x5) = 0 → zin (x5 + 1) ∧ ZX7_fail E d X P 107 [(0, vR (some a0)), (1, vI x1), (2, vR (some b4)), (3, vI x3), (4, vI x4), (5, vI (x5 + 1))] [] M12 1 40) ∧ ((zI M12 b4 x5) ≠ 0 → zK M12 a0 = (8, 25) ∧ zin (40 * x4) ∧ zin ((40 * x4) + x5) ∧ ∃ b26, zR M12 a0 17 = some b26 ∧ (zK M12 b26).1 = 10 ∧ 0 ≤ ((40 * x4) + x5) ∧ ((40 * x4) + x5) < ((zK M12 b26).2 : Int) ∧ (((zI M12 b26 ((40 * x4) + x5)) ≠ 0 → (zK M12 b4).1 = 10 ∧ 0 ≤ x4 ∧ x4 < ((zK M12 b4).2 : Int) ∧ ∀ M34, M34 = zsI M12 b4 x4 1 → zin (x5 + 1) ∧ ZX7_fail E d X P 107 [(0, vR (some a0)), (1, vI x1), (2, vR (some b4)), (3, vI 1), (4, vI x4), (5, vI (x5 + 1))] [] M34 1 40) ∧ ((zI M12 b26 ((40 * x4) + x5)) = 0 → zin (x5 + 1) ∧ ZX7_fail E d X P 107 [(0, vR (some a0)), (1, vI x1), (2, vR (some b4)), (3, vI x3), (4, vI x4), (5, vI (x5 + 1))] [] M12 1 40))))))))))) :
    ZX7_fail E d X P 107 [(0, vR (some a0)), (1, vI x1), (2, vR g2), (3, vI x3), (4, vI x4), (5, vI x5)] [] M 1 40 := by
  refine z_iload 5 dX7_fail_107 rfl ?_
  refine z_aload_n 0 dX7_fail_109 rfl ?_
  obtain ⟨q1, h⟩ := h
  refine z_getI fl_X7_74 dX7_fail_110 q1 ?_
  refine z_icmp_ge (tgt := 171) dX7_fail_113 (by decide) (fun q2 => ?_) (fun q2 => ?_)
  · have h := h.1 q2
    obtain ⟨q3, h⟩ := h
    refine z_iinc 4 dX7_fail_171 rfl (by decide) q3 rfl ?_
    refine z_goto (tgt := 95) dX7_fail_174 (by decide) ?_
    exact z_sub [1, 2, 3, 4, 0] rfl h
  · have h := h.2 q2
    refine z_aload_n 2 dX7_fail_116 rfl ?_
    refine z_iload 4 dX7_fail_117 rfl ?_
    obtain ⟨b4, eb4, h⟩ := h
    rw [eb4]
    obtain ⟨q5, h⟩ := h
    obtain ⟨q6, h⟩ := h
    obtain ⟨q7, h⟩ := h
    refine z_bald dX7_fail_119 (n := (zK M b4).2) (Prod.ext q5 rfl) q6 q7 ?_
    refine z_if_ne (tgt := 171) dX7_fail_120 (by decide) (fun q8 => ?_) (fun q8 => ?_)
    · have h := h.1 q8
      obtain ⟨q9, h⟩ := h
      refine z_iinc 4 dX7_fail_171 rfl (by decide) q9 rfl ?_
      refine z_goto (tgt := 95) dX7_fail_174 (by decide) ?_
      exact z_sub [1, 2, 3, 4, 0] rfl h
    · have h := h.2 q8
      refine z_aload_n 0 dX7_fail_123 rfl ?_
      refine z_iload 4 dX7_fail_124 rfl ?_
      obtain ⟨q15, h⟩ := h
      obtain ⟨P10, c11, h⟩ := h
      refine z_Vi (as := [vI x4]) mv_X7_148 dX7_fail_126 c11 q15 rfl rfl (Nat.le_of_ble_eq_true rfl) (Nat.le_of_ble_eq_true rfl) (Nat.le_of_ble_eq_true rfl) (fun r13 M12 p14 => ?_)
      have h := h r13 M12 p14
      refine z_if_eq (tgt := 171) dX7_fail_129 (by decide) (fun q16 => ?_) (fun q16 => ?_)
      · have h := h.1 q16
        obtain ⟨q17, h⟩ := h
        refine z_iinc 4 dX7_fail_171 rfl (by decide) q17 rfl ?_
        refine z_goto (tgt := 95) dX7_fail_174 (by decide) ?_
        exact z_sub [1, 2, 3, 4, 0] rfl h
      · have h := h.2 q16
        refine z_aload_n 2 dX7_fail_132 rfl ?_
        refine z_iload 5 dX7_fail_133 rfl ?_
        obtain ⟨q18, h⟩ := h
        obtain ⟨q19, h⟩ := h
        obtain ⟨q20, h⟩ := h
        refine z_bald dX7_fail_135 (n := (zK M12 b4).2) (Prod.ext q18 rfl) q19 q20 ?_
        refine z_if_eq (tgt := 165) dX7_fail_136 (by decide) (fun q21 => ?_) (fun q21 => ?_)
        · have h := h.1 q21
          obtain ⟨q22, h⟩ := h
          refine z_iinc 5 dX7_fail_165 rfl (by decide) q22 rfl ?_
          refine z_goto (tgt := 107) dX7_fail_168 (by decide) ?_
          exact z_sub [1, 2, 3, 4, 5, 0] rfl h
        · have h := h.2 q21
          refine z_aload_n 0 dX7_fail_139 rfl ?_
          obtain ⟨q23, h⟩ := h
          refine z_getR fl_X7_50 rfl dX7_fail_140 q23 ?_
          refine z_bipush dX7_fail_143 (by decide) ?_
          refine z_iload 4 dX7_fail_145 rfl ?_
          obtain ⟨q24, h⟩ := h
          refine z_imul dX7_fail_147 q24 ?_
          refine z_iload 5 dX7_fail_148 rfl ?_
          obtain ⟨q25, h⟩ := h
          refine z_iadd dX7_fail_150 q25 ?_
          obtain ⟨b26, eb26, h⟩ := h
          rw [eb26]
          obtain ⟨q27, h⟩ := h
          obtain ⟨q28, h⟩ := h
          obtain ⟨q29, h⟩ := h
          refine z_bald dX7_fail_151 (n := (zK M12 b26).2) (Prod.ext q27 rfl) q28 q29 ?_
          refine z_if_ne (tgt := 158) dX7_fail_152 (by decide) (fun q30 => ?_) (fun q30 => ?_)
          · have h := h.1 q30
            refine z_aload_n 2 dX7_fail_158 rfl ?_
            refine z_iload 4 dX7_fail_159 rfl ?_
            refine z_iconst dX7_fail_161 (by decide) ?_
            obtain ⟨q31, h⟩ := h
            obtain ⟨q32, h⟩ := h
            obtain ⟨q33, h⟩ := h
            refine z_bast dX7_fail_162 (n := (zK M12 b4).2) (Prod.ext q31 rfl) q32 q33 (by decide) ?_
            obtain ⟨M34, hmM34⟩ : ∃ z, z = zsI M12 b4 x4 1 := ⟨_, rfl⟩
            rw [← hmM34]
            have h := h M34 hmM34
            refine z_iconst dX7_fail_163 (by decide) ?_
            refine z_istore_n dX7_fail_164 (by decide) rfl ?_
            obtain ⟨q35, h⟩ := h
            refine z_iinc 5 dX7_fail_165 rfl (by decide) q35 rfl ?_
            refine z_goto (tgt := 107) dX7_fail_168 (by decide) ?_
            exact z_sub [2, 3, 4, 1, 5, 0] rfl h
          · have h := h.2 q30
            refine z_goto (tgt := 165) dX7_fail_155 (by decide) ?_
            obtain ⟨q36, h⟩ := h
            refine z_iinc 5 dX7_fail_165 rfl (by decide) q36 rfl ?_
            refine z_goto (tgt := 107) dX7_fail_168 (by decide) ?_
            exact z_sub [1, 2, 3, 4, 5, 0] rfl h
set_option maxRecDepth 20000 in
theorem vX7_fail_186 {E : zE} {d : Nat} {X : zX} {P : Int → zM → Prop} {M : zM} (hr : (xh X).sig.returnType = (some .int)) (a0 : Nat) (x1 : Int) (g2 : Option Nat) (x3 : Int) (x4 : Int) (x5 : Int)
    (h : zK M a0 = (8, 25) ∧ (((zI M a0 8) ≤ x5 → P x4 M) ∧ (x5 < (zI M a0 8) → ∃ b3, g2 = some b3 ∧ (zK M b3).1 = 10 ∧ 0 ≤ x5 ∧ x5 < ((zK M b3).2 : Int) ∧ (((zI M b3 x5) ≠ 0 → zK M a0 = (8, 25) ∧ ∃ b9, zR M a0 15 = some b9 ∧ (zK M b9).1 = 9 ∧ 0 ≤ x5 ∧ x5 < ((zK M b9).2 : Int) ∧ ∀ M13, M13 = zsI M b9 x5 (-1) → zK M13 a0 = (8, 25) ∧ ∃ b15, zR M13 a0 16 = some b15 ∧ (zK M13 b15).1 = 9 ∧ 0 ≤ x5 ∧ x5 < ((zK M13 b15).2 : Int) ∧ zin ((zI M13 b15 x5) + 1) ∧ (zK M13 b15).1 = 9 ∧ 0 ≤ x5 ∧ x5 < ((zK M13 b15).2 : Int) ∧ ∀ M23, M23 = zsI M13 b15 x5 ((zI M13 b15 x5) + 1) → zin (x4 + 1) ∧ zin (x5 + 1) ∧ ZX7_fail E d X P 186 [(0, vR (some a0)), (1, vI x1), (2, vR (some b3)), (3, vI x3), (4, vI (x4 + 1)), (5, vI (x5 + 1))] [] M23 1 40) ∧ ((zI M b3 x5) = 0 → zin (x5 + 1) ∧ ZX7_fail E d X P 186 [(0, vR (some a0)), (1, vI x1), (2, vR (some b3)), (3, vI x3), (4, vI x4), (5, vI (x5 + 1))] [] M 1 40))))) :
    ZX7_fail E d X P 186 [(0, vR (some a0)), (1, vI x1), (2, vR g2), (3, vI x3), (4, vI x4), (5, vI x5)] [] M 1 40 := by
  refine z_iload 5 dX7_fail_186 rfl ?_
  refine z_aload_n 0 dX7_fail_188 rfl ?_
  obtain ⟨q1, h⟩ := h
  refine z_getI fl_X7_74 dX7_fail_189 q1 ?_
  refine z_icmp_ge (tgt := 233) dX7_fail_192 (by decide) (fun q2 => ?_) (fun q2 => ?_)
  · have h := h.1 q2
    refine z_iload 4 dX7_fail_233 rfl ?_
    exact z_iret hr dX7_fail_235 (Nat.le_of_ble_eq_true rfl) (Nat.le_of_ble_eq_true rfl) ⟨_, rfl, h⟩
  · have h := h.2 q2
    refine z_aload_n 2 dX7_fail_195 rfl ?_
    refine z_iload 5 dX7_fail_196 rfl ?_
    obtain ⟨b3, eb3, h⟩ := h
    rw [eb3]
    obtain ⟨q4, h⟩ := h
    obtain ⟨q5, h⟩ := h
    obtain ⟨q6, h⟩ := h
    refine z_bald dX7_fail_198 (n := (zK M b3).2) (Prod.ext q4 rfl) q5 q6 ?_
    refine z_if_ne (tgt := 205) dX7_fail_199 (by decide) (fun q7 => ?_) (fun q7 => ?_)
    · have h := h.1 q7
      refine z_aload_n 0 dX7_fail_205 rfl ?_
      obtain ⟨q8, h⟩ := h
      refine z_getR fl_X7_44 rfl dX7_fail_206 q8 ?_
      refine z_iload 5 dX7_fail_209 rfl ?_
      refine z_iconst dX7_fail_211 (by decide) ?_
      obtain ⟨b9, eb9, h⟩ := h
      rw [eb9]
      obtain ⟨q10, h⟩ := h
      obtain ⟨q11, h⟩ := h
      obtain ⟨q12, h⟩ := h
      refine z_iast dX7_fail_212 (n := (zK M b9).2) (Prod.ext q10 rfl) q11 q12 ?_
      obtain ⟨M13, hmM13⟩ : ∃ z, z = zsI M b9 x5 (-1) := ⟨_, rfl⟩
      rw [← hmM13]
      have h := h M13 hmM13
      refine z_aload_n 0 dX7_fail_213 rfl ?_
      obtain ⟨q14, h⟩ := h
      refine z_getR fl_X7_47 rfl dX7_fail_214 q14 ?_
      refine z_iload 5 dX7_fail_217 rfl ?_
      refine z_dup2 dX7_fail_219 rfl rfl ?_
      obtain ⟨b15, eb15, h⟩ := h
      rw [eb15]
      obtain ⟨q16, h⟩ := h
      obtain ⟨q17, h⟩ := h
      obtain ⟨q18, h⟩ := h
      refine z_iald dX7_fail_220 (n := (zK M13 b15).2) (Prod.ext q16 rfl) q17 q18 ?_
      refine z_iconst dX7_fail_221 (by decide) ?_
      obtain ⟨q19, h⟩ := h
      refine z_iadd dX7_fail_222 q19 ?_
      obtain ⟨q20, h⟩ := h
      obtain ⟨q21, h⟩ := h
      obtain ⟨q22, h⟩ := h
      refine z_iast dX7_fail_223 (n := (zK M13 b15).2) (Prod.ext q20 rfl) q21 q22 ?_
      obtain ⟨M23, hmM23⟩ : ∃ z, z = zsI M13 b15 x5 ((zI M13 b15 x5) + 1) := ⟨_, rfl⟩
      rw [← hmM23]
      have h := h M23 hmM23
      obtain ⟨q24, h⟩ := h
      refine z_iinc 4 dX7_fail_224 rfl (by decide) q24 rfl ?_
      obtain ⟨q25, h⟩ := h
      refine z_iinc 5 dX7_fail_227 rfl (by decide) q25 rfl ?_
      refine z_goto (tgt := 186) dX7_fail_230 (by decide) ?_
      exact z_sub [2, 3, 4, 5, 1, 0] rfl h
    · have h := h.2 q7
      refine z_goto (tgt := 227) dX7_fail_202 (by decide) ?_
      obtain ⟨q26, h⟩ := h
      refine z_iinc 5 dX7_fail_227 rfl (by decide) q26 rfl ?_
      refine z_goto (tgt := 186) dX7_fail_230 (by decide) ?_
      exact z_sub [1, 2, 3, 4, 5, 0] rfl h
theorem sX7_fail {E : zE} {d : Nat} {P : Int → zM → Prop} {M : zM} (a0 : Nat) (x1 : Int) (h : ∀ X : zX, (xh X).sig.returnType = (some .int) → ZX7_fail E d X P 0 [(0, vR (some a0)), (1, vI x1)] [] M 0 0) : zCi E mX7_fail (d + 1) 1 40 [vR (some a0), vI x1] M P := z_start (f := mX7_fail) rfl (Nat.le_of_ble_eq_true rfl) rfl h
abbrev ZX7_more (E : zE) (d : Nat) (X : zX) (P : Int → zM → Prop) (pc : Nat) (Lc : List (Nat × zV)) (S : List zV) (M : zM) (ce sl : Nat) : Prop := zZ cX7_more RX7 "more" 3 E (zrm (d + 1) 0 0) X (zQ E (zPi P) X 0 0) pc Lc S M ce sl
set_option maxRecDepth 20000 in
theorem vX7_more_0 {E : zE} {d : Nat} {X : zX} {P : Int → zM → Prop} {M : zM} (hr : (xh X).sig.returnType = (some .int)) (a0 : Nat) (x1 : Int) (x2 : Int)
    (h : zK M a0 = (8, 25) ∧ ∃ P1 : Int → zM → Prop, zCi E mX7_isWork d 0 0 [vR (some a0), vI x1] M P1 ∧ ∀ r4 M3, P1 r4 M3 → ((r4 = 0 → P (-1) M3) ∧ (r4 ≠ 0 → zK M3 a0 = (8, 25) ∧ ∃ P8 : Int → zM → Prop, zCi E mX7_isDone d 0 0 [vR (some a0), vI x1] M3 P8 ∧ ∀ r11 M10, P8 r11 M10 → ((r11 ≠ 0 → P (-1) M10) ∧ (r11 = 0 → ∃ P15 : Int → zM → Prop, zCi E mX7_in d 0 0 [vI x2, vI 1, vI 40] M10 P15 ∧ ∀ r18 M17, P15 r18 M17 → ((r18 = 0 → P (-1) M17) ∧ (r18 ≠ 0 → zK M17 a0 = (8, 25) ∧ ∃ b22, zR M17 a0 9 = some b22 ∧ (zK M17 b22).1 = 9 ∧ 0 ≤ x1 ∧ x1 < ((zK M17 b22).2 : Int) ∧ zin ((zI M17 b22 x1) + x2) ∧ ((40 < ((zI M17 b22 x1) + x2) → P (-1) M17) ∧ (((zI M17 b22 x1) + x2) ≤ 40 → zK M17 a0 = (8, 25) ∧ ∃ P28 : Int → zM → Prop, zCi E mX7_isPut d 0 0 [vR (some a0), vI x1] M17 P28 ∧ ∀ r31 M30, P28 r31 M30 → ((r31 = 0 → zK M30 a0 = (8, 25) ∧ ∃ b36, zR M30 a0 9 = some b36 ∧ (zK M30 b36).1 = 9 ∧ 0 ≤ x1 ∧ x1 < ((zK M30 b36).2 : Int) ∧ zin ((zI M30 b36 x1) + x2) ∧ (zK M30 b36).1 = 9 ∧ 0 ≤ x1 ∧ x1 < ((zK M30 b36).2 : Int) ∧ ∀ M44, M44 = zsI M30 b36 x1 ((zI M30 b36 x1) + x2) → zK M44 a0 = (8, 25) ∧ ∃ b46, zR M44 a0 9 = some b46 ∧ (zK M44 b46).1 = 9 ∧ 0 ≤ x1 ∧ x1 < ((zK M44 b46).2 : Int) ∧ P (zI M44 b46 x1) M44) ∧ (r31 ≠ 0 → zK M30 a0 = (8, 25) ∧ ∃ P50 : Int → zM → Prop, zCi E mX7_endOf d 0 0 [vR (some a0), vI x1] M30 P50 ∧ ∀ r53 M52, P50 r53 M52 → zin (r53 + x2) ∧ (((r53 + x2) ≤ 400 → zK M52 a0 = (8, 25) ∧ ∃ b59, zR M52 a0 9 = some b59 ∧ (zK M52 b59).1 = 9 ∧ 0 ≤ x1 ∧ x1 < ((zK M52 b59).2 : Int) ∧ zin ((zI M52 b59 x1) + x2) ∧ (zK M52 b59).1 = 9 ∧ 0 ≤ x1 ∧ x1 < ((zK M52 b59).2 : Int) ∧ ∀ M67, M67 = zsI M52 b59 x1 ((zI M52 b59 x1) + x2) → zK M67 a0 = (8, 25) ∧ ∃ b69, zR M67 a0 9 = some b69 ∧ (zK M67 b69).1 = 9 ∧ 0 ≤ x1 ∧ x1 < ((zK M67 b69).2 : Int) ∧ P (zI M67 b69 x1) M67) ∧ (400 < (r53 + x2) → P (-1) M52))))))))))))) :
    ZX7_more E d X P 0 [(0, vR (some a0)), (1, vI x1), (2, vI x2)] [] M 0 0 := by
  refine z_aload_n 0 dX7_more_0 rfl ?_
  refine z_iload_n 1 dX7_more_1 rfl ?_
  obtain ⟨q6, h⟩ := h
  obtain ⟨P1, c2, h⟩ := h
  refine z_Vi (as := [vI x1]) mv_X7_100 dX7_more_2 c2 q6 rfl rfl (Nat.le_of_ble_eq_true rfl) (Nat.le_of_ble_eq_true rfl) (Nat.le_of_ble_eq_true rfl) (fun r4 M3 p5 => ?_)
  have h := h r4 M3 p5
  refine z_if_eq (tgt := 60) dX7_more_5 (by decide) (fun q7 => ?_) (fun q7 => ?_)
  · have h := h.1 q7
    refine z_iconst dX7_more_60 (by decide) ?_
    exact z_iret hr dX7_more_61 (Nat.le_of_ble_eq_true rfl) (Nat.le_of_ble_eq_true rfl) ⟨_, rfl, h⟩
  · have h := h.2 q7
    refine z_aload_n 0 dX7_more_8 rfl ?_
    refine z_iload_n 1 dX7_more_9 rfl ?_
    obtain ⟨q13, h⟩ := h
    obtain ⟨P8, c9, h⟩ := h
    refine z_Vi (as := [vI x1]) mv_X7_148 dX7_more_10 c9 q13 rfl rfl (Nat.le_of_ble_eq_true rfl) (Nat.le_of_ble_eq_true rfl) (Nat.le_of_ble_eq_true rfl) (fun r11 M10 p12 => ?_)
    have h := h r11 M10 p12
    refine z_if_ne (tgt := 60) dX7_more_13 (by decide) (fun q14 => ?_) (fun q14 => ?_)
    · have h := h.1 q14
      refine z_iconst dX7_more_60 (by decide) ?_
      exact z_iret hr dX7_more_61 (Nat.le_of_ble_eq_true rfl) (Nat.le_of_ble_eq_true rfl) ⟨_, rfl, h⟩
    · have h := h.2 q14
      refine z_iload_n 2 dX7_more_16 rfl ?_
      refine z_iconst dX7_more_17 (by decide) ?_
      refine z_bipush dX7_more_18 (by decide) ?_
      obtain ⟨P15, c16, h⟩ := h
      refine z_Si (as := [vI x2, vI 1, vI 40]) ms_X7_78 dX7_more_20 c16 rfl rfl (Nat.le_of_ble_eq_true rfl) (Nat.le_of_ble_eq_true rfl) (Nat.le_of_ble_eq_true rfl) (fun r18 M17 p19 => ?_)
      have h := h r18 M17 p19
      refine z_if_eq (tgt := 60) dX7_more_23 (by decide) (fun q20 => ?_) (fun q20 => ?_)
      · have h := h.1 q20
        refine z_iconst dX7_more_60 (by decide) ?_
        exact z_iret hr dX7_more_61 (Nat.le_of_ble_eq_true rfl) (Nat.le_of_ble_eq_true rfl) ⟨_, rfl, h⟩
      · have h := h.2 q20
        refine z_aload_n 0 dX7_more_26 rfl ?_
        obtain ⟨q21, h⟩ := h
        refine z_getR fl_X7_26 rfl dX7_more_27 q21 ?_
        refine z_iload_n 1 dX7_more_30 rfl ?_
        obtain ⟨b22, eb22, h⟩ := h
        rw [eb22]
        obtain ⟨q23, h⟩ := h
        obtain ⟨q24, h⟩ := h
        obtain ⟨q25, h⟩ := h
        refine z_iald dX7_more_31 (n := (zK M17 b22).2) (Prod.ext q23 rfl) q24 q25 ?_
        refine z_iload_n 2 dX7_more_32 rfl ?_
        obtain ⟨q26, h⟩ := h
        refine z_iadd dX7_more_33 q26 ?_
        refine z_bipush dX7_more_34 (by decide) ?_
        refine z_icmp_gt (tgt := 60) dX7_more_36 (by decide) (fun q27 => ?_) (fun q27 => ?_)
        · have h := h.1 q27
          refine z_iconst dX7_more_60 (by decide) ?_
          exact z_iret hr dX7_more_61 (Nat.le_of_ble_eq_true rfl) (Nat.le_of_ble_eq_true rfl) ⟨_, rfl, h⟩
        · have h := h.2 q27
          refine z_aload_n 0 dX7_more_39 rfl ?_
          refine z_iload_n 1 dX7_more_40 rfl ?_
          obtain ⟨q33, h⟩ := h
          obtain ⟨P28, c29, h⟩ := h
          refine z_Vi (as := [vI x1]) mv_X7_89 dX7_more_41 c29 q33 rfl rfl (Nat.le_of_ble_eq_true rfl) (Nat.le_of_ble_eq_true rfl) (Nat.le_of_ble_eq_true rfl) (fun r31 M30 p32 => ?_)
          have h := h r31 M30 p32
          refine z_if_eq (tgt := 62) dX7_more_44 (by decide) (fun q34 => ?_) (fun q34 => ?_)
          · have h := h.1 q34
            refine z_aload_n 0 dX7_more_62 rfl ?_
            obtain ⟨q35, h⟩ := h
            refine z_getR fl_X7_26 rfl dX7_more_63 q35 ?_
            refine z_iload_n 1 dX7_more_66 rfl ?_
            refine z_dup2 dX7_more_67 rfl rfl ?_
            obtain ⟨b36, eb36, h⟩ := h
            rw [eb36]
            obtain ⟨q37, h⟩ := h
            obtain ⟨q38, h⟩ := h
            obtain ⟨q39, h⟩ := h
            refine z_iald dX7_more_68 (n := (zK M30 b36).2) (Prod.ext q37 rfl) q38 q39 ?_
            refine z_iload_n 2 dX7_more_69 rfl ?_
            obtain ⟨q40, h⟩ := h
            refine z_iadd dX7_more_70 q40 ?_
            obtain ⟨q41, h⟩ := h
            obtain ⟨q42, h⟩ := h
            obtain ⟨q43, h⟩ := h
            refine z_iast dX7_more_71 (n := (zK M30 b36).2) (Prod.ext q41 rfl) q42 q43 ?_
            obtain ⟨M44, hmM44⟩ : ∃ z, z = zsI M30 b36 x1 ((zI M30 b36 x1) + x2) := ⟨_, rfl⟩
            rw [← hmM44]
            have h := h M44 hmM44
            refine z_aload_n 0 dX7_more_72 rfl ?_
            obtain ⟨q45, h⟩ := h
            refine z_getR fl_X7_26 rfl dX7_more_73 q45 ?_
            refine z_iload_n 1 dX7_more_76 rfl ?_
            obtain ⟨b46, eb46, h⟩ := h
            rw [eb46]
            obtain ⟨q47, h⟩ := h
            obtain ⟨q48, h⟩ := h
            obtain ⟨q49, h⟩ := h
            refine z_iald dX7_more_77 (n := (zK M44 b46).2) (Prod.ext q47 rfl) q48 q49 ?_
            exact z_iret hr dX7_more_78 (Nat.le_of_ble_eq_true rfl) (Nat.le_of_ble_eq_true rfl) ⟨_, rfl, h⟩
          · have h := h.2 q34
            refine z_aload_n 0 dX7_more_47 rfl ?_
            refine z_iload_n 1 dX7_more_48 rfl ?_
            obtain ⟨q55, h⟩ := h
            obtain ⟨P50, c51, h⟩ := h
            refine z_Vi (as := [vI x1]) mv_X7_96 dX7_more_49 c51 q55 rfl rfl (Nat.le_of_ble_eq_true rfl) (Nat.le_of_ble_eq_true rfl) (Nat.le_of_ble_eq_true rfl) (fun r53 M52 p54 => ?_)
            have h := h r53 M52 p54
            refine z_iload_n 2 dX7_more_52 rfl ?_
            obtain ⟨q56, h⟩ := h
            refine z_iadd dX7_more_53 q56 ?_
            refine z_sipush dX7_more_54 (by decide) ?_
            refine z_icmp_le (tgt := 62) dX7_more_57 (by decide) (fun q57 => ?_) (fun q57 => ?_)
            · have h := h.1 q57
              refine z_aload_n 0 dX7_more_62 rfl ?_
              obtain ⟨q58, h⟩ := h
              refine z_getR fl_X7_26 rfl dX7_more_63 q58 ?_
              refine z_iload_n 1 dX7_more_66 rfl ?_
              refine z_dup2 dX7_more_67 rfl rfl ?_
              obtain ⟨b59, eb59, h⟩ := h
              rw [eb59]
              obtain ⟨q60, h⟩ := h
              obtain ⟨q61, h⟩ := h
              obtain ⟨q62, h⟩ := h
              refine z_iald dX7_more_68 (n := (zK M52 b59).2) (Prod.ext q60 rfl) q61 q62 ?_
              refine z_iload_n 2 dX7_more_69 rfl ?_
              obtain ⟨q63, h⟩ := h
              refine z_iadd dX7_more_70 q63 ?_
              obtain ⟨q64, h⟩ := h
              obtain ⟨q65, h⟩ := h
              obtain ⟨q66, h⟩ := h
              refine z_iast dX7_more_71 (n := (zK M52 b59).2) (Prod.ext q64 rfl) q65 q66 ?_
              obtain ⟨M67, hmM67⟩ : ∃ z, z = zsI M52 b59 x1 ((zI M52 b59 x1) + x2) := ⟨_, rfl⟩
              rw [← hmM67]
              have h := h M67 hmM67
              refine z_aload_n 0 dX7_more_72 rfl ?_
              obtain ⟨q68, h⟩ := h
              refine z_getR fl_X7_26 rfl dX7_more_73 q68 ?_
              refine z_iload_n 1 dX7_more_76 rfl ?_
              obtain ⟨b69, eb69, h⟩ := h
              rw [eb69]
              obtain ⟨q70, h⟩ := h
              obtain ⟨q71, h⟩ := h
              obtain ⟨q72, h⟩ := h
              refine z_iald dX7_more_77 (n := (zK M67 b69).2) (Prod.ext q70 rfl) q71 q72 ?_
              exact z_iret hr dX7_more_78 (Nat.le_of_ble_eq_true rfl) (Nat.le_of_ble_eq_true rfl) ⟨_, rfl, h⟩
            · have h := h.2 q57
              refine z_iconst dX7_more_60 (by decide) ?_
              exact z_iret hr dX7_more_61 (Nat.le_of_ble_eq_true rfl) (Nat.le_of_ble_eq_true rfl) ⟨_, rfl, h⟩
theorem sX7_more {E : zE} {d : Nat} {P : Int → zM → Prop} {M : zM} (a0 : Nat) (x1 : Int) (x2 : Int) (h : ∀ X : zX, (xh X).sig.returnType = (some .int) → ZX7_more E d X P 0 [(0, vR (some a0)), (1, vI x1), (2, vI x2)] [] M 0 0) : zCi E mX7_more (d + 1) 0 0 [vR (some a0), vI x1, vI x2] M P := z_start (f := mX7_more) rfl (Nat.le_of_ble_eq_true rfl) rfl h
abbrev ZX7_stateOf (E : zE) (d : Nat) (X : zX) (P : Int → zM → Prop) (pc : Nat) (Lc : List (Nat × zV)) (S : List zV) (M : zM) (ce sl : Nat) : Prop := zZ cX7_stateOf RX7 "stateOf" 2 E (zrm (d + 1) 0 0) X (zQ E (zPi P) X 0 0) pc Lc S M ce sl
set_option maxRecDepth 20000 in
theorem vX7_stateOf_0 {E : zE} {d : Nat} {X : zX} {P : Int → zM → Prop} {M : zM} (hr : (xh X).sig.returnType = (some .int)) (a0 : Nat) (x1 : Int)
    (h : zK M a0 = (8, 25) ∧ ∃ P1 : Int → zM → Prop, zCi E mX7_isPut d 0 0 [vR (some a0), vI x1] M P1 ∧ ∀ r4 M3, P1 r4 M3 → ((r4 ≠ 0 → zK M3 a0 = (8, 25) ∧ ∃ P8 : Int → zM → Prop, zCi E mX7_isDone d 0 0 [vR (some a0), vI x1] M3 P8 ∧ ∀ r11 M10, P8 r11 M10 → ((r11 = 0 → zK M10 a0 = (8, 25) ∧ ∃ P15 : Int → zM → Prop, zCi E mX7_isBegun d 0 0 [vR (some a0), vI x1] M10 P15 ∧ ∀ r18 M17, P15 r18 M17 → ((r18 = 0 → P 1 M17) ∧ (r18 ≠ 0 → P 2 M17))) ∧ (r11 ≠ 0 → P 3 M10))) ∧ (r4 = 0 → P 0 M3))) :
    ZX7_stateOf E d X P 0 [(0, vR (some a0)), (1, vI x1)] [] M 0 0 := by
  refine z_aload_n 0 dX7_stateOf_0 rfl ?_
  refine z_iload_n 1 dX7_stateOf_1 rfl ?_
  obtain ⟨q6, h⟩ := h
  obtain ⟨P1, c2, h⟩ := h
  refine z_Vi (as := [vI x1]) mv_X7_89 dX7_stateOf_2 c2 q6 rfl rfl (Nat.le_of_ble_eq_true rfl) (Nat.le_of_ble_eq_true rfl) (Nat.le_of_ble_eq_true rfl) (fun r4 M3 p5 => ?_)
  have h := h r4 M3 p5
  refine z_if_ne (tgt := 12) dX7_stateOf_5 (by decide) (fun q7 => ?_) (fun q7 => ?_)
  · have h := h.1 q7
    refine z_aload_n 0 dX7_stateOf_12 rfl ?_
    refine z_iload_n 1 dX7_stateOf_13 rfl ?_
    obtain ⟨q13, h⟩ := h
    obtain ⟨P8, c9, h⟩ := h
    refine z_Vi (as := [vI x1]) mv_X7_148 dX7_stateOf_14 c9 q13 rfl rfl (Nat.le_of_ble_eq_true rfl) (Nat.le_of_ble_eq_true rfl) (Nat.le_of_ble_eq_true rfl) (fun r11 M10 p12 => ?_)
    have h := h r11 M10 p12
    refine z_if_eq (tgt := 24) dX7_stateOf_17 (by decide) (fun q14 => ?_) (fun q14 => ?_)
    · have h := h.1 q14
      refine z_aload_n 0 dX7_stateOf_24 rfl ?_
      refine z_iload_n 1 dX7_stateOf_25 rfl ?_
      obtain ⟨q20, h⟩ := h
      obtain ⟨P15, c16, h⟩ := h
      refine z_Vi (as := [vI x1]) mv_X7_103 dX7_stateOf_26 c16 q20 rfl rfl (Nat.le_of_ble_eq_true rfl) (Nat.le_of_ble_eq_true rfl) (Nat.le_of_ble_eq_true rfl) (fun r18 M17 p19 => ?_)
      have h := h r18 M17 p19
      refine z_if_eq (tgt := 36) dX7_stateOf_29 (by decide) (fun q21 => ?_) (fun q21 => ?_)
      · have h := h.1 q21
        refine z_iconst dX7_stateOf_36 (by decide) ?_
        exact z_iret hr dX7_stateOf_37 (Nat.le_of_ble_eq_true rfl) (Nat.le_of_ble_eq_true rfl) ⟨_, rfl, h⟩
      · have h := h.2 q21
        refine z_iconst dX7_stateOf_32 (by decide) ?_
        refine z_goto (tgt := 37) dX7_stateOf_33 (by decide) ?_
        exact z_iret hr dX7_stateOf_37 (Nat.le_of_ble_eq_true rfl) (Nat.le_of_ble_eq_true rfl) ⟨_, rfl, h⟩
    · have h := h.2 q14
      refine z_iconst dX7_stateOf_20 (by decide) ?_
      refine z_goto (tgt := 37) dX7_stateOf_21 (by decide) ?_
      exact z_iret hr dX7_stateOf_37 (Nat.le_of_ble_eq_true rfl) (Nat.le_of_ble_eq_true rfl) ⟨_, rfl, h⟩
  · have h := h.2 q7
    refine z_iconst dX7_stateOf_8 (by decide) ?_
    refine z_goto (tgt := 37) dX7_stateOf_9 (by decide) ?_
    exact z_iret hr dX7_stateOf_37 (Nat.le_of_ble_eq_true rfl) (Nat.le_of_ble_eq_true rfl) ⟨_, rfl, h⟩
theorem sX7_stateOf {E : zE} {d : Nat} {P : Int → zM → Prop} {M : zM} (a0 : Nat) (x1 : Int) (h : ∀ X : zX, (xh X).sig.returnType = (some .int) → ZX7_stateOf E d X P 0 [(0, vR (some a0)), (1, vI x1)] [] M 0 0) : zCi E mX7_stateOf (d + 1) 0 0 [vR (some a0), vI x1] M P := z_start (f := mX7_stateOf) rfl (Nat.le_of_ble_eq_true rfl) rfl h
abbrev ZX7_told (E : zE) (d : Nat) (X : zX) (P : Int → zM → Prop) (pc : Nat) (Lc : List (Nat × zV)) (S : List zV) (M : zM) (ce sl : Nat) : Prop := zZ cX7_told RX7 "told" 6 E (zrm (d + 1) 0 0) X (zQ E (zPi P) X 0 0) pc Lc S M ce sl
set_option maxRecDepth 20000 in
theorem vX7_told_0 {E : zE} {d : Nat} {X : zX} {P : Int → zM → Prop} {M : zM} (hr : (xh X).sig.returnType = (some .int)) (a0 : Nat) (x1 : Int) (x2 : Int)
    (h : zK M a0 = (8, 25) ∧ ∃ P1 : Int → zM → Prop, zCi E mX7_isWork d 0 0 [vR (some a0), vI x1] M P1 ∧ ∀ r4 M3, P1 r4 M3 → ((r4 ≠ 0 → ((x2 < 8 → ZX7_told E d X P 34 [(0, vR (some a0)), (1, vI x1), (2, vI x2), (3, vI 0), (4, vI 0)] [] M3 0 0) ∧ (8 ≤ x2 → ((10 < x2 → ZX7_told E d X P 34 [(0, vR (some a0)), (1, vI x1), (2, vI x2), (3, vI 0), (4, vI 0)] [] M3 0 0) ∧ (x2 ≤ 10 → zK M3 a0 = (8, 25) ∧ ∃ P10 : Int → zM → Prop, zCi E mX7_way d 0 0 [vR (some a0)] M3 P10 ∧ ∀ r13 M12, P10 r13 M12 → ZX7_told E d X P 34 [(0, vR (some a0)), (1, vI x1), (2, vI x2), (3, vI 0), (4, vI r13)] [] M12 0 0))))) ∧ (r4 = 0 → P (-1) M3))) :
    ZX7_told E d X P 0 [(0, vR (some a0)), (1, vI x1), (2, vI x2)] [] M 0 0 := by
  refine z_aload_n 0 dX7_told_0 rfl ?_
  refine z_iload_n 1 dX7_told_1 rfl ?_
  obtain ⟨q6, h⟩ := h
  obtain ⟨P1, c2, h⟩ := h
  refine z_Vi (as := [vI x1]) mv_X7_100 dX7_told_2 c2 q6 rfl rfl (Nat.le_of_ble_eq_true rfl) (Nat.le_of_ble_eq_true rfl) (Nat.le_of_ble_eq_true rfl) (fun r4 M3 p5 => ?_)
  have h := h r4 M3 p5
  refine z_if_ne (tgt := 10) dX7_told_5 (by decide) (fun q7 => ?_) (fun q7 => ?_)
  · have h := h.1 q7
    refine z_iconst dX7_told_10 (by decide) ?_
    refine z_istore_n dX7_told_11 (by decide) rfl ?_
    refine z_iload_n 3 dX7_told_12 rfl ?_
    refine z_bipush dX7_told_13 (by decide) ?_
    refine z_icmp_lt (tgt := 31) dX7_told_15 (by decide) (fun q8 => ?_) (fun q8 => ?_)
    · have h := h.1 q8
      refine z_iconst dX7_told_31 (by decide) ?_
      refine z_istore dX7_told_32 (by decide) rfl ?_
      exact z_sub [2, 3, 4, 1, 0] rfl h
    · have h := h.2 q8
      refine z_iload_n 3 dX7_told_18 rfl ?_
      refine z_bipush dX7_told_19 (by decide) ?_
      refine z_icmp_gt (tgt := 31) dX7_told_21 (by decide) (fun q9 => ?_) (fun q9 => ?_)
      · have h := h.1 q9
        refine z_iconst dX7_told_31 (by decide) ?_
        refine z_istore dX7_told_32 (by decide) rfl ?_
        exact z_sub [2, 3, 4, 1, 0] rfl h
      · have h := h.2 q9
        refine z_aload_n 1 dX7_told_24 rfl ?_
        obtain ⟨q15, h⟩ := h
        obtain ⟨P10, c11, h⟩ := h
        refine z_Vi (as := []) mv_X7_132 dX7_told_25 c11 q15 rfl rfl (Nat.le_of_ble_eq_true rfl) (Nat.le_of_ble_eq_true rfl) (Nat.le_of_ble_eq_true rfl) (fun r13 M12 p14 => ?_)
        have h := h r13 M12 p14
        refine z_goto (tgt := 32) dX7_told_28 (by decide) ?_
        refine z_istore dX7_told_32 (by decide) rfl ?_
        exact z_sub [2, 3, 4, 1, 0] rfl h
  · have h := h.2 q7
    refine z_iconst dX7_told_8 (by decide) ?_
    exact z_iret hr dX7_told_9 (Nat.le_of_ble_eq_true rfl) (Nat.le_of_ble_eq_true rfl) ⟨_, rfl, h⟩
set_option maxRecDepth 20000 in
theorem vX7_told_34 {E : zE} {d : Nat} {X : zX} {P : Int → zM → Prop} {M : zM} (hr : (xh X).sig.returnType = (some .int)) (a0 : Nat) (x1 : Int) (x2 : Int) (x3 : Int) (x4 : Int)
    (h : ((x2 = 0 → zK M a0 = (8, 25) ∧ ∃ b3, zR M a0 9 = some b3 ∧ (zK M b3).1 = 9 ∧ 0 ≤ x1 ∧ x1 < ((zK M b3).2 : Int) ∧ P (zI M b3 x1) M) ∧ (x2 = 1 → zK M a0 = (8, 25) ∧ ∃ b9, zR M a0 10 = some b9 ∧ (zK M b9).1 = 9 ∧ 0 ≤ x1 ∧ x1 < ((zK M b9).2 : Int) ∧ P (zI M b9 x1) M) ∧ (x2 = 2 → zK M a0 = (8, 25) ∧ ∃ b15, zR M a0 11 = some b15 ∧ (zK M b15).1 = 9 ∧ 0 ≤ x1 ∧ x1 < ((zK M b15).2 : Int) ∧ P (zI M b15 x1) M) ∧ (x2 = 3 → zK M a0 = (8, 25) ∧ ∃ b21, zR M a0 12 = some b21 ∧ (zK M b21).1 = 9 ∧ 0 ≤ x1 ∧ x1 < ((zK M b21).2 : Int) ∧ P (zI M b21 x1) M) ∧ (x2 = 4 → zK M a0 = (8, 25) ∧ ∃ b27, zR M a0 13 = some b27 ∧ (zK M b27).1 = 9 ∧ 0 ≤ x1 ∧ x1 < ((zK M b27).2 : Int) ∧ P (zI M b27 x1) M) ∧ (x2 = 5 → zK M a0 = (8, 25) ∧ ∃ b33, zR M a0 14 = some b33 ∧ (zK M b33).1 = 9 ∧ 0 ≤ x1 ∧ x1 < ((zK M b33).2 : Int) ∧ P (zI M b33 x1) M) ∧ (x2 = 6 → zK M a0 = (8, 25) ∧ ∃ P38 : Int → zM → Prop, zCi E mX7_stateOf d 0 0 [vR (some a0), vI x1] M P38 ∧ ∀ r41 M40, P38 r41 M40 → P r41 M40) ∧ (x2 = 7 → zK M a0 = (8, 25) ∧ ∃ b46, zR M a0 15 = some b46 ∧ (zK M b46).1 = 9 ∧ 0 ≤ x1 ∧ x1 < ((zK M b46).2 : Int) ∧ P (zI M b46 x1) M) ∧ (x2 = 8 → zK M a0 = (8, 25) ∧ ∃ b52, zR M a0 20 = some b52 ∧ (zK M b52).1 = 9 ∧ 0 ≤ x1 ∧ x1 < ((zK M b52).2 : Int) ∧ P (zI M b52 x1) M) ∧ (x2 = 9 → zK M a0 = (8, 25) ∧ ∃ b58, zR M a0 21 = some b58 ∧ (zK M b58).1 = 9 ∧ 0 ≤ x1 ∧ x1 < ((zK M b58).2 : Int) ∧ P (zI M b58 x1) M) ∧ (x2 = 10 → zK M a0 = (8, 25) ∧ ∃ P63 : Int → zM → Prop, zCi E mX7_slack d 0 0 [vR (some a0), vI x4, vI x1] M P63 ∧ ∀ r66 M65, P63 r66 M65 → P r66 M65) ∧ (x2 = 11 → ZX7_told E d X P 180 [(0, vR (some a0)), (1, vI x1), (2, vI x2), (3, vI x3), (4, vI x4), (5, vI 0)] [] M 0 0) ∧ (x2 = 12 → zK M a0 = (8, 25) ∧ ∃ b72, zR M a0 16 = some b72 ∧ (zK M b72).1 = 9 ∧ 0 ≤ x1 ∧ x1 < ((zK M b72).2 : Int) ∧ P (zI M b72 x1) M) ∧ ((x2 < 0 ∨ 12 < x2) → P (-1) M))) :
    ZX7_told E d X P 34 [(0, vR (some a0)), (1, vI x1), (2, vI x2), (3, vI x3), (4, vI x4)] [] M 0 0 := by
  refine z_iload_n 2 dX7_told_34 rfl ?_
  obtain ⟨hq1, h⟩ := h
  by_cases q1 : x2 = 0
  · refine z_tableIn (tgt := 100) dX7_told_35 0 q1 (by decide) (by decide) rfl (by decide) ?_
    have h := hq1 q1
    refine z_aload_n 0 dX7_told_100 rfl ?_
    obtain ⟨q2, h⟩ := h
    refine z_getR fl_X7_26 rfl dX7_told_101 q2 ?_
    refine z_iload_n 1 dX7_told_104 rfl ?_
    obtain ⟨b3, eb3, h⟩ := h
    rw [eb3]
    obtain ⟨q4, h⟩ := h
    obtain ⟨q5, h⟩ := h
    obtain ⟨q6, h⟩ := h
    refine z_iald dX7_told_105 (n := (zK M b3).2) (Prod.ext q4 rfl) q5 q6 ?_
    exact z_iret hr dX7_told_106 (Nat.le_of_ble_eq_true rfl) (Nat.le_of_ble_eq_true rfl) ⟨_, rfl, h⟩
  obtain ⟨hq7, h⟩ := h
  by_cases q7 : x2 = 1
  · refine z_tableIn (tgt := 107) dX7_told_35 1 q7 (by decide) (by decide) rfl (by decide) ?_
    have h := hq7 q7
    refine z_aload_n 0 dX7_told_107 rfl ?_
    obtain ⟨q8, h⟩ := h
    refine z_getR fl_X7_29 rfl dX7_told_108 q8 ?_
    refine z_iload_n 1 dX7_told_111 rfl ?_
    obtain ⟨b9, eb9, h⟩ := h
    rw [eb9]
    obtain ⟨q10, h⟩ := h
    obtain ⟨q11, h⟩ := h
    obtain ⟨q12, h⟩ := h
    refine z_iald dX7_told_112 (n := (zK M b9).2) (Prod.ext q10 rfl) q11 q12 ?_
    exact z_iret hr dX7_told_113 (Nat.le_of_ble_eq_true rfl) (Nat.le_of_ble_eq_true rfl) ⟨_, rfl, h⟩
  obtain ⟨hq13, h⟩ := h
  by_cases q13 : x2 = 2
  · refine z_tableIn (tgt := 114) dX7_told_35 2 q13 (by decide) (by decide) rfl (by decide) ?_
    have h := hq13 q13
    refine z_aload_n 0 dX7_told_114 rfl ?_
    obtain ⟨q14, h⟩ := h
    refine z_getR fl_X7_32 rfl dX7_told_115 q14 ?_
    refine z_iload_n 1 dX7_told_118 rfl ?_
    obtain ⟨b15, eb15, h⟩ := h
    rw [eb15]
    obtain ⟨q16, h⟩ := h
    obtain ⟨q17, h⟩ := h
    obtain ⟨q18, h⟩ := h
    refine z_iald dX7_told_119 (n := (zK M b15).2) (Prod.ext q16 rfl) q17 q18 ?_
    exact z_iret hr dX7_told_120 (Nat.le_of_ble_eq_true rfl) (Nat.le_of_ble_eq_true rfl) ⟨_, rfl, h⟩
  obtain ⟨hq19, h⟩ := h
  by_cases q19 : x2 = 3
  · refine z_tableIn (tgt := 121) dX7_told_35 3 q19 (by decide) (by decide) rfl (by decide) ?_
    have h := hq19 q19
    refine z_aload_n 0 dX7_told_121 rfl ?_
    obtain ⟨q20, h⟩ := h
    refine z_getR fl_X7_35 rfl dX7_told_122 q20 ?_
    refine z_iload_n 1 dX7_told_125 rfl ?_
    obtain ⟨b21, eb21, h⟩ := h
    rw [eb21]
    obtain ⟨q22, h⟩ := h
    obtain ⟨q23, h⟩ := h
    obtain ⟨q24, h⟩ := h
    refine z_iald dX7_told_126 (n := (zK M b21).2) (Prod.ext q22 rfl) q23 q24 ?_
    exact z_iret hr dX7_told_127 (Nat.le_of_ble_eq_true rfl) (Nat.le_of_ble_eq_true rfl) ⟨_, rfl, h⟩
  obtain ⟨hq25, h⟩ := h
  by_cases q25 : x2 = 4
  · refine z_tableIn (tgt := 128) dX7_told_35 4 q25 (by decide) (by decide) rfl (by decide) ?_
    have h := hq25 q25
    refine z_aload_n 0 dX7_told_128 rfl ?_
    obtain ⟨q26, h⟩ := h
    refine z_getR fl_X7_38 rfl dX7_told_129 q26 ?_
    refine z_iload_n 1 dX7_told_132 rfl ?_
    obtain ⟨b27, eb27, h⟩ := h
    rw [eb27]
    obtain ⟨q28, h⟩ := h
    obtain ⟨q29, h⟩ := h
    obtain ⟨q30, h⟩ := h
    refine z_iald dX7_told_133 (n := (zK M b27).2) (Prod.ext q28 rfl) q29 q30 ?_
    exact z_iret hr dX7_told_134 (Nat.le_of_ble_eq_true rfl) (Nat.le_of_ble_eq_true rfl) ⟨_, rfl, h⟩
  obtain ⟨hq31, h⟩ := h
  by_cases q31 : x2 = 5
  · refine z_tableIn (tgt := 135) dX7_told_35 5 q31 (by decide) (by decide) rfl (by decide) ?_
    have h := hq31 q31
    refine z_aload_n 0 dX7_told_135 rfl ?_
    obtain ⟨q32, h⟩ := h
    refine z_getR fl_X7_41 rfl dX7_told_136 q32 ?_
    refine z_iload_n 1 dX7_told_139 rfl ?_
    obtain ⟨b33, eb33, h⟩ := h
    rw [eb33]
    obtain ⟨q34, h⟩ := h
    obtain ⟨q35, h⟩ := h
    obtain ⟨q36, h⟩ := h
    refine z_iald dX7_told_140 (n := (zK M b33).2) (Prod.ext q34 rfl) q35 q36 ?_
    exact z_iret hr dX7_told_141 (Nat.le_of_ble_eq_true rfl) (Nat.le_of_ble_eq_true rfl) ⟨_, rfl, h⟩
  obtain ⟨hq37, h⟩ := h
  by_cases q37 : x2 = 6
  · refine z_tableIn (tgt := 142) dX7_told_35 6 q37 (by decide) (by decide) rfl (by decide) ?_
    have h := hq37 q37
    refine z_aload_n 0 dX7_told_142 rfl ?_
    refine z_iload_n 1 dX7_told_143 rfl ?_
    obtain ⟨q43, h⟩ := h
    obtain ⟨P38, c39, h⟩ := h
    refine z_Vi (as := [vI x1]) mv_X7_151 dX7_told_144 c39 q43 rfl rfl (Nat.le_of_ble_eq_true rfl) (Nat.le_of_ble_eq_true rfl) (Nat.le_of_ble_eq_true rfl) (fun r41 M40 p42 => ?_)
    have h := h r41 M40 p42
    exact z_iret hr dX7_told_147 (Nat.le_of_ble_eq_true rfl) (Nat.le_of_ble_eq_true rfl) ⟨_, rfl, h⟩
  obtain ⟨hq44, h⟩ := h
  by_cases q44 : x2 = 7
  · refine z_tableIn (tgt := 148) dX7_told_35 7 q44 (by decide) (by decide) rfl (by decide) ?_
    have h := hq44 q44
    refine z_aload_n 0 dX7_told_148 rfl ?_
    obtain ⟨q45, h⟩ := h
    refine z_getR fl_X7_44 rfl dX7_told_149 q45 ?_
    refine z_iload_n 1 dX7_told_152 rfl ?_
    obtain ⟨b46, eb46, h⟩ := h
    rw [eb46]
    obtain ⟨q47, h⟩ := h
    obtain ⟨q48, h⟩ := h
    obtain ⟨q49, h⟩ := h
    refine z_iald dX7_told_153 (n := (zK M b46).2) (Prod.ext q47 rfl) q48 q49 ?_
    exact z_iret hr dX7_told_154 (Nat.le_of_ble_eq_true rfl) (Nat.le_of_ble_eq_true rfl) ⟨_, rfl, h⟩
  obtain ⟨hq50, h⟩ := h
  by_cases q50 : x2 = 8
  · refine z_tableIn (tgt := 155) dX7_told_35 8 q50 (by decide) (by decide) rfl (by decide) ?_
    have h := hq50 q50
    refine z_aload_n 0 dX7_told_155 rfl ?_
    obtain ⟨q51, h⟩ := h
    refine z_getR fl_X7_59 rfl dX7_told_156 q51 ?_
    refine z_iload_n 1 dX7_told_159 rfl ?_
    obtain ⟨b52, eb52, h⟩ := h
    rw [eb52]
    obtain ⟨q53, h⟩ := h
    obtain ⟨q54, h⟩ := h
    obtain ⟨q55, h⟩ := h
    refine z_iald dX7_told_160 (n := (zK M b52).2) (Prod.ext q53 rfl) q54 q55 ?_
    exact z_iret hr dX7_told_161 (Nat.le_of_ble_eq_true rfl) (Nat.le_of_ble_eq_true rfl) ⟨_, rfl, h⟩
  obtain ⟨hq56, h⟩ := h
  by_cases q56 : x2 = 9
  · refine z_tableIn (tgt := 162) dX7_told_35 9 q56 (by decide) (by decide) rfl (by decide) ?_
    have h := hq56 q56
    refine z_aload_n 0 dX7_told_162 rfl ?_
    obtain ⟨q57, h⟩ := h
    refine z_getR fl_X7_62 rfl dX7_told_163 q57 ?_
    refine z_iload_n 1 dX7_told_166 rfl ?_
    obtain ⟨b58, eb58, h⟩ := h
    rw [eb58]
    obtain ⟨q59, h⟩ := h
    obtain ⟨q60, h⟩ := h
    obtain ⟨q61, h⟩ := h
    refine z_iald dX7_told_167 (n := (zK M b58).2) (Prod.ext q59 rfl) q60 q61 ?_
    exact z_iret hr dX7_told_168 (Nat.le_of_ble_eq_true rfl) (Nat.le_of_ble_eq_true rfl) ⟨_, rfl, h⟩
  obtain ⟨hq62, h⟩ := h
  by_cases q62 : x2 = 10
  · refine z_tableIn (tgt := 169) dX7_told_35 10 q62 (by decide) (by decide) rfl (by decide) ?_
    have h := hq62 q62
    refine z_aload_n 0 dX7_told_169 rfl ?_
    refine z_iload 4 dX7_told_170 rfl ?_
    refine z_iload_n 1 dX7_told_172 rfl ?_
    obtain ⟨q68, h⟩ := h
    obtain ⟨P63, c64, h⟩ := h
    refine z_Vi (as := [vI x4, vI x1]) mv_X7_136 dX7_told_173 c64 q68 rfl rfl (Nat.le_of_ble_eq_true rfl) (Nat.le_of_ble_eq_true rfl) (Nat.le_of_ble_eq_true rfl) (fun r66 M65 p67 => ?_)
    have h := h r66 M65 p67
    exact z_iret hr dX7_told_176 (Nat.le_of_ble_eq_true rfl) (Nat.le_of_ble_eq_true rfl) ⟨_, rfl, h⟩
  obtain ⟨hq69, h⟩ := h
  by_cases q69 : x2 = 11
  · refine z_tableIn (tgt := 177) dX7_told_35 11 q69 (by decide) (by decide) rfl (by decide) ?_
    have h := hq69 q69
    refine z_iconst dX7_told_177 (by decide) ?_
    refine z_istore dX7_told_178 (by decide) rfl ?_
    exact z_sub [1, 2, 3, 4, 5, 0] rfl h
  obtain ⟨hq70, h⟩ := h
  by_cases q70 : x2 = 12
  · refine z_tableIn (tgt := 220) dX7_told_35 12 q70 (by decide) (by decide) rfl (by decide) ?_
    have h := hq70 q70
    refine z_aload_n 0 dX7_told_220 rfl ?_
    obtain ⟨q71, h⟩ := h
    refine z_getR fl_X7_47 rfl dX7_told_221 q71 ?_
    refine z_iload_n 1 dX7_told_224 rfl ?_
    obtain ⟨b72, eb72, h⟩ := h
    rw [eb72]
    obtain ⟨q73, h⟩ := h
    obtain ⟨q74, h⟩ := h
    obtain ⟨q75, h⟩ := h
    refine z_iald dX7_told_225 (n := (zK M b72).2) (Prod.ext q73 rfl) q74 q75 ?_
    exact z_iret hr dX7_told_226 (Nat.le_of_ble_eq_true rfl) (Nat.le_of_ble_eq_true rfl) ⟨_, rfl, h⟩
  have ho76 := zo_0_12 x2 q1 q7 q13 q19 q25 q31 q37 q44 q50 q56 q62 q69 q70
  refine z_tableOut (tgt := 227) dX7_told_35 ho76 (by decide) ?_
  have h := h ho76
  refine z_iconst dX7_told_227 (by decide) ?_
  exact z_iret hr dX7_told_228 (Nat.le_of_ble_eq_true rfl) (Nat.le_of_ble_eq_true rfl) ⟨_, rfl, h⟩
set_option maxRecDepth 20000 in
theorem vX7_told_180 {E : zE} {d : Nat} {X : zX} {P : Int → zM → Prop} {M : zM} (hr : (xh X).sig.returnType = (some .int)) (a0 : Nat) (x1 : Int) (x2 : Int) (x3 : Int) (x4 : Int) (x5 : Int)
    (h : zK M a0 = (8, 25) ∧ (((zI M a0 8) ≤ x5 → P x3 M) ∧ (x5 < (zI M a0 8) → zK M a0 = (8, 25) ∧ zin (40 * x1) ∧ zin ((40 * x1) + x5) ∧ ∃ b6, zR M a0 17 = some b6 ∧ (zK M b6).1 = 10 ∧ 0 ≤ ((40 * x1) + x5) ∧ ((40 * x1) + x5) < ((zK M b6).2 : Int) ∧ (((zI M b6 ((40 * x1) + x5)) = 0 → zin (x3 + 0) ∧ zin (x5 + 1) ∧ ZX7_told E d X P 180 [(0, vR (some a0)), (1, vI x1), (2, vI x2), (3, vI (x3 + 0)), (4, vI x4), (5, vI (x5 + 1))] [] M 0 0) ∧ ((zI M b6 ((40 * x1) + x5)) ≠ 0 → zin (x3 + 1) ∧ zin (x5 + 1) ∧ ZX7_told E d X P 180 [(0, vR (some a0)), (1, vI x1), (2, vI x2), (3, vI (x3 + 1)), (4, vI x4), (5, vI (x5 + 1))] [] M 0 0))))) :
    ZX7_told E d X P 180 [(0, vR (some a0)), (1, vI x1), (2, vI x2), (3, vI x3), (4, vI x4), (5, vI x5)] [] M 0 0 := by
  refine z_iload 5 dX7_told_180 rfl ?_
  refine z_aload_n 0 dX7_told_182 rfl ?_
  obtain ⟨q1, h⟩ := h
  refine z_getI fl_X7_74 dX7_told_183 q1 ?_
  refine z_icmp_ge (tgt := 218) dX7_told_186 (by decide) (fun q2 => ?_) (fun q2 => ?_)
  · have h := h.1 q2
    refine z_iload_n 3 dX7_told_218 rfl ?_
    exact z_iret hr dX7_told_219 (Nat.le_of_ble_eq_true rfl) (Nat.le_of_ble_eq_true rfl) ⟨_, rfl, h⟩
  · have h := h.2 q2
    refine z_iload_n 3 dX7_told_189 rfl ?_
    refine z_aload_n 0 dX7_told_190 rfl ?_
    obtain ⟨q3, h⟩ := h
    refine z_getR fl_X7_50 rfl dX7_told_191 q3 ?_
    refine z_bipush dX7_told_194 (by decide) ?_
    refine z_iload_n 1 dX7_told_196 rfl ?_
    obtain ⟨q4, h⟩ := h
    refine z_imul dX7_told_197 q4 ?_
    refine z_iload 5 dX7_told_198 rfl ?_
    obtain ⟨q5, h⟩ := h
    refine z_iadd dX7_told_200 q5 ?_
    obtain ⟨b6, eb6, h⟩ := h
    rw [eb6]
    obtain ⟨q7, h⟩ := h
    obtain ⟨q8, h⟩ := h
    obtain ⟨q9, h⟩ := h
    refine z_bald dX7_told_201 (n := (zK M b6).2) (Prod.ext q7 rfl) q8 q9 ?_
    refine z_if_eq (tgt := 209) dX7_told_202 (by decide) (fun q10 => ?_) (fun q10 => ?_)
    · have h := h.1 q10
      refine z_iconst dX7_told_209 (by decide) ?_
      obtain ⟨q11, h⟩ := h
      refine z_iadd dX7_told_210 q11 ?_
      refine z_istore_n dX7_told_211 (by decide) rfl ?_
      obtain ⟨q12, h⟩ := h
      refine z_iinc 5 dX7_told_212 rfl (by decide) q12 rfl ?_
      refine z_goto (tgt := 180) dX7_told_215 (by decide) ?_
      exact z_sub [2, 3, 4, 1, 5, 0] rfl h
    · have h := h.2 q10
      refine z_iconst dX7_told_205 (by decide) ?_
      refine z_goto (tgt := 210) dX7_told_206 (by decide) ?_
      obtain ⟨q13, h⟩ := h
      refine z_iadd dX7_told_210 q13 ?_
      refine z_istore_n dX7_told_211 (by decide) rfl ?_
      obtain ⟨q14, h⟩ := h
      refine z_iinc 5 dX7_told_212 rfl (by decide) q14 rfl ?_
      refine z_goto (tgt := 180) dX7_told_215 (by decide) ?_
      exact z_sub [2, 3, 4, 1, 5, 0] rfl h
theorem sX7_told {E : zE} {d : Nat} {P : Int → zM → Prop} {M : zM} (a0 : Nat) (x1 : Int) (x2 : Int) (h : ∀ X : zX, (xh X).sig.returnType = (some .int) → ZX7_told E d X P 0 [(0, vR (some a0)), (1, vI x1), (2, vI x2)] [] M 0 0) : zCi E mX7_told (d + 1) 0 0 [vR (some a0), vI x1, vI x2] M P := z_start (f := mX7_told) rfl (Nat.le_of_ble_eq_true rfl) rfl h
abbrev ZX7_load (E : zE) (d : Nat) (X : zX) (P : Int → zM → Prop) (pc : Nat) (Lc : List (Nat × zV)) (S : List zV) (M : zM) (ce sl : Nat) : Prop := zZ cX7_load RX7 "load" 5 E (zrm (d + 1) 0 0) X (zQ E (zPi P) X 0 0) pc Lc S M ce sl
set_option maxRecDepth 20000 in
theorem vX7_load_0 {E : zE} {d : Nat} {X : zX} {P : Int → zM → Prop} {M : zM} (hr : (xh X).sig.returnType = (some .int)) (a0 : Nat) (x1 : Int) (x2 : Int)
    (h : ∃ P1 : Int → zM → Prop, zCi E mX7_in d 0 0 [vI x1, vI 0, vI 399] M P1 ∧ ∀ r4 M3, P1 r4 M3 → ((r4 = 0 → P (-1) M3) ∧ (r4 ≠ 0 → ∃ P7 : Int → zM → Prop, zCi E mX7_in d 0 0 [vI x2, vI 0, vI 8] M3 P7 ∧ ∀ r10 M9, P7 r10 M9 → ((r10 ≠ 0 → ZX7_load E d X P 28 [(0, vR (some a0)), (1, vI x1), (2, vI x2), (3, vI 0), (4, vI 0)] [] M9 0 0) ∧ (r10 = 0 → P (-1) M9))))) :
    ZX7_load E d X P 0 [(0, vR (some a0)), (1, vI x1), (2, vI x2)] [] M 0 0 := by
  refine z_iload_n 1 dX7_load_0 rfl ?_
  refine z_iconst dX7_load_1 (by decide) ?_
  refine z_sipush dX7_load_2 (by decide) ?_
  obtain ⟨P1, c2, h⟩ := h
  refine z_Si (as := [vI x1, vI 0, vI 399]) ms_X7_78 dX7_load_5 c2 rfl rfl (Nat.le_of_ble_eq_true rfl) (Nat.le_of_ble_eq_true rfl) (Nat.le_of_ble_eq_true rfl) (fun r4 M3 p5 => ?_)
  have h := h r4 M3 p5
  refine z_if_eq (tgt := 21) dX7_load_8 (by decide) (fun q6 => ?_) (fun q6 => ?_)
  · have h := h.1 q6
    refine z_iconst dX7_load_21 (by decide) ?_
    exact z_iret hr dX7_load_22 (Nat.le_of_ble_eq_true rfl) (Nat.le_of_ble_eq_true rfl) ⟨_, rfl, h⟩
  · have h := h.2 q6
    refine z_iload_n 2 dX7_load_11 rfl ?_
    refine z_iconst dX7_load_12 (by decide) ?_
    refine z_bipush dX7_load_13 (by decide) ?_
    obtain ⟨P7, c8, h⟩ := h
    refine z_Si (as := [vI x2, vI 0, vI 8]) ms_X7_78 dX7_load_15 c8 rfl rfl (Nat.le_of_ble_eq_true rfl) (Nat.le_of_ble_eq_true rfl) (Nat.le_of_ble_eq_true rfl) (fun r10 M9 p11 => ?_)
    have h := h r10 M9 p11
    refine z_if_ne (tgt := 23) dX7_load_18 (by decide) (fun q12 => ?_) (fun q12 => ?_)
    · have h := h.1 q12
      refine z_iconst dX7_load_23 (by decide) ?_
      refine z_istore_n dX7_load_24 (by decide) rfl ?_
      refine z_iconst dX7_load_25 (by decide) ?_
      refine z_istore dX7_load_26 (by decide) rfl ?_
      exact z_sub [2, 3, 4, 1, 0] rfl h
    · have h := h.2 q12
      refine z_iconst dX7_load_21 (by decide) ?_
      exact z_iret hr dX7_load_22 (Nat.le_of_ble_eq_true rfl) (Nat.le_of_ble_eq_true rfl) ⟨_, rfl, h⟩
set_option maxRecDepth 20000 in
theorem vX7_load_28 {E : zE} {d : Nat} {X : zX} {P : Int → zM → Prop} {M : zM} (hr : (xh X).sig.returnType = (some .int)) (a0 : Nat) (x1 : Int) (x2 : Int) (x3 : Int) (x4 : Int)
    (h : zK M a0 = (8, 25) ∧ (((zI M a0 8) ≤ x4 → P x3 M) ∧ (x4 < (zI M a0 8) → zK M a0 = (8, 25) ∧ ∃ P3 : Int → zM → Prop, zCi E mX7_isIn d 0 0 [vR (some a0), vI x4, vI x1] M P3 ∧ ∀ r6 M5, P3 r6 M5 → ((r6 ≠ 0 → ((4 ≤ x2 → ((8 ≤ x2 → zin (x3 + 1) ∧ zin (x4 + 1) ∧ ZX7_load E d X P 28 [(0, vR (some a0)), (1, vI x1), (2, vI x2), (3, vI (x3 + 1)), (4, vI (x4 + 1))] [] M5 0 0) ∧ (x2 < 8 → zK M5 a0 = (8, 25) ∧ ∃ b15, zR M5 a0 14 = some b15 ∧ (zK M5 b15).1 = 9 ∧ 0 ≤ x4 ∧ x4 < ((zK M5 b15).2 : Int) ∧ zin (x2 - 4) ∧ (((zI M5 b15 x4) ≠ (x2 - 4) → zin (x3 + 0) ∧ zin (x4 + 1) ∧ ZX7_load E d X P 28 [(0, vR (some a0)), (1, vI x1), (2, vI x2), (3, vI (x3 + 0)), (4, vI (x4 + 1))] [] M5 0 0) ∧ ((zI M5 b15 x4) = (x2 - 4) → zin (x3 + 1) ∧ zin (x4 + 1) ∧ ZX7_load E d X P 28 [(0, vR (some a0)), (1, vI x1), (2, vI x2), (3, vI (x3 + 1)), (4, vI (x4 + 1))] [] M5 0 0))))) ∧ (x2 < 4 → zK M5 a0 = (8, 25) ∧ ∃ b26, zR M5 a0 10 = some b26 ∧ (zK M5 b26).1 = 9 ∧ 0 ≤ x4 ∧ x4 < ((zK M5 b26).2 : Int) ∧ (((zI M5 b26 x4) ≠ x2 → zin (x3 + 0) ∧ zin (x4 + 1) ∧ ZX7_load E d X P 28 [(0, vR (some a0)), (1, vI x1), (2, vI x2), (3, vI (x3 + 0)), (4, vI (x4 + 1))] [] M5 0 0) ∧ ((zI M5 b26 x4) = x2 → zK M5 a0 = (8, 25) ∧ ∃ b34, zR M5 a0 11 = some b34 ∧ (zK M5 b34).1 = 9 ∧ 0 ≤ x4 ∧ x4 < ((zK M5 b34).2 : Int) ∧ zin (x3 + (zI M5 b34 x4)) ∧ zin (x4 + 1) ∧ ZX7_load E d X P 28 [(0, vR (some a0)), (1, vI x1), (2, vI x2), (3, vI (x3 + (zI M5 b34 x4))), (4, vI (x4 + 1))] [] M5 0 0))))) ∧ (r6 = 0 → zin (x4 + 1) ∧ ZX7_load E d X P 28 [(0, vR (some a0)), (1, vI x1), (2, vI x2), (3, vI x3), (4, vI (x4 + 1))] [] M5 0 0))))) :
    ZX7_load E d X P 28 [(0, vR (some a0)), (1, vI x1), (2, vI x2), (3, vI x3), (4, vI x4)] [] M 0 0 := by
  refine z_iload 4 dX7_load_28 rfl ?_
  refine z_aload_n 0 dX7_load_30 rfl ?_
  obtain ⟨q1, h⟩ := h
  refine z_getI fl_X7_74 dX7_load_31 q1 ?_
  refine z_icmp_ge (tgt := 122) dX7_load_34 (by decide) (fun q2 => ?_) (fun q2 => ?_)
  · have h := h.1 q2
    refine z_iload_n 3 dX7_load_122 rfl ?_
    exact z_iret hr dX7_load_123 (Nat.le_of_ble_eq_true rfl) (Nat.le_of_ble_eq_true rfl) ⟨_, rfl, h⟩
  · have h := h.2 q2
    refine z_aload_n 0 dX7_load_37 rfl ?_
    refine z_iload 4 dX7_load_38 rfl ?_
    refine z_iload_n 1 dX7_load_40 rfl ?_
    obtain ⟨q8, h⟩ := h
    obtain ⟨P3, c4, h⟩ := h
    refine z_Vi (as := [vI x4, vI x1]) mv_X7_116 dX7_load_41 c4 q8 rfl rfl (Nat.le_of_ble_eq_true rfl) (Nat.le_of_ble_eq_true rfl) (Nat.le_of_ble_eq_true rfl) (fun r6 M5 p7 => ?_)
    have h := h r6 M5 p7
    refine z_if_ne (tgt := 50) dX7_load_44 (by decide) (fun q9 => ?_) (fun q9 => ?_)
    · have h := h.1 q9
      refine z_iload_n 2 dX7_load_50 rfl ?_
      refine z_iconst dX7_load_51 (by decide) ?_
      refine z_icmp_ge (tgt := 83) dX7_load_52 (by decide) (fun q10 => ?_) (fun q10 => ?_)
      · have h := h.1 q10
        refine z_iload_n 2 dX7_load_83 rfl ?_
        refine z_bipush dX7_load_84 (by decide) ?_
        refine z_icmp_ge (tgt := 113) dX7_load_86 (by decide) (fun q11 => ?_) (fun q11 => ?_)
        · have h := h.1 q11
          obtain ⟨q12, h⟩ := h
          refine z_iinc 3 dX7_load_113 rfl (by decide) q12 rfl ?_
          obtain ⟨q13, h⟩ := h
          refine z_iinc 4 dX7_load_116 rfl (by decide) q13 rfl ?_
          refine z_goto (tgt := 28) dX7_load_119 (by decide) ?_
          exact z_sub [2, 3, 4, 1, 0] rfl h
        · have h := h.2 q11
          refine z_iload_n 3 dX7_load_89 rfl ?_
          refine z_aload_n 0 dX7_load_90 rfl ?_
          obtain ⟨q14, h⟩ := h
          refine z_getR fl_X7_41 rfl dX7_load_91 q14 ?_
          refine z_iload 4 dX7_load_94 rfl ?_
          obtain ⟨b15, eb15, h⟩ := h
          rw [eb15]
          obtain ⟨q16, h⟩ := h
          obtain ⟨q17, h⟩ := h
          obtain ⟨q18, h⟩ := h
          refine z_iald dX7_load_96 (n := (zK M5 b15).2) (Prod.ext q16 rfl) q17 q18 ?_
          refine z_iload_n 2 dX7_load_97 rfl ?_
          refine z_iconst dX7_load_98 (by decide) ?_
          obtain ⟨q19, h⟩ := h
          refine z_isub dX7_load_99 q19 ?_
          refine z_icmp_ne (tgt := 107) dX7_load_100 (by decide) (fun q20 => ?_) (fun q20 => ?_)
          · have h := h.1 q20
            refine z_iconst dX7_load_107 (by decide) ?_
            obtain ⟨q21, h⟩ := h
            refine z_iadd dX7_load_108 q21 ?_
            refine z_istore_n dX7_load_109 (by decide) rfl ?_
            refine z_goto (tgt := 116) dX7_load_110 (by decide) ?_
            obtain ⟨q22, h⟩ := h
            refine z_iinc 4 dX7_load_116 rfl (by decide) q22 rfl ?_
            refine z_goto (tgt := 28) dX7_load_119 (by decide) ?_
            exact z_sub [2, 3, 4, 1, 0] rfl h
          · have h := h.2 q20
            refine z_iconst dX7_load_103 (by decide) ?_
            refine z_goto (tgt := 108) dX7_load_104 (by decide) ?_
            obtain ⟨q23, h⟩ := h
            refine z_iadd dX7_load_108 q23 ?_
            refine z_istore_n dX7_load_109 (by decide) rfl ?_
            refine z_goto (tgt := 116) dX7_load_110 (by decide) ?_
            obtain ⟨q24, h⟩ := h
            refine z_iinc 4 dX7_load_116 rfl (by decide) q24 rfl ?_
            refine z_goto (tgt := 28) dX7_load_119 (by decide) ?_
            exact z_sub [2, 3, 4, 1, 0] rfl h
      · have h := h.2 q10
        refine z_iload_n 3 dX7_load_55 rfl ?_
        refine z_aload_n 0 dX7_load_56 rfl ?_
        obtain ⟨q25, h⟩ := h
        refine z_getR fl_X7_29 rfl dX7_load_57 q25 ?_
        refine z_iload 4 dX7_load_60 rfl ?_
        obtain ⟨b26, eb26, h⟩ := h
        rw [eb26]
        obtain ⟨q27, h⟩ := h
        obtain ⟨q28, h⟩ := h
        obtain ⟨q29, h⟩ := h
        refine z_iald dX7_load_62 (n := (zK M5 b26).2) (Prod.ext q27 rfl) q28 q29 ?_
        refine z_iload_n 2 dX7_load_63 rfl ?_
        refine z_icmp_ne (tgt := 77) dX7_load_64 (by decide) (fun q30 => ?_) (fun q30 => ?_)
        · have h := h.1 q30
          refine z_iconst dX7_load_77 (by decide) ?_
          obtain ⟨q31, h⟩ := h
          refine z_iadd dX7_load_78 q31 ?_
          refine z_istore_n dX7_load_79 (by decide) rfl ?_
          refine z_goto (tgt := 116) dX7_load_80 (by decide) ?_
          obtain ⟨q32, h⟩ := h
          refine z_iinc 4 dX7_load_116 rfl (by decide) q32 rfl ?_
          refine z_goto (tgt := 28) dX7_load_119 (by decide) ?_
          exact z_sub [2, 3, 4, 1, 0] rfl h
        · have h := h.2 q30
          refine z_aload_n 0 dX7_load_67 rfl ?_
          obtain ⟨q33, h⟩ := h
          refine z_getR fl_X7_32 rfl dX7_load_68 q33 ?_
          refine z_iload 4 dX7_load_71 rfl ?_
          obtain ⟨b34, eb34, h⟩ := h
          rw [eb34]
          obtain ⟨q35, h⟩ := h
          obtain ⟨q36, h⟩ := h
          obtain ⟨q37, h⟩ := h
          refine z_iald dX7_load_73 (n := (zK M5 b34).2) (Prod.ext q35 rfl) q36 q37 ?_
          refine z_goto (tgt := 78) dX7_load_74 (by decide) ?_
          obtain ⟨q38, h⟩ := h
          refine z_iadd dX7_load_78 q38 ?_
          refine z_istore_n dX7_load_79 (by decide) rfl ?_
          refine z_goto (tgt := 116) dX7_load_80 (by decide) ?_
          obtain ⟨q39, h⟩ := h
          refine z_iinc 4 dX7_load_116 rfl (by decide) q39 rfl ?_
          refine z_goto (tgt := 28) dX7_load_119 (by decide) ?_
          exact z_sub [2, 3, 4, 1, 0] rfl h
    · have h := h.2 q9
      refine z_goto (tgt := 116) dX7_load_47 (by decide) ?_
      obtain ⟨q40, h⟩ := h
      refine z_iinc 4 dX7_load_116 rfl (by decide) q40 rfl ?_
      refine z_goto (tgt := 28) dX7_load_119 (by decide) ?_
      exact z_sub [1, 2, 3, 4, 0] rfl h
theorem sX7_load {E : zE} {d : Nat} {P : Int → zM → Prop} {M : zM} (a0 : Nat) (x1 : Int) (x2 : Int) (h : ∀ X : zX, (xh X).sig.returnType = (some .int) → ZX7_load E d X P 0 [(0, vR (some a0)), (1, vI x1), (2, vI x2)] [] M 0 0) : zCi E mX7_load (d + 1) 0 0 [vR (some a0), vI x1, vI x2] M P := z_start (f := mX7_load) rfl (Nat.le_of_ble_eq_true rfl) rfl h
abbrev ZX7_count (E : zE) (d : Nat) (X : zX) (P : Int → zM → Prop) (pc : Nat) (Lc : List (Nat × zV)) (S : List zV) (M : zM) (ce sl : Nat) : Prop := zZ cX7_count RX7 "count" 4 E (zrm (d + 1) 0 0) X (zQ E (zPi P) X 0 0) pc Lc S M ce sl
set_option maxRecDepth 20000 in
theorem vX7_count_0 {E : zE} {d : Nat} {X : zX} {P : Int → zM → Prop} {M : zM} (hr : (xh X).sig.returnType = (some .int)) (a0 : Nat) (x1 : Int)
    (h : ((x1 = 0 → zK M a0 = (8, 25) ∧ P (zI M a0 0) M) ∧ (x1 = 1 → zK M a0 = (8, 25) ∧ P (zI M a0 1) M) ∧ (x1 = 2 → zK M a0 = (8, 25) ∧ P (zI M a0 8) M) ∧ (x1 = 3 → ZX7_count E d X P 61 [(0, vR (some a0)), (1, vI x1), (2, vI 0), (3, vI 0)] [] M 0 0) ∧ (x1 = 4 → ZX7_count E d X P 95 [(0, vR (some a0)), (1, vI x1), (2, vI 0), (3, vI 0)] [] M 0 0) ∧ (x1 = 5 → zK M a0 = (8, 25) ∧ P (zI M a0 6) M) ∧ (x1 = 6 → zK M a0 = (8, 25) ∧ ∃ P12 : Int → zM → Prop, zCi E mX7_way d 0 0 [vR (some a0)] M P12 ∧ ∀ r15 M14, P12 r15 M14 → P r15 M14) ∧ ((x1 < 0 ∨ 6 < x1) → P (-1) M))) :
    ZX7_count E d X P 0 [(0, vR (some a0)), (1, vI x1)] [] M 0 0 := by
  refine z_iconst dX7_count_0 (by decide) ?_
  refine z_istore_n dX7_count_1 (by decide) rfl ?_
  refine z_iload_n 2 dX7_count_2 rfl ?_
  obtain ⟨hq1, h⟩ := h
  by_cases q1 : x1 = 0
  · refine z_tableIn (tgt := 44) dX7_count_3 0 q1 (by decide) (by decide) rfl (by decide) ?_
    have h := hq1 q1
    refine z_aload_n 1 dX7_count_44 rfl ?_
    obtain ⟨q2, h⟩ := h
    refine z_getI fl_X7_93 dX7_count_45 q2 ?_
    exact z_iret hr dX7_count_48 (Nat.le_of_ble_eq_true rfl) (Nat.le_of_ble_eq_true rfl) ⟨_, rfl, h⟩
  obtain ⟨hq3, h⟩ := h
  by_cases q3 : x1 = 1
  · refine z_tableIn (tgt := 49) dX7_count_3 1 q3 (by decide) (by decide) rfl (by decide) ?_
    have h := hq3 q3
    refine z_aload_n 1 dX7_count_49 rfl ?_
    obtain ⟨q4, h⟩ := h
    refine z_getI fl_X7_82 dX7_count_50 q4 ?_
    exact z_iret hr dX7_count_53 (Nat.le_of_ble_eq_true rfl) (Nat.le_of_ble_eq_true rfl) ⟨_, rfl, h⟩
  obtain ⟨hq5, h⟩ := h
  by_cases q5 : x1 = 2
  · refine z_tableIn (tgt := 54) dX7_count_3 2 q5 (by decide) (by decide) rfl (by decide) ?_
    have h := hq5 q5
    refine z_aload_n 1 dX7_count_54 rfl ?_
    obtain ⟨q6, h⟩ := h
    refine z_getI fl_X7_74 dX7_count_55 q6 ?_
    exact z_iret hr dX7_count_58 (Nat.le_of_ble_eq_true rfl) (Nat.le_of_ble_eq_true rfl) ⟨_, rfl, h⟩
  obtain ⟨hq7, h⟩ := h
  by_cases q7 : x1 = 3
  · refine z_tableIn (tgt := 59) dX7_count_3 3 q7 (by decide) (by decide) rfl (by decide) ?_
    have h := hq7 q7
    refine z_iconst dX7_count_59 (by decide) ?_
    refine z_istore_n dX7_count_60 (by decide) rfl ?_
    exact z_sub [2, 3, 1, 0] rfl h
  obtain ⟨hq8, h⟩ := h
  by_cases q8 : x1 = 4
  · refine z_tableIn (tgt := 93) dX7_count_3 4 q8 (by decide) (by decide) rfl (by decide) ?_
    have h := hq8 q8
    refine z_iconst dX7_count_93 (by decide) ?_
    refine z_istore_n dX7_count_94 (by decide) rfl ?_
    exact z_sub [2, 3, 1, 0] rfl h
  obtain ⟨hq9, h⟩ := h
  by_cases q9 : x1 = 5
  · refine z_tableIn (tgt := 127) dX7_count_3 5 q9 (by decide) (by decide) rfl (by decide) ?_
    have h := hq9 q9
    refine z_aload_n 1 dX7_count_127 rfl ?_
    obtain ⟨q10, h⟩ := h
    refine z_getI fl_X7_85 dX7_count_128 q10 ?_
    exact z_iret hr dX7_count_131 (Nat.le_of_ble_eq_true rfl) (Nat.le_of_ble_eq_true rfl) ⟨_, rfl, h⟩
  obtain ⟨hq11, h⟩ := h
  by_cases q11 : x1 = 6
  · refine z_tableIn (tgt := 132) dX7_count_3 6 q11 (by decide) (by decide) rfl (by decide) ?_
    have h := hq11 q11
    refine z_aload_n 1 dX7_count_132 rfl ?_
    obtain ⟨q17, h⟩ := h
    obtain ⟨P12, c13, h⟩ := h
    refine z_Vi (as := []) mv_X7_132 dX7_count_133 c13 q17 rfl rfl (Nat.le_of_ble_eq_true rfl) (Nat.le_of_ble_eq_true rfl) (Nat.le_of_ble_eq_true rfl) (fun r15 M14 p16 => ?_)
    have h := h r15 M14 p16
    exact z_iret hr dX7_count_136 (Nat.le_of_ble_eq_true rfl) (Nat.le_of_ble_eq_true rfl) ⟨_, rfl, h⟩
  have ho18 := zo_0_6 x1 q1 q3 q5 q7 q8 q9 q11
  refine z_tableOut (tgt := 137) dX7_count_3 ho18 (by decide) ?_
  have h := h ho18
  refine z_iconst dX7_count_137 (by decide) ?_
  exact z_iret hr dX7_count_138 (Nat.le_of_ble_eq_true rfl) (Nat.le_of_ble_eq_true rfl) ⟨_, rfl, h⟩
set_option maxRecDepth 20000 in
theorem vX7_count_61 {E : zE} {d : Nat} {X : zX} {P : Int → zM → Prop} {M : zM} (hr : (xh X).sig.returnType = (some .int)) (a0 : Nat) (x1 : Int) (x2 : Int) (x3 : Int)
    (h : zK M a0 = (8, 25) ∧ (((zI M a0 8) ≤ x3 → P x2 M) ∧ (x3 < (zI M a0 8) → zK M a0 = (8, 25) ∧ ∃ P3 : Int → zM → Prop, zCi E mX7_isPut d 0 0 [vR (some a0), vI x3] M P3 ∧ ∀ r6 M5, P3 r6 M5 → ((r6 = 0 → zin (x2 + 1) ∧ zin (x3 + 1) ∧ ZX7_count E d X P 61 [(0, vR (some a0)), (1, vI x1), (2, vI (x2 + 1)), (3, vI (x3 + 1))] [] M5 0 0) ∧ (r6 ≠ 0 → zin (x2 + 0) ∧ zin (x3 + 1) ∧ ZX7_count E d X P 61 [(0, vR (some a0)), (1, vI x1), (2, vI (x2 + 0)), (3, vI (x3 + 1))] [] M5 0 0))))) :
    ZX7_count E d X P 61 [(0, vR (some a0)), (1, vI x1), (2, vI x2), (3, vI x3)] [] M 0 0 := by
  refine z_iload_n 3 dX7_count_61 rfl ?_
  refine z_aload_n 0 dX7_count_62 rfl ?_
  obtain ⟨q1, h⟩ := h
  refine z_getI fl_X7_74 dX7_count_63 q1 ?_
  refine z_icmp_ge (tgt := 91) dX7_count_66 (by decide) (fun q2 => ?_) (fun q2 => ?_)
  · have h := h.1 q2
    refine z_iload_n 2 dX7_count_91 rfl ?_
    exact z_iret hr dX7_count_92 (Nat.le_of_ble_eq_true rfl) (Nat.le_of_ble_eq_true rfl) ⟨_, rfl, h⟩
  · have h := h.2 q2
    refine z_iload_n 2 dX7_count_69 rfl ?_
    refine z_aload_n 0 dX7_count_70 rfl ?_
    refine z_iload_n 3 dX7_count_71 rfl ?_
    obtain ⟨q8, h⟩ := h
    obtain ⟨P3, c4, h⟩ := h
    refine z_Vi (as := [vI x3]) mv_X7_89 dX7_count_72 c4 q8 rfl rfl (Nat.le_of_ble_eq_true rfl) (Nat.le_of_ble_eq_true rfl) (Nat.le_of_ble_eq_true rfl) (fun r6 M5 p7 => ?_)
    have h := h r6 M5 p7
    refine z_if_eq (tgt := 82) dX7_count_75 (by decide) (fun q9 => ?_) (fun q9 => ?_)
    · have h := h.1 q9
      refine z_iconst dX7_count_82 (by decide) ?_
      obtain ⟨q10, h⟩ := h
      refine z_iadd dX7_count_83 q10 ?_
      refine z_istore_n dX7_count_84 (by decide) rfl ?_
      obtain ⟨q11, h⟩ := h
      refine z_iinc 3 dX7_count_85 rfl (by decide) q11 rfl ?_
      refine z_goto (tgt := 61) dX7_count_88 (by decide) ?_
      exact z_sub [2, 3, 1, 0] rfl h
    · have h := h.2 q9
      refine z_iconst dX7_count_78 (by decide) ?_
      refine z_goto (tgt := 83) dX7_count_79 (by decide) ?_
      obtain ⟨q12, h⟩ := h
      refine z_iadd dX7_count_83 q12 ?_
      refine z_istore_n dX7_count_84 (by decide) rfl ?_
      obtain ⟨q13, h⟩ := h
      refine z_iinc 3 dX7_count_85 rfl (by decide) q13 rfl ?_
      refine z_goto (tgt := 61) dX7_count_88 (by decide) ?_
      exact z_sub [2, 3, 1, 0] rfl h
set_option maxRecDepth 20000 in
theorem vX7_count_95 {E : zE} {d : Nat} {X : zX} {P : Int → zM → Prop} {M : zM} (hr : (xh X).sig.returnType = (some .int)) (a0 : Nat) (x1 : Int) (x2 : Int) (x3 : Int)
    (h : zK M a0 = (8, 25) ∧ (((zI M a0 8) ≤ x3 → P x2 M) ∧ (x3 < (zI M a0 8) → zK M a0 = (8, 25) ∧ ∃ P3 : Int → zM → Prop, zCi E mX7_isDone d 0 0 [vR (some a0), vI x3] M P3 ∧ ∀ r6 M5, P3 r6 M5 → ((r6 = 0 → zin (x2 + 0) ∧ zin (x3 + 1) ∧ ZX7_count E d X P 95 [(0, vR (some a0)), (1, vI x1), (2, vI (x2 + 0)), (3, vI (x3 + 1))] [] M5 0 0) ∧ (r6 ≠ 0 → zin (x2 + 1) ∧ zin (x3 + 1) ∧ ZX7_count E d X P 95 [(0, vR (some a0)), (1, vI x1), (2, vI (x2 + 1)), (3, vI (x3 + 1))] [] M5 0 0))))) :
    ZX7_count E d X P 95 [(0, vR (some a0)), (1, vI x1), (2, vI x2), (3, vI x3)] [] M 0 0 := by
  refine z_iload_n 3 dX7_count_95 rfl ?_
  refine z_aload_n 0 dX7_count_96 rfl ?_
  obtain ⟨q1, h⟩ := h
  refine z_getI fl_X7_74 dX7_count_97 q1 ?_
  refine z_icmp_ge (tgt := 125) dX7_count_100 (by decide) (fun q2 => ?_) (fun q2 => ?_)
  · have h := h.1 q2
    refine z_iload_n 2 dX7_count_125 rfl ?_
    exact z_iret hr dX7_count_126 (Nat.le_of_ble_eq_true rfl) (Nat.le_of_ble_eq_true rfl) ⟨_, rfl, h⟩
  · have h := h.2 q2
    refine z_iload_n 2 dX7_count_103 rfl ?_
    refine z_aload_n 0 dX7_count_104 rfl ?_
    refine z_iload_n 3 dX7_count_105 rfl ?_
    obtain ⟨q8, h⟩ := h
    obtain ⟨P3, c4, h⟩ := h
    refine z_Vi (as := [vI x3]) mv_X7_148 dX7_count_106 c4 q8 rfl rfl (Nat.le_of_ble_eq_true rfl) (Nat.le_of_ble_eq_true rfl) (Nat.le_of_ble_eq_true rfl) (fun r6 M5 p7 => ?_)
    have h := h r6 M5 p7
    refine z_if_eq (tgt := 116) dX7_count_109 (by decide) (fun q9 => ?_) (fun q9 => ?_)
    · have h := h.1 q9
      refine z_iconst dX7_count_116 (by decide) ?_
      obtain ⟨q10, h⟩ := h
      refine z_iadd dX7_count_117 q10 ?_
      refine z_istore_n dX7_count_118 (by decide) rfl ?_
      obtain ⟨q11, h⟩ := h
      refine z_iinc 3 dX7_count_119 rfl (by decide) q11 rfl ?_
      refine z_goto (tgt := 95) dX7_count_122 (by decide) ?_
      exact z_sub [2, 3, 1, 0] rfl h
    · have h := h.2 q9
      refine z_iconst dX7_count_112 (by decide) ?_
      refine z_goto (tgt := 117) dX7_count_113 (by decide) ?_
      obtain ⟨q12, h⟩ := h
      refine z_iadd dX7_count_117 q12 ?_
      refine z_istore_n dX7_count_118 (by decide) rfl ?_
      obtain ⟨q13, h⟩ := h
      refine z_iinc 3 dX7_count_119 rfl (by decide) q13 rfl ?_
      refine z_goto (tgt := 95) dX7_count_122 (by decide) ?_
      exact z_sub [2, 3, 1, 0] rfl h
theorem sX7_count {E : zE} {d : Nat} {P : Int → zM → Prop} {M : zM} (a0 : Nat) (x1 : Int) (h : ∀ X : zX, (xh X).sig.returnType = (some .int) → ZX7_count E d X P 0 [(0, vR (some a0)), (1, vI x1)] [] M 0 0) : zCi E mX7_count (d + 1) 0 0 [vR (some a0), vI x1] M P := z_start (f := mX7_count) rfl (Nat.le_of_ble_eq_true rfl) rfl h
