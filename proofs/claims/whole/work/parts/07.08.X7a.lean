abbrev ZX7_fail (E : zE) (d : Nat) (X : zX) (P : Int → zM → Prop) (pc : Nat) (Lc : List (Nat × zV)) (S : List zV) (M : zM) (ce sl : Nat) : Prop := zZ cX7_fail RX7 "fail" 6 E (zrm (d + 1) 1 40) X (zQ E (zPi P) X 1 40) pc Lc S M ce sl
set_option maxRecDepth 20000 in
theorem vX7_fail_0 {E : zE} {d : Nat} {X : zX} {P : Int → zM → Prop} {M : zM} (hr : (xh X).sig.returnType = (some .int)) (a0 : Nat) (x1 : Int)
    (h : zK M a0 = (8, 25) ∧ ∃ P1 : Int → zM → Prop, zCi E mX7_isWork d 0 0 [vR (some a0), vI x1] M P1 ∧ ∀ r4 M3, P1 r4 M3 → ((r4 = 0 → P (-1) M3) ∧ (r4 ≠ 0 → zK M3 a0 = (8, 25) ∧ ∃ b9, zR M3 a0 13 = some b9 ∧ (zK M3 b9).1 = 9 ∧ 0 ≤ x1 ∧ x1 < ((zK M3 b9).2 : Int) ∧ (((zI M3 b9 x1) ≠ 4 → P (-1) M3) ∧ ((zI M3 b9 x1) = 4 → zK M3 a0 = (8, 25) ∧ ∃ P14 : Int → zM → Prop, zCi E mX7_isDone d 0 0 [vR (some a0), vI x1] M3 P14 ∧ ∀ r17 M16, P14 r17 M16 → ((r17 ≠ 0 → ∀ M21, M21 = znew M16 10 40 → ZX7_fail E d X P 35 [(0, vR (some a0)), (1, vI x1), (2, vR (some (zsz M16))), (3, vI 0)] [] M21 1 40) ∧ (r17 = 0 → P (-1) M16))))))) :
    ZX7_fail E d X P 0 [(0, vR (some a0)), (1, vI x1)] [] M 0 0 := by
  refine z_aload_n 0 dX7_fail_0 rfl ?_
  refine z_iload_n 1 dX7_fail_1 rfl ?_
  obtain ⟨q6, h⟩ := h
  obtain ⟨P1, c2, h⟩ := h
  refine z_Vi (as := [vI x1]) mv_X7_100 dX7_fail_2 c2 q6 rfl rfl (Nat.le_of_ble_eq_true rfl) (Nat.le_of_ble_eq_true rfl) (Nat.le_of_ble_eq_true rfl) (fun r4 M3 p5 => ?_)
  have h := h r4 M3 p5
  refine z_if_eq (tgt := 26) dX7_fail_5 (by decide) (fun q7 => ?_) (fun q7 => ?_)
  · have h := h.1 q7
    refine z_iconst dX7_fail_26 (by decide) ?_
    exact z_iret hr dX7_fail_27 (Nat.le_of_ble_eq_true rfl) (Nat.le_of_ble_eq_true rfl) ⟨_, rfl, h⟩
  · have h := h.2 q7
    refine z_aload_n 0 dX7_fail_8 rfl ?_
    obtain ⟨q8, h⟩ := h
    refine z_getR fl_X7_38 rfl dX7_fail_9 q8 ?_
    refine z_iload_n 1 dX7_fail_12 rfl ?_
    obtain ⟨b9, eb9, h⟩ := h
    rw [eb9]
    obtain ⟨q10, h⟩ := h
    obtain ⟨q11, h⟩ := h
    obtain ⟨q12, h⟩ := h
    refine z_iald dX7_fail_13 (n := (zK M3 b9).2) (Prod.ext q10 rfl) q11 q12 ?_
    refine z_iconst dX7_fail_14 (by decide) ?_
    refine z_icmp_ne (tgt := 26) dX7_fail_15 (by decide) (fun q13 => ?_) (fun q13 => ?_)
    · have h := h.1 q13
      refine z_iconst dX7_fail_26 (by decide) ?_
      exact z_iret hr dX7_fail_27 (Nat.le_of_ble_eq_true rfl) (Nat.le_of_ble_eq_true rfl) ⟨_, rfl, h⟩
    · have h := h.2 q13
      refine z_aload_n 0 dX7_fail_18 rfl ?_
      refine z_iload_n 1 dX7_fail_19 rfl ?_
      obtain ⟨q19, h⟩ := h
      obtain ⟨P14, c15, h⟩ := h
      refine z_Vi (as := [vI x1]) mv_X7_148 dX7_fail_20 c15 q19 rfl rfl (Nat.le_of_ble_eq_true rfl) (Nat.le_of_ble_eq_true rfl) (Nat.le_of_ble_eq_true rfl) (fun r17 M16 p18 => ?_)
      have h := h r17 M16 p18
      refine z_if_ne (tgt := 28) dX7_fail_23 (by decide) (fun q20 => ?_) (fun q20 => ?_)
      · have h := h.1 q20
        refine z_bipush dX7_fail_28 (by decide) ?_
        refine z_newa (at_ := .boolean) (tg := 10) (n := 40) (by simp) kw_760 dX7_fail_30 rfl (by decide) (Nat.le_of_ble_eq_true rfl) (Nat.le_of_ble_eq_true rfl) ?_
        obtain ⟨M21, hmM21⟩ : ∃ z, z = znew M16 10 40 := ⟨_, rfl⟩
        rw [← hmM21]
        have h := h M21 hmM21
        refine z_astore_n dX7_fail_32 (by decide) rfl ?_
        refine z_iconst dX7_fail_33 (by decide) ?_
        refine z_istore_n dX7_fail_34 (by decide) rfl ?_
        exact z_sub [2, 3, 1, 0] rfl h
      · have h := h.2 q20
        refine z_iconst dX7_fail_26 (by decide) ?_
        exact z_iret hr dX7_fail_27 (Nat.le_of_ble_eq_true rfl) (Nat.le_of_ble_eq_true rfl) ⟨_, rfl, h⟩
set_option maxRecDepth 20000 in
theorem vX7_fail_35 {E : zE} {d : Nat} {X : zX} {P : Int → zM → Prop} {M : zM} (hr : (xh X).sig.returnType = (some .int)) (a0 : Nat) (x1 : Int) (g2 : Option Nat) (x3 : Int)
    (h : zK M a0 = (8, 25) ∧ (((zI M a0 8) ≤ x3 → ZX7_fail E d X P 86 [(0, vR (some a0)), (1, vI x1), (2, vR g2), (3, vI 1)] [] M 1 40) ∧ (x3 < (zI M a0 8) → zK M a0 = (8, 25) ∧ ∃ P3 : Int → zM → Prop, zCi E mX7_isDone d 0 0 [vR (some a0), vI x3] M P3 ∧ ∀ r6 M5, P3 r6 M5 → ((r6 = 0 → ∃ b10, g2 = some b10 ∧ (zK M5 b10).1 = 10 ∧ 0 ≤ x3 ∧ x3 < ((zK M5 b10).2 : Int) ∧ ∀ M14, M14 = zsI M5 b10 x3 0 → zin (x3 + 1) ∧ ZX7_fail E d X P 35 [(0, vR (some a0)), (1, vI x1), (2, vR (some b10)), (3, vI (x3 + 1))] [] M14 1 40) ∧ (r6 ≠ 0 → ((x3 = x1 → ∃ b17, g2 = some b17 ∧ (zK M5 b17).1 = 10 ∧ 0 ≤ x3 ∧ x3 < ((zK M5 b17).2 : Int) ∧ ∀ M21, M21 = zsI M5 b17 x3 1 → zin (x3 + 1) ∧ ZX7_fail E d X P 35 [(0, vR (some a0)), (1, vI x1), (2, vR (some b17)), (3, vI (x3 + 1))] [] M21 1 40) ∧ (x3 ≠ x1 → zK M5 a0 = (8, 25) ∧ zin (40 * x1) ∧ zin ((40 * x1) + x3) ∧ ∃ b26, zR M5 a0 18 = some b26 ∧ (zK M5 b26).1 = 10 ∧ 0 ≤ ((40 * x1) + x3) ∧ ((40 * x1) + x3) < ((zK M5 b26).2 : Int) ∧ (((zI M5 b26 ((40 * x1) + x3)) = 0 → ∃ b31, g2 = some b31 ∧ (zK M5 b31).1 = 10 ∧ 0 ≤ x3 ∧ x3 < ((zK M5 b31).2 : Int) ∧ ∀ M35, M35 = zsI M5 b31 x3 0 → zin (x3 + 1) ∧ ZX7_fail E d X P 35 [(0, vR (some a0)), (1, vI x1), (2, vR (some b31)), (3, vI (x3 + 1))] [] M35 1 40) ∧ ((zI M5 b26 ((40 * x1) + x3)) ≠ 0 → ∃ b37, g2 = some b37 ∧ (zK M5 b37).1 = 10 ∧ 0 ≤ x3 ∧ x3 < ((zK M5 b37).2 : Int) ∧ ∀ M41, M41 = zsI M5 b37 x3 1 → zin (x3 + 1) ∧ ZX7_fail E d X P 35 [(0, vR (some a0)), (1, vI x1), (2, vR (some b37)), (3, vI (x3 + 1))] [] M41 1 40))))))))) :
    ZX7_fail E d X P 35 [(0, vR (some a0)), (1, vI x1), (2, vR g2), (3, vI x3)] [] M 1 40 := by
  refine z_iload_n 3 dX7_fail_35 rfl ?_
  refine z_aload_n 0 dX7_fail_36 rfl ?_
  obtain ⟨q1, h⟩ := h
  refine z_getI fl_X7_74 dX7_fail_37 q1 ?_
  refine z_icmp_ge (tgt := 84) dX7_fail_40 (by decide) (fun q2 => ?_) (fun q2 => ?_)
  · have h := h.1 q2
    refine z_iconst dX7_fail_84 (by decide) ?_
    refine z_istore_n dX7_fail_85 (by decide) rfl ?_
    exact z_sub [1, 2, 3, 0] rfl h
  · have h := h.2 q2
    refine z_aload_n 2 dX7_fail_43 rfl ?_
    refine z_iload_n 3 dX7_fail_44 rfl ?_
    refine z_aload_n 0 dX7_fail_45 rfl ?_
    refine z_iload_n 3 dX7_fail_46 rfl ?_
    obtain ⟨q8, h⟩ := h
    obtain ⟨P3, c4, h⟩ := h
    refine z_Vi (as := [vI x3]) mv_X7_148 dX7_fail_47 c4 q8 rfl rfl (Nat.le_of_ble_eq_true rfl) (Nat.le_of_ble_eq_true rfl) (Nat.le_of_ble_eq_true rfl) (fun r6 M5 p7 => ?_)
    have h := h r6 M5 p7
    refine z_if_eq (tgt := 76) dX7_fail_50 (by decide) (fun q9 => ?_) (fun q9 => ?_)
    · have h := h.1 q9
      refine z_iconst dX7_fail_76 (by decide) ?_
      obtain ⟨b10, eb10, h⟩ := h
      rw [eb10]
      obtain ⟨q11, h⟩ := h
      obtain ⟨q12, h⟩ := h
      obtain ⟨q13, h⟩ := h
      refine z_bast dX7_fail_77 (n := (zK M5 b10).2) (Prod.ext q11 rfl) q12 q13 (by decide) ?_
      obtain ⟨M14, hmM14⟩ : ∃ z, z = zsI M5 b10 x3 0 := ⟨_, rfl⟩
      rw [← hmM14]
      have h := h M14 hmM14
      obtain ⟨q15, h⟩ := h
      refine z_iinc 3 dX7_fail_78 rfl (by decide) q15 rfl ?_
      refine z_goto (tgt := 35) dX7_fail_81 (by decide) ?_
      exact z_sub [1, 2, 3, 0] rfl h
    · have h := h.2 q9
      refine z_iload_n 3 dX7_fail_53 rfl ?_
      refine z_iload_n 1 dX7_fail_54 rfl ?_
      refine z_icmp_eq (tgt := 72) dX7_fail_55 (by decide) (fun q16 => ?_) (fun q16 => ?_)
      · have h := h.1 q16
        refine z_iconst dX7_fail_72 (by decide) ?_
        refine z_goto (tgt := 77) dX7_fail_73 (by decide) ?_
        obtain ⟨b17, eb17, h⟩ := h
        rw [eb17]
        obtain ⟨q18, h⟩ := h
        obtain ⟨q19, h⟩ := h
        obtain ⟨q20, h⟩ := h
        refine z_bast dX7_fail_77 (n := (zK M5 b17).2) (Prod.ext q18 rfl) q19 q20 (by decide) ?_
        obtain ⟨M21, hmM21⟩ : ∃ z, z = zsI M5 b17 x3 1 := ⟨_, rfl⟩
        rw [← hmM21]
        have h := h M21 hmM21
        obtain ⟨q22, h⟩ := h
        refine z_iinc 3 dX7_fail_78 rfl (by decide) q22 rfl ?_
        refine z_goto (tgt := 35) dX7_fail_81 (by decide) ?_
        exact z_sub [1, 2, 3, 0] rfl h
      · have h := h.2 q16
        refine z_aload_n 0 dX7_fail_58 rfl ?_
        obtain ⟨q23, h⟩ := h
        refine z_getR fl_X7_53 rfl dX7_fail_59 q23 ?_
        refine z_bipush dX7_fail_62 (by decide) ?_
        refine z_iload_n 1 dX7_fail_64 rfl ?_
        obtain ⟨q24, h⟩ := h
        refine z_imul dX7_fail_65 q24 ?_
        refine z_iload_n 3 dX7_fail_66 rfl ?_
        obtain ⟨q25, h⟩ := h
        refine z_iadd dX7_fail_67 q25 ?_
        obtain ⟨b26, eb26, h⟩ := h
        rw [eb26]
        obtain ⟨q27, h⟩ := h
        obtain ⟨q28, h⟩ := h
        obtain ⟨q29, h⟩ := h
        refine z_bald dX7_fail_68 (n := (zK M5 b26).2) (Prod.ext q27 rfl) q28 q29 ?_
        refine z_if_eq (tgt := 76) dX7_fail_69 (by decide) (fun q30 => ?_) (fun q30 => ?_)
        · have h := h.1 q30
          refine z_iconst dX7_fail_76 (by decide) ?_
          obtain ⟨b31, eb31, h⟩ := h
          rw [eb31]
          obtain ⟨q32, h⟩ := h
          obtain ⟨q33, h⟩ := h
          obtain ⟨q34, h⟩ := h
          refine z_bast dX7_fail_77 (n := (zK M5 b31).2) (Prod.ext q32 rfl) q33 q34 (by decide) ?_
          obtain ⟨M35, hmM35⟩ : ∃ z, z = zsI M5 b31 x3 0 := ⟨_, rfl⟩
          rw [← hmM35]
          have h := h M35 hmM35
          obtain ⟨q36, h⟩ := h
          refine z_iinc 3 dX7_fail_78 rfl (by decide) q36 rfl ?_
          refine z_goto (tgt := 35) dX7_fail_81 (by decide) ?_
          exact z_sub [1, 2, 3, 0] rfl h
        · have h := h.2 q30
          refine z_iconst dX7_fail_72 (by decide) ?_
          refine z_goto (tgt := 77) dX7_fail_73 (by decide) ?_
          obtain ⟨b37, eb37, h⟩ := h
          rw [eb37]
          obtain ⟨q38, h⟩ := h
          obtain ⟨q39, h⟩ := h
          obtain ⟨q40, h⟩ := h
          refine z_bast dX7_fail_77 (n := (zK M5 b37).2) (Prod.ext q38 rfl) q39 q40 (by decide) ?_
          obtain ⟨M41, hmM41⟩ : ∃ z, z = zsI M5 b37 x3 1 := ⟨_, rfl⟩
          rw [← hmM41]
          have h := h M41 hmM41
          obtain ⟨q42, h⟩ := h
          refine z_iinc 3 dX7_fail_78 rfl (by decide) q42 rfl ?_
          refine z_goto (tgt := 35) dX7_fail_81 (by decide) ?_
          exact z_sub [1, 2, 3, 0] rfl h
set_option maxRecDepth 20000 in
theorem vX7_fail_86 {E : zE} {d : Nat} {X : zX} {P : Int → zM → Prop} {M : zM} (hr : (xh X).sig.returnType = (some .int)) (a0 : Nat) (x1 : Int) (g2 : Option Nat) (x3 : Int)
    (h : ((x3 = 0 → ZX7_fail E d X P 186 [(0, vR (some a0)), (1, vI x1), (2, vR g2), (3, vI x3), (4, vI 0), (5, vI 0)] [] M 1 40) ∧ (x3 ≠ 0 → ZX7_fail E d X P 95 [(0, vR (some a0)), (1, vI x1), (2, vR g2), (3, vI 0), (4, vI 0)] [] M 1 40))) :
    ZX7_fail E d X P 86 [(0, vR (some a0)), (1, vI x1), (2, vR g2), (3, vI x3)] [] M 1 40 := by
  refine z_iload_n 3 dX7_fail_86 rfl ?_
  refine z_if_eq (tgt := 180) dX7_fail_87 (by decide) (fun q1 => ?_) (fun q1 => ?_)
  · have h := h.1 q1
    refine z_iconst dX7_fail_180 (by decide) ?_
    refine z_istore dX7_fail_181 (by decide) rfl ?_
    refine z_iconst dX7_fail_183 (by decide) ?_
    refine z_istore dX7_fail_184 (by decide) rfl ?_
    exact z_sub [2, 3, 4, 5, 1, 0] rfl h
  · have h := h.2 q1
    refine z_iconst dX7_fail_90 (by decide) ?_
    refine z_istore_n dX7_fail_91 (by decide) rfl ?_
    refine z_iconst dX7_fail_92 (by decide) ?_
    refine z_istore dX7_fail_93 (by decide) rfl ?_
    exact z_sub [2, 3, 4, 1, 0] rfl h
set_option maxRecDepth 20000 in
theorem vX7_fail_95 {E : zE} {d : Nat} {X : zX} {P : Int → zM → Prop} {M : zM} (hr : (xh X).sig.returnType = (some .int)) (a0 : Nat) (x1 : Int) (g2 : Option Nat) (x3 : Int) (x4 : Int)
    (h : zK M a0 = (8, 25) ∧ (((zI M a0 8) ≤ x4 → ZX7_fail E d X P 86 [(0, vR (some a0)), (1, vI x1), (2, vR g2), (3, vI x3)] [] M 1 40) ∧ (x4 < (zI M a0 8) → ZX7_fail E d X P 107 [(0, vR (some a0)), (1, vI x1), (2, vR g2), (3, vI x3), (4, vI x4), (5, vI 0)] [] M 1 40))) :
    ZX7_fail E d X P 95 [(0, vR (some a0)), (1, vI x1), (2, vR g2), (3, vI x3), (4, vI x4)] [] M 1 40 := by
  refine z_iload 4 dX7_fail_95 rfl ?_
  refine z_aload_n 0 dX7_fail_97 rfl ?_
  obtain ⟨q1, h⟩ := h
  refine z_getI fl_X7_74 dX7_fail_98 q1 ?_
  refine z_icmp_ge (tgt := 177) dX7_fail_101 (by decide) (fun q2 => ?_) (fun q2 => ?_)
  · have h := h.1 q2
    refine z_goto (tgt := 86) dX7_fail_177 (by decide) ?_
    exact z_sub [0, 1, 2, 3] rfl h
  · have h := h.2 q2
    refine z_iconst dX7_fail_104 (by decide) ?_
    refine z_istore dX7_fail_105 (by decide) rfl ?_
    exact z_sub [1, 2, 3, 4, 5, 0] rfl h
set_option maxRecDepth 20000 in
theorem vX7_fail_107 {E : zE} {d : Nat} {X : zX} {P : Int → zM → Prop} {M : zM} (hr : (xh X).sig.returnType = (some .int)) (a0 : Nat) (x1 : Int) (g2 : Option Nat) (x3 : Int) (x4 : Int) (x5 : Int)
    (h : zK M a0 = (8, 25) ∧ (((zI M a0 8) ≤ x5 → zin (x4 + 1) ∧ ZX7_fail E d X P 95 [(0, vR (some a0)), (1, vI x1), (2, vR g2), (3, vI x3), (4, vI (x4 + 1))] [] M 1 40) ∧ (x5 < (zI M a0 8) → ∃ b4, g2 = some b4 ∧ (zK M b4).1 = 10 ∧ 0 ≤ x4 ∧ x4 < ((zK M b4).2 : Int) ∧ (((zI M b4 x4) ≠ 0 → zin (x4 + 1) ∧ ZX7_fail E d X P 95 [(0, vR (some a0)), (1, vI x1), (2, vR (some b4)), (3, vI x3), (4, vI (x4 + 1))] [] M 1 40) ∧ ((zI M b4 x4) = 0 → zK M a0 = (8, 25) ∧ ∃ P10 : Int → zM → Prop, zCi E mX7_isDone d 0 0 [vR (some a0), vI x4] M P10 ∧ ∀ r13 M12, P10 r13 M12 → ((r13 = 0 → zin (x4 + 1) ∧ ZX7_fail E d X P 95 [(0, vR (some a0)), (1, vI x1), (2, vR (some b4)), (3, vI x3), (4, vI (x4 + 1))] [] M12 1 40) ∧ (r13 ≠ 0 → (zK M12 b4).1 = 10 ∧ 0 ≤ x5 ∧ x5 < ((zK M12 b4).2 : Int) ∧ (((zI M12 b4 x5) = 0 → zin (x5 + 1) ∧ ZX7_fail E d X P 107 [(0, vR (some a0)), (1, vI x1), (2, vR (some b4)), (3, vI x3), (4, vI x4), (5, vI (x5 + 1))] [] M12 1 40) ∧ ((zI M12 b4 x5) ≠ 0 → zK M12 a0 = (8, 25) ∧ zin (40 * x4) ∧ zin ((40 * x4) + x5) ∧ ∃ b26, zR M12 a0 17 = some b26 ∧ (zK M12 b26).1 = 10 ∧ 0 ≤ ((40 * x4) + x5) ∧ ((40 * x4) + x5) < ((zK M12 b26).2 : Int) ∧ (((zI M12 b26 ((40 * x4) + x5)) ≠ 0 → (zK M12 b4).1 = 10 ∧ 0 ≤ x4 ∧ x4 < ((zK M12 b4).2 : Int) ∧ ∀ M34, M34 = zsI M12 b4 x4 1 → zin (x5 + 1) ∧ ZX7_fail E d X P 107 [(0, vR (some a0)), (1, vI x1), (2, vR (some b4)), (3, vI 1), (4, vI x4), (5, vI (x5 + 1))] [] M34 1 40) ∧ ((zI M12 b26 ((40 * x4) + x5)) = 0 → zin (x5 + 1) ∧ ZX7_fail E d X P 107 [(0, vR (some a0)), (1, vI x1), (2, vR (some b4)), (3, vI x3), (4, vI x4), (5, vI (x5 + 1))] [] M12 1 40))))))))))) :
    ZX7_fail E d X P 107 [(0, vR (some a0)), (1, vI x1), (2, vR g2), (3, vI x3), (4, vI x4), (5, vI x5)] [] M 1 40 := by
  refine z_iload 5 dX7_fail_107 rfl ?_
  refine z_aload_n 0 dX7_fail_109 rfl ?_
  obtain ⟨q1, h⟩ := h
  refine z_getI fl_X7_74 dX7_fail_110 q1 ?_
  refine z_icmp_ge (tgt := 171) dX7_fail_113 (by decide) (fun q2 => ?_) (fun q2 => ?_)
  · have h := h.1 q2
    obtain ⟨q3, h⟩ := h
    refine z_iinc 4 dX7_fail_171 rfl (by decide) q3 rfl ?_
    refine z_goto (tgt := 95) dX7_fail_174 (by decide) ?_
    exact z_sub [1, 2, 3, 4, 0] rfl h
  · have h := h.2 q2
    refine z_aload_n 2 dX7_fail_116 rfl ?_
    refine z_iload 4 dX7_fail_117 rfl ?_
    obtain ⟨b4, eb4, h⟩ := h
    rw [eb4]
    obtain ⟨q5, h⟩ := h
    obtain ⟨q6, h⟩ := h
    obtain ⟨q7, h⟩ := h
    refine z_bald dX7_fail_119 (n := (zK M b4).2) (Prod.ext q5 rfl) q6 q7 ?_
    refine z_if_ne (tgt := 171) dX7_fail_120 (by decide) (fun q8 => ?_) (fun q8 => ?_)
    · have h := h.1 q8
      obtain ⟨q9, h⟩ := h
      refine z_iinc 4 dX7_fail_171 rfl (by decide) q9 rfl ?_
      refine z_goto (tgt := 95) dX7_fail_174 (by decide) ?_
      exact z_sub [1, 2, 3, 4, 0] rfl h
    · have h := h.2 q8
      refine z_aload_n 0 dX7_fail_123 rfl ?_
      refine z_iload 4 dX7_fail_124 rfl ?_
      obtain ⟨q15, h⟩ := h
      obtain ⟨P10, c11, h⟩ := h
      refine z_Vi (as := [vI x4]) mv_X7_148 dX7_fail_126 c11 q15 rfl rfl (Nat.le_of_ble_eq_true rfl) (Nat.le_of_ble_eq_true rfl) (Nat.le_of_ble_eq_true rfl) (fun r13 M12 p14 => ?_)
      have h := h r13 M12 p14
      refine z_if_eq (tgt := 171) dX7_fail_129 (by decide) (fun q16 => ?_) (fun q16 => ?_)
      · have h := h.1 q16
        obtain ⟨q17, h⟩ := h
        refine z_iinc 4 dX7_fail_171 rfl (by decide) q17 rfl ?_
        refine z_goto (tgt := 95) dX7_fail_174 (by decide) ?_
        exact z_sub [1, 2, 3, 4, 0] rfl h
      · have h := h.2 q16
        refine z_aload_n 2 dX7_fail_132 rfl ?_
        refine z_iload 5 dX7_fail_133 rfl ?_
        obtain ⟨q18, h⟩ := h
        obtain ⟨q19, h⟩ := h
        obtain ⟨q20, h⟩ := h
        refine z_bald dX7_fail_135 (n := (zK M12 b4).2) (Prod.ext q18 rfl) q19 q20 ?_
        refine z_if_eq (tgt := 165) dX7_fail_136 (by decide) (fun q21 => ?_) (fun q21 => ?_)
        · have h := h.1 q21
          obtain ⟨q22, h⟩ := h
          refine z_iinc 5 dX7_fail_165 rfl (by decide) q22 rfl ?_
          refine z_goto (tgt := 107) dX7_fail_168 (by decide) ?_
          exact z_sub [1, 2, 3, 4, 5, 0] rfl h
        · have h := h.2 q21
          refine z_aload_n 0 dX7_fail_139 rfl ?_
          obtain ⟨q23, h⟩ := h
          refine z_getR fl_X7_50 rfl dX7_fail_140 q23 ?_
          refine z_bipush dX7_fail_143 (by decide) ?_
          refine z_iload 4 dX7_fail_145 rfl ?_
          obtain ⟨q24, h⟩ := h
          refine z_imul dX7_fail_147 q24 ?_
          refine z_iload 5 dX7_fail_148 rfl ?_
          obtain ⟨q25, h⟩ := h
          refine z_iadd dX7_fail_150 q25 ?_
          obtain ⟨b26, eb26, h⟩ := h
          rw [eb26]
          obtain ⟨q27, h⟩ := h
          obtain ⟨q28, h⟩ := h
          obtain ⟨q29, h⟩ := h
          refine z_bald dX7_fail_151 (n := (zK M12 b26).2) (Prod.ext q27 rfl) q28 q29 ?_
          refine z_if_ne (tgt := 158) dX7_fail_152 (by decide) (fun q30 => ?_) (fun q30 => ?_)
          · have h := h.1 q30
            refine z_aload_n 2 dX7_fail_158 rfl ?_
            refine z_iload 4 dX7_fail_159 rfl ?_
            refine z_iconst dX7_fail_161 (by decide) ?_
            obtain ⟨q31, h⟩ := h
            obtain ⟨q32, h⟩ := h
            obtain ⟨q33, h⟩ := h
            refine z_bast dX7_fail_162 (n := (zK M12 b4).2) (Prod.ext q31 rfl) q32 q33 (by decide) ?_
            obtain ⟨M34, hmM34⟩ : ∃ z, z = zsI M12 b4 x4 1 := ⟨_, rfl⟩
            rw [← hmM34]
            have h := h M34 hmM34
            refine z_iconst dX7_fail_163 (by decide) ?_
            refine z_istore_n dX7_fail_164 (by decide) rfl ?_
            obtain ⟨q35, h⟩ := h
            refine z_iinc 5 dX7_fail_165 rfl (by decide) q35 rfl ?_
            refine z_goto (tgt := 107) dX7_fail_168 (by decide) ?_
            exact z_sub [2, 3, 4, 1, 5, 0] rfl h
          · have h := h.2 q30
            refine z_goto (tgt := 165) dX7_fail_155 (by decide) ?_
            obtain ⟨q36, h⟩ := h
            refine z_iinc 5 dX7_fail_165 rfl (by decide) q36 rfl ?_
            refine z_goto (tgt := 107) dX7_fail_168 (by decide) ?_
            exact z_sub [1, 2, 3, 4, 5, 0] rfl h
set_option maxRecDepth 20000 in
theorem vX7_fail_186 {E : zE} {d : Nat} {X : zX} {P : Int → zM → Prop} {M : zM} (hr : (xh X).sig.returnType = (some .int)) (a0 : Nat) (x1 : Int) (g2 : Option Nat) (x3 : Int) (x4 : Int) (x5 : Int)
    (h : zK M a0 = (8, 25) ∧ (((zI M a0 8) ≤ x5 → P x4 M) ∧ (x5 < (zI M a0 8) → ∃ b3, g2 = some b3 ∧ (zK M b3).1 = 10 ∧ 0 ≤ x5 ∧ x5 < ((zK M b3).2 : Int) ∧ (((zI M b3 x5) ≠ 0 → zK M a0 = (8, 25) ∧ ∃ b9, zR M a0 15 = some b9 ∧ (zK M b9).1 = 9 ∧ 0 ≤ x5 ∧ x5 < ((zK M b9).2 : Int) ∧ ∀ M13, M13 = zsI M b9 x5 (-1) → zK M13 a0 = (8, 25) ∧ ∃ b15, zR M13 a0 16 = some b15 ∧ (zK M13 b15).1 = 9 ∧ 0 ≤ x5 ∧ x5 < ((zK M13 b15).2 : Int) ∧ zin ((zI M13 b15 x5) + 1) ∧ (zK M13 b15).1 = 9 ∧ 0 ≤ x5 ∧ x5 < ((zK M13 b15).2 : Int) ∧ ∀ M23, M23 = zsI M13 b15 x5 ((zI M13 b15 x5) + 1) → zin (x4 + 1) ∧ zin (x5 + 1) ∧ ZX7_fail E d X P 186 [(0, vR (some a0)), (1, vI x1), (2, vR (some b3)), (3, vI x3), (4, vI (x4 + 1)), (5, vI (x5 + 1))] [] M23 1 40) ∧ ((zI M b3 x5) = 0 → zin (x5 + 1) ∧ ZX7_fail E d X P 186 [(0, vR (some a0)), (1, vI x1), (2, vR (some b3)), (3, vI x3), (4, vI x4), (5, vI (x5 + 1))] [] M 1 40))))) :
    ZX7_fail E d X P 186 [(0, vR (some a0)), (1, vI x1), (2, vR g2), (3, vI x3), (4, vI x4), (5, vI x5)] [] M 1 40 := by
  refine z_iload 5 dX7_fail_186 rfl ?_
  refine z_aload_n 0 dX7_fail_188 rfl ?_
  obtain ⟨q1, h⟩ := h
  refine z_getI fl_X7_74 dX7_fail_189 q1 ?_
  refine z_icmp_ge (tgt := 233) dX7_fail_192 (by decide) (fun q2 => ?_) (fun q2 => ?_)
  · have h := h.1 q2
    refine z_iload 4 dX7_fail_233 rfl ?_
    exact z_iret hr dX7_fail_235 (Nat.le_of_ble_eq_true rfl) (Nat.le_of_ble_eq_true rfl) ⟨_, rfl, h⟩
  · have h := h.2 q2
    refine z_aload_n 2 dX7_fail_195 rfl ?_
    refine z_iload 5 dX7_fail_196 rfl ?_
    obtain ⟨b3, eb3, h⟩ := h
    rw [eb3]
    obtain ⟨q4, h⟩ := h
    obtain ⟨q5, h⟩ := h
    obtain ⟨q6, h⟩ := h
    refine z_bald dX7_fail_198 (n := (zK M b3).2) (Prod.ext q4 rfl) q5 q6 ?_
    refine z_if_ne (tgt := 205) dX7_fail_199 (by decide) (fun q7 => ?_) (fun q7 => ?_)
    · have h := h.1 q7
      refine z_aload_n 0 dX7_fail_205 rfl ?_
      obtain ⟨q8, h⟩ := h
      refine z_getR fl_X7_44 rfl dX7_fail_206 q8 ?_
      refine z_iload 5 dX7_fail_209 rfl ?_
      refine z_iconst dX7_fail_211 (by decide) ?_
      obtain ⟨b9, eb9, h⟩ := h
      rw [eb9]
      obtain ⟨q10, h⟩ := h
      obtain ⟨q11, h⟩ := h
      obtain ⟨q12, h⟩ := h
      refine z_iast dX7_fail_212 (n := (zK M b9).2) (Prod.ext q10 rfl) q11 q12 ?_
      obtain ⟨M13, hmM13⟩ : ∃ z, z = zsI M b9 x5 (-1) := ⟨_, rfl⟩
      rw [← hmM13]
      have h := h M13 hmM13
      refine z_aload_n 0 dX7_fail_213 rfl ?_
      obtain ⟨q14, h⟩ := h
      refine z_getR fl_X7_47 rfl dX7_fail_214 q14 ?_
      refine z_iload 5 dX7_fail_217 rfl ?_
      refine z_dup2 dX7_fail_219 rfl rfl ?_
      obtain ⟨b15, eb15, h⟩ := h
      rw [eb15]
      obtain ⟨q16, h⟩ := h
      obtain ⟨q17, h⟩ := h
      obtain ⟨q18, h⟩ := h
      refine z_iald dX7_fail_220 (n := (zK M13 b15).2) (Prod.ext q16 rfl) q17 q18 ?_
      refine z_iconst dX7_fail_221 (by decide) ?_
      obtain ⟨q19, h⟩ := h
      refine z_iadd dX7_fail_222 q19 ?_
      obtain ⟨q20, h⟩ := h
      obtain ⟨q21, h⟩ := h
      obtain ⟨q22, h⟩ := h
      refine z_iast dX7_fail_223 (n := (zK M13 b15).2) (Prod.ext q20 rfl) q21 q22 ?_
      obtain ⟨M23, hmM23⟩ : ∃ z, z = zsI M13 b15 x5 ((zI M13 b15 x5) + 1) := ⟨_, rfl⟩
      rw [← hmM23]
      have h := h M23 hmM23
      obtain ⟨q24, h⟩ := h
      refine z_iinc 4 dX7_fail_224 rfl (by decide) q24 rfl ?_
      obtain ⟨q25, h⟩ := h
      refine z_iinc 5 dX7_fail_227 rfl (by decide) q25 rfl ?_
      refine z_goto (tgt := 186) dX7_fail_230 (by decide) ?_
      exact z_sub [2, 3, 4, 5, 1, 0] rfl h
    · have h := h.2 q7
      refine z_goto (tgt := 227) dX7_fail_202 (by decide) ?_
      obtain ⟨q26, h⟩ := h
      refine z_iinc 5 dX7_fail_227 rfl (by decide) q26 rfl ?_
      refine z_goto (tgt := 186) dX7_fail_230 (by decide) ?_
      exact z_sub [1, 2, 3, 4, 5, 0] rfl h
theorem sX7_fail {E : zE} {d : Nat} {P : Int → zM → Prop} {M : zM} (a0 : Nat) (x1 : Int) (h : ∀ X : zX, (xh X).sig.returnType = (some .int) → ZX7_fail E d X P 0 [(0, vR (some a0)), (1, vI x1)] [] M 0 0) : zCi E mX7_fail (d + 1) 1 40 [vR (some a0), vI x1] M P := z_start (f := mX7_fail) rfl (Nat.le_of_ble_eq_true rfl) rfl h
abbrev ZX7_more (E : zE) (d : Nat) (X : zX) (P : Int → zM → Prop) (pc : Nat) (Lc : List (Nat × zV)) (S : List zV) (M : zM) (ce sl : Nat) : Prop := zZ cX7_more RX7 "more" 3 E (zrm (d + 1) 0 0) X (zQ E (zPi P) X 0 0) pc Lc S M ce sl
set_option maxRecDepth 20000 in
theorem vX7_more_0 {E : zE} {d : Nat} {X : zX} {P : Int → zM → Prop} {M : zM} (hr : (xh X).sig.returnType = (some .int)) (a0 : Nat) (x1 : Int) (x2 : Int)
    (h : zK M a0 = (8, 25) ∧ ∃ P1 : Int → zM → Prop, zCi E mX7_isWork d 0 0 [vR (some a0), vI x1] M P1 ∧ ∀ r4 M3, P1 r4 M3 → ((r4 = 0 → P (-1) M3) ∧ (r4 ≠ 0 → zK M3 a0 = (8, 25) ∧ ∃ P8 : Int → zM → Prop, zCi E mX7_isDone d 0 0 [vR (some a0), vI x1] M3 P8 ∧ ∀ r11 M10, P8 r11 M10 → ((r11 ≠ 0 → P (-1) M10) ∧ (r11 = 0 → ∃ P15 : Int → zM → Prop, zCi E mX7_in d 0 0 [vI x2, vI 1, vI 40] M10 P15 ∧ ∀ r18 M17, P15 r18 M17 → ((r18 = 0 → P (-1) M17) ∧ (r18 ≠ 0 → zK M17 a0 = (8, 25) ∧ ∃ b22, zR M17 a0 9 = some b22 ∧ (zK M17 b22).1 = 9 ∧ 0 ≤ x1 ∧ x1 < ((zK M17 b22).2 : Int) ∧ zin ((zI M17 b22 x1) + x2) ∧ ((40 < ((zI M17 b22 x1) + x2) → P (-1) M17) ∧ (((zI M17 b22 x1) + x2) ≤ 40 → zK M17 a0 = (8, 25) ∧ ∃ P28 : Int → zM → Prop, zCi E mX7_isPut d 0 0 [vR (some a0), vI x1] M17 P28 ∧ ∀ r31 M30, P28 r31 M30 → ((r31 = 0 → zK M30 a0 = (8, 25) ∧ ∃ b36, zR M30 a0 9 = some b36 ∧ (zK M30 b36).1 = 9 ∧ 0 ≤ x1 ∧ x1 < ((zK M30 b36).2 : Int) ∧ zin ((zI M30 b36 x1) + x2) ∧ (zK M30 b36).1 = 9 ∧ 0 ≤ x1 ∧ x1 < ((zK M30 b36).2 : Int) ∧ ∀ M44, M44 = zsI M30 b36 x1 ((zI M30 b36 x1) + x2) → zK M44 a0 = (8, 25) ∧ ∃ b46, zR M44 a0 9 = some b46 ∧ (zK M44 b46).1 = 9 ∧ 0 ≤ x1 ∧ x1 < ((zK M44 b46).2 : Int) ∧ P (zI M44 b46 x1) M44) ∧ (r31 ≠ 0 → zK M30 a0 = (8, 25) ∧ ∃ P50 : Int → zM → Prop, zCi E mX7_endOf d 0 0 [vR (some a0), vI x1] M30 P50 ∧ ∀ r53 M52, P50 r53 M52 → zin (r53 + x2) ∧ (((r53 + x2) ≤ 400 → zK M52 a0 = (8, 25) ∧ ∃ b59, zR M52 a0 9 = some b59 ∧ (zK M52 b59).1 = 9 ∧ 0 ≤ x1 ∧ x1 < ((zK M52 b59).2 : Int) ∧ zin ((zI M52 b59 x1) + x2) ∧ (zK M52 b59).1 = 9 ∧ 0 ≤ x1 ∧ x1 < ((zK M52 b59).2 : Int) ∧ ∀ M67, M67 = zsI M52 b59 x1 ((zI M52 b59 x1) + x2) → zK M67 a0 = (8, 25) ∧ ∃ b69, zR M67 a0 9 = some b69 ∧ (zK M67 b69).1 = 9 ∧ 0 ≤ x1 ∧ x1 < ((zK M67 b69).2 : Int) ∧ P (zI M67 b69 x1) M67) ∧ (400 < (r53 + x2) → P (-1) M52))))))))))))) :
    ZX7_more E d X P 0 [(0, vR (some a0)), (1, vI x1), (2, vI x2)] [] M 0 0 := by
  refine z_aload_n 0 dX7_more_0 rfl ?_
  refine z_iload_n 1 dX7_more_1 rfl ?_
  obtain ⟨q6, h⟩ := h
  obtain ⟨P1, c2, h⟩ := h
  refine z_Vi (as := [vI x1]) mv_X7_100 dX7_more_2 c2 q6 rfl rfl (Nat.le_of_ble_eq_true rfl) (Nat.le_of_ble_eq_true rfl) (Nat.le_of_ble_eq_true rfl) (fun r4 M3 p5 => ?_)
  have h := h r4 M3 p5
  refine z_if_eq (tgt := 60) dX7_more_5 (by decide) (fun q7 => ?_) (fun q7 => ?_)
  · have h := h.1 q7
    refine z_iconst dX7_more_60 (by decide) ?_
    exact z_iret hr dX7_more_61 (Nat.le_of_ble_eq_true rfl) (Nat.le_of_ble_eq_true rfl) ⟨_, rfl, h⟩
  · have h := h.2 q7
    refine z_aload_n 0 dX7_more_8 rfl ?_
    refine z_iload_n 1 dX7_more_9 rfl ?_
    obtain ⟨q13, h⟩ := h
    obtain ⟨P8, c9, h⟩ := h
    refine z_Vi (as := [vI x1]) mv_X7_148 dX7_more_10 c9 q13 rfl rfl (Nat.le_of_ble_eq_true rfl) (Nat.le_of_ble_eq_true rfl) (Nat.le_of_ble_eq_true rfl) (fun r11 M10 p12 => ?_)
    have h := h r11 M10 p12
    refine z_if_ne (tgt := 60) dX7_more_13 (by decide) (fun q14 => ?_) (fun q14 => ?_)
    · have h := h.1 q14
      refine z_iconst dX7_more_60 (by decide) ?_
      exact z_iret hr dX7_more_61 (Nat.le_of_ble_eq_true rfl) (Nat.le_of_ble_eq_true rfl) ⟨_, rfl, h⟩
    · have h := h.2 q14
      refine z_iload_n 2 dX7_more_16 rfl ?_
      refine z_iconst dX7_more_17 (by decide) ?_
      refine z_bipush dX7_more_18 (by decide) ?_
      obtain ⟨P15, c16, h⟩ := h
      refine z_Si (as := [vI x2, vI 1, vI 40]) ms_X7_78 dX7_more_20 c16 rfl rfl (Nat.le_of_ble_eq_true rfl) (Nat.le_of_ble_eq_true rfl) (Nat.le_of_ble_eq_true rfl) (fun r18 M17 p19 => ?_)
      have h := h r18 M17 p19
      refine z_if_eq (tgt := 60) dX7_more_23 (by decide) (fun q20 => ?_) (fun q20 => ?_)
      · have h := h.1 q20
        refine z_iconst dX7_more_60 (by decide) ?_
        exact z_iret hr dX7_more_61 (Nat.le_of_ble_eq_true rfl) (Nat.le_of_ble_eq_true rfl) ⟨_, rfl, h⟩
      · have h := h.2 q20
        refine z_aload_n 0 dX7_more_26 rfl ?_
        obtain ⟨q21, h⟩ := h
        refine z_getR fl_X7_26 rfl dX7_more_27 q21 ?_
        refine z_iload_n 1 dX7_more_30 rfl ?_
        obtain ⟨b22, eb22, h⟩ := h
        rw [eb22]
        obtain ⟨q23, h⟩ := h
        obtain ⟨q24, h⟩ := h
        obtain ⟨q25, h⟩ := h
        refine z_iald dX7_more_31 (n := (zK M17 b22).2) (Prod.ext q23 rfl) q24 q25 ?_
        refine z_iload_n 2 dX7_more_32 rfl ?_
        obtain ⟨q26, h⟩ := h
        refine z_iadd dX7_more_33 q26 ?_
        refine z_bipush dX7_more_34 (by decide) ?_
        refine z_icmp_gt (tgt := 60) dX7_more_36 (by decide) (fun q27 => ?_) (fun q27 => ?_)
        · have h := h.1 q27
          refine z_iconst dX7_more_60 (by decide) ?_
          exact z_iret hr dX7_more_61 (Nat.le_of_ble_eq_true rfl) (Nat.le_of_ble_eq_true rfl) ⟨_, rfl, h⟩
        · have h := h.2 q27
          refine z_aload_n 0 dX7_more_39 rfl ?_
          refine z_iload_n 1 dX7_more_40 rfl ?_
          obtain ⟨q33, h⟩ := h
          obtain ⟨P28, c29, h⟩ := h
          refine z_Vi (as := [vI x1]) mv_X7_89 dX7_more_41 c29 q33 rfl rfl (Nat.le_of_ble_eq_true rfl) (Nat.le_of_ble_eq_true rfl) (Nat.le_of_ble_eq_true rfl) (fun r31 M30 p32 => ?_)
          have h := h r31 M30 p32
          refine z_if_eq (tgt := 62) dX7_more_44 (by decide) (fun q34 => ?_) (fun q34 => ?_)
          · have h := h.1 q34
            refine z_aload_n 0 dX7_more_62 rfl ?_
            obtain ⟨q35, h⟩ := h
            refine z_getR fl_X7_26 rfl dX7_more_63 q35 ?_
            refine z_iload_n 1 dX7_more_66 rfl ?_
            refine z_dup2 dX7_more_67 rfl rfl ?_
            obtain ⟨b36, eb36, h⟩ := h
            rw [eb36]
            obtain ⟨q37, h⟩ := h
            obtain ⟨q38, h⟩ := h
            obtain ⟨q39, h⟩ := h
            refine z_iald dX7_more_68 (n := (zK M30 b36).2) (Prod.ext q37 rfl) q38 q39 ?_
            refine z_iload_n 2 dX7_more_69 rfl ?_
            obtain ⟨q40, h⟩ := h
            refine z_iadd dX7_more_70 q40 ?_
            obtain ⟨q41, h⟩ := h
            obtain ⟨q42, h⟩ := h
            obtain ⟨q43, h⟩ := h
            refine z_iast dX7_more_71 (n := (zK M30 b36).2) (Prod.ext q41 rfl) q42 q43 ?_
            obtain ⟨M44, hmM44⟩ : ∃ z, z = zsI M30 b36 x1 ((zI M30 b36 x1) + x2) := ⟨_, rfl⟩
            rw [← hmM44]
            have h := h M44 hmM44
            refine z_aload_n 0 dX7_more_72 rfl ?_
            obtain ⟨q45, h⟩ := h
            refine z_getR fl_X7_26 rfl dX7_more_73 q45 ?_
            refine z_iload_n 1 dX7_more_76 rfl ?_
            obtain ⟨b46, eb46, h⟩ := h
            rw [eb46]
            obtain ⟨q47, h⟩ := h
            obtain ⟨q48, h⟩ := h
            obtain ⟨q49, h⟩ := h
            refine z_iald dX7_more_77 (n := (zK M44 b46).2) (Prod.ext q47 rfl) q48 q49 ?_
            exact z_iret hr dX7_more_78 (Nat.le_of_ble_eq_true rfl) (Nat.le_of_ble_eq_true rfl) ⟨_, rfl, h⟩
          · have h := h.2 q34
            refine z_aload_n 0 dX7_more_47 rfl ?_
            refine z_iload_n 1 dX7_more_48 rfl ?_
            obtain ⟨q55, h⟩ := h
            obtain ⟨P50, c51, h⟩ := h
            refine z_Vi (as := [vI x1]) mv_X7_96 dX7_more_49 c51 q55 rfl rfl (Nat.le_of_ble_eq_true rfl) (Nat.le_of_ble_eq_true rfl) (Nat.le_of_ble_eq_true rfl) (fun r53 M52 p54 => ?_)
            have h := h r53 M52 p54
            refine z_iload_n 2 dX7_more_52 rfl ?_
            obtain ⟨q56, h⟩ := h
            refine z_iadd dX7_more_53 q56 ?_
            refine z_sipush dX7_more_54 (by decide) ?_
            refine z_icmp_le (tgt := 62) dX7_more_57 (by decide) (fun q57 => ?_) (fun q57 => ?_)
            · have h := h.1 q57
              refine z_aload_n 0 dX7_more_62 rfl ?_
              obtain ⟨q58, h⟩ := h
              refine z_getR fl_X7_26 rfl dX7_more_63 q58 ?_
              refine z_iload_n 1 dX7_more_66 rfl ?_
              refine z_dup2 dX7_more_67 rfl rfl ?_
              obtain ⟨b59, eb59, h⟩ := h
              rw [eb59]
              obtain ⟨q60, h⟩ := h
              obtain ⟨q61, h⟩ := h
              obtain ⟨q62, h⟩ := h
              refine z_iald dX7_more_68 (n := (zK M52 b59).2) (Prod.ext q60 rfl) q61 q62 ?_
              refine z_iload_n 2 dX7_more_69 rfl ?_
              obtain ⟨q63, h⟩ := h
              refine z_iadd dX7_more_70 q63 ?_
              obtain ⟨q64, h⟩ := h
              obtain ⟨q65, h⟩ := h
              obtain ⟨q66, h⟩ := h
              refine z_iast dX7_more_71 (n := (zK M52 b59).2) (Prod.ext q64 rfl) q65 q66 ?_
              obtain ⟨M67, hmM67⟩ : ∃ z, z = zsI M52 b59 x1 ((zI M52 b59 x1) + x2) := ⟨_, rfl⟩
              rw [← hmM67]
              have h := h M67 hmM67
              refine z_aload_n 0 dX7_more_72 rfl ?_
              obtain ⟨q68, h⟩ := h
              refine z_getR fl_X7_26 rfl dX7_more_73 q68 ?_
              refine z_iload_n 1 dX7_more_76 rfl ?_
              obtain ⟨b69, eb69, h⟩ := h
              rw [eb69]
              obtain ⟨q70, h⟩ := h
              obtain ⟨q71, h⟩ := h
              obtain ⟨q72, h⟩ := h
              refine z_iald dX7_more_77 (n := (zK M67 b69).2) (Prod.ext q70 rfl) q71 q72 ?_
              exact z_iret hr dX7_more_78 (Nat.le_of_ble_eq_true rfl) (Nat.le_of_ble_eq_true rfl) ⟨_, rfl, h⟩
            · have h := h.2 q57
              refine z_iconst dX7_more_60 (by decide) ?_
              exact z_iret hr dX7_more_61 (Nat.le_of_ble_eq_true rfl) (Nat.le_of_ble_eq_true rfl) ⟨_, rfl, h⟩
theorem sX7_more {E : zE} {d : Nat} {P : Int → zM → Prop} {M : zM} (a0 : Nat) (x1 : Int) (x2 : Int) (h : ∀ X : zX, (xh X).sig.returnType = (some .int) → ZX7_more E d X P 0 [(0, vR (some a0)), (1, vI x1), (2, vI x2)] [] M 0 0) : zCi E mX7_more (d + 1) 0 0 [vR (some a0), vI x1, vI x2] M P := z_start (f := mX7_more) rfl (Nat.le_of_ble_eq_true rfl) rfl h
abbrev ZX7_stateOf (E : zE) (d : Nat) (X : zX) (P : Int → zM → Prop) (pc : Nat) (Lc : List (Nat × zV)) (S : List zV) (M : zM) (ce sl : Nat) : Prop := zZ cX7_stateOf RX7 "stateOf" 2 E (zrm (d + 1) 0 0) X (zQ E (zPi P) X 0 0) pc Lc S M ce sl
set_option maxRecDepth 20000 in
theorem vX7_stateOf_0 {E : zE} {d : Nat} {X : zX} {P : Int → zM → Prop} {M : zM} (hr : (xh X).sig.returnType = (some .int)) (a0 : Nat) (x1 : Int)
    (h : zK M a0 = (8, 25) ∧ ∃ P1 : Int → zM → Prop, zCi E mX7_isPut d 0 0 [vR (some a0), vI x1] M P1 ∧ ∀ r4 M3, P1 r4 M3 → ((r4 ≠ 0 → zK M3 a0 = (8, 25) ∧ ∃ P8 : Int → zM → Prop, zCi E mX7_isDone d 0 0 [vR (some a0), vI x1] M3 P8 ∧ ∀ r11 M10, P8 r11 M10 → ((r11 = 0 → zK M10 a0 = (8, 25) ∧ ∃ P15 : Int → zM → Prop, zCi E mX7_isBegun d 0 0 [vR (some a0), vI x1] M10 P15 ∧ ∀ r18 M17, P15 r18 M17 → ((r18 = 0 → P 1 M17) ∧ (r18 ≠ 0 → P 2 M17))) ∧ (r11 ≠ 0 → P 3 M10))) ∧ (r4 = 0 → P 0 M3))) :
    ZX7_stateOf E d X P 0 [(0, vR (some a0)), (1, vI x1)] [] M 0 0 := by
  refine z_aload_n 0 dX7_stateOf_0 rfl ?_
  refine z_iload_n 1 dX7_stateOf_1 rfl ?_
  obtain ⟨q6, h⟩ := h
  obtain ⟨P1, c2, h⟩ := h
  refine z_Vi (as := [vI x1]) mv_X7_89 dX7_stateOf_2 c2 q6 rfl rfl (Nat.le_of_ble_eq_true rfl) (Nat.le_of_ble_eq_true rfl) (Nat.le_of_ble_eq_true rfl) (fun r4 M3 p5 => ?_)
  have h := h r4 M3 p5
  refine z_if_ne (tgt := 12) dX7_stateOf_5 (by decide) (fun q7 => ?_) (fun q7 => ?_)
  · have h := h.1 q7
    refine z_aload_n 0 dX7_stateOf_12 rfl ?_
    refine z_iload_n 1 dX7_stateOf_13 rfl ?_
    obtain ⟨q13, h⟩ := h
    obtain ⟨P8, c9, h⟩ := h
    refine z_Vi (as := [vI x1]) mv_X7_148 dX7_stateOf_14 c9 q13 rfl rfl (Nat.le_of_ble_eq_true rfl) (Nat.le_of_ble_eq_true rfl) (Nat.le_of_ble_eq_true rfl) (fun r11 M10 p12 => ?_)
    have h := h r11 M10 p12
    refine z_if_eq (tgt := 24) dX7_stateOf_17 (by decide) (fun q14 => ?_) (fun q14 => ?_)
    · have h := h.1 q14
      refine z_aload_n 0 dX7_stateOf_24 rfl ?_
      refine z_iload_n 1 dX7_stateOf_25 rfl ?_
      obtain ⟨q20, h⟩ := h
      obtain ⟨P15, c16, h⟩ := h
      refine z_Vi (as := [vI x1]) mv_X7_103 dX7_stateOf_26 c16 q20 rfl rfl (Nat.le_of_ble_eq_true rfl) (Nat.le_of_ble_eq_true rfl) (Nat.le_of_ble_eq_true rfl) (fun r18 M17 p19 => ?_)
      have h := h r18 M17 p19
      refine z_if_eq (tgt := 36) dX7_stateOf_29 (by decide) (fun q21 => ?_) (fun q21 => ?_)
      · have h := h.1 q21
        refine z_iconst dX7_stateOf_36 (by decide) ?_
        exact z_iret hr dX7_stateOf_37 (Nat.le_of_ble_eq_true rfl) (Nat.le_of_ble_eq_true rfl) ⟨_, rfl, h⟩
      · have h := h.2 q21
        refine z_iconst dX7_stateOf_32 (by decide) ?_
        refine z_goto (tgt := 37) dX7_stateOf_33 (by decide) ?_
        exact z_iret hr dX7_stateOf_37 (Nat.le_of_ble_eq_true rfl) (Nat.le_of_ble_eq_true rfl) ⟨_, rfl, h⟩
    · have h := h.2 q14
      refine z_iconst dX7_stateOf_20 (by decide) ?_
      refine z_goto (tgt := 37) dX7_stateOf_21 (by decide) ?_
      exact z_iret hr dX7_stateOf_37 (Nat.le_of_ble_eq_true rfl) (Nat.le_of_ble_eq_true rfl) ⟨_, rfl, h⟩
  · have h := h.2 q7
    refine z_iconst dX7_stateOf_8 (by decide) ?_
    refine z_goto (tgt := 37) dX7_stateOf_9 (by decide) ?_
    exact z_iret hr dX7_stateOf_37 (Nat.le_of_ble_eq_true rfl) (Nat.le_of_ble_eq_true rfl) ⟨_, rfl, h⟩
theorem sX7_stateOf {E : zE} {d : Nat} {P : Int → zM → Prop} {M : zM} (a0 : Nat) (x1 : Int) (h : ∀ X : zX, (xh X).sig.returnType = (some .int) → ZX7_stateOf E d X P 0 [(0, vR (some a0)), (1, vI x1)] [] M 0 0) : zCi E mX7_stateOf (d + 1) 0 0 [vR (some a0), vI x1] M P := z_start (f := mX7_stateOf) rfl (Nat.le_of_ble_eq_true rfl) rfl h
abbrev ZX7_told (E : zE) (d : Nat) (X : zX) (P : Int → zM → Prop) (pc : Nat) (Lc : List (Nat × zV)) (S : List zV) (M : zM) (ce sl : Nat) : Prop := zZ cX7_told RX7 "told" 6 E (zrm (d + 1) 0 0) X (zQ E (zPi P) X 0 0) pc Lc S M ce sl
set_option maxRecDepth 20000 in
theorem vX7_told_0 {E : zE} {d : Nat} {X : zX} {P : Int → zM → Prop} {M : zM} (hr : (xh X).sig.returnType = (some .int)) (a0 : Nat) (x1 : Int) (x2 : Int)
    (h : zK M a0 = (8, 25) ∧ ∃ P1 : Int → zM → Prop, zCi E mX7_isWork d 0 0 [vR (some a0), vI x1] M P1 ∧ ∀ r4 M3, P1 r4 M3 → ((r4 ≠ 0 → ((x2 < 8 → ((x2 = 0 → zK M3 a0 = (8, 25) ∧ ∃ b11, zR M3 a0 9 = some b11 ∧ (zK M3 b11).1 = 9 ∧ 0 ≤ x1 ∧ x1 < ((zK M3 b11).2 : Int) ∧ P (zI M3 b11 x1) M3) ∧ (x2 = 1 → zK M3 a0 = (8, 25) ∧ ∃ b17, zR M3 a0 10 = some b17 ∧ (zK M3 b17).1 = 9 ∧ 0 ≤ x1 ∧ x1 < ((zK M3 b17).2 : Int) ∧ P (zI M3 b17 x1) M3) ∧ (x2 = 2 → zK M3 a0 = (8, 25) ∧ ∃ b23, zR M3 a0 11 = some b23 ∧ (zK M3 b23).1 = 9 ∧ 0 ≤ x1 ∧ x1 < ((zK M3 b23).2 : Int) ∧ P (zI M3 b23 x1) M3) ∧ (x2 = 3 → zK M3 a0 = (8, 25) ∧ ∃ b29, zR M3 a0 12 = some b29 ∧ (zK M3 b29).1 = 9 ∧ 0 ≤ x1 ∧ x1 < ((zK M3 b29).2 : Int) ∧ P (zI M3 b29 x1) M3) ∧ (x2 = 4 → zK M3 a0 = (8, 25) ∧ ∃ b35, zR M3 a0 13 = some b35 ∧ (zK M3 b35).1 = 9 ∧ 0 ≤ x1 ∧ x1 < ((zK M3 b35).2 : Int) ∧ P (zI M3 b35 x1) M3) ∧ (x2 = 5 → zK M3 a0 = (8, 25) ∧ ∃ b41, zR M3 a0 14 = some b41 ∧ (zK M3 b41).1 = 9 ∧ 0 ≤ x1 ∧ x1 < ((zK M3 b41).2 : Int) ∧ P (zI M3 b41 x1) M3) ∧ (x2 = 6 → zK M3 a0 = (8, 25) ∧ ∃ P46 : Int → zM → Prop, zCi E mX7_stateOf d 0 0 [vR (some a0), vI x1] M3 P46 ∧ ∀ r49 M48, P46 r49 M48 → P r49 M48) ∧ (x2 = 7 → zK M3 a0 = (8, 25) ∧ ∃ b54, zR M3 a0 15 = some b54 ∧ (zK M3 b54).1 = 9 ∧ 0 ≤ x1 ∧ x1 < ((zK M3 b54).2 : Int) ∧ P (zI M3 b54 x1) M3) ∧ (x2 = 8 → zK M3 a0 = (8, 25) ∧ ∃ b60, zR M3 a0 20 = some b60 ∧ (zK M3 b60).1 = 9 ∧ 0 ≤ x1 ∧ x1 < ((zK M3 b60).2 : Int) ∧ P (zI M3 b60 x1) M3) ∧ (x2 = 9 → zK M3 a0 = (8, 25) ∧ ∃ b66, zR M3 a0 21 = some b66 ∧ (zK M3 b66).1 = 9 ∧ 0 ≤ x1 ∧ x1 < ((zK M3 b66).2 : Int) ∧ P (zI M3 b66 x1) M3) ∧ (x2 = 10 → zK M3 a0 = (8, 25) ∧ ∃ P71 : Int → zM → Prop, zCi E mX7_slack d 0 0 [vR (some a0), vI 0, vI x1] M3 P71 ∧ ∀ r74 M73, P71 r74 M73 → P r74 M73) ∧ (x2 = 11 → ZX7_told E d X P 180 [(0, vR (some a0)), (1, vI x1), (2, vI x2), (3, vI 0), (4, vI 0), (5, vI 0)] [] M3 0 0) ∧ (x2 = 12 → zK M3 a0 = (8, 25) ∧ ∃ b80, zR M3 a0 16 = some b80 ∧ (zK M3 b80).1 = 9 ∧ 0 ≤ x1 ∧ x1 < ((zK M3 b80).2 : Int) ∧ P (zI M3 b80 x1) M3) ∧ ((x2 < 0 ∨ 12 < x2) → P (-1) M3))) ∧ (8 ≤ x2 → ((10 < x2 → ((x2 = 0 → zK M3 a0 = (8, 25) ∧ ∃ b88, zR M3 a0 9 = some b88 ∧ (zK M3 b88).1 = 9 ∧ 0 ≤ x1 ∧ x1 < ((zK M3 b88).2 : Int) ∧ P (zI M3 b88 x1) M3) ∧ (x2 = 1 → zK M3 a0 = (8, 25) ∧ ∃ b94, zR M3 a0 10 = some b94 ∧ (zK M3 b94).1 = 9 ∧ 0 ≤ x1 ∧ x1 < ((zK M3 b94).2 : Int) ∧ P (zI M3 b94 x1) M3) ∧ (x2 = 2 → zK M3 a0 = (8, 25) ∧ ∃ b100, zR M3 a0 11 = some b100 ∧ (zK M3 b100).1 = 9 ∧ 0 ≤ x1 ∧ x1 < ((zK M3 b100).2 : Int) ∧ P (zI M3 b100 x1) M3) ∧ (x2 = 3 → zK M3 a0 = (8, 25) ∧ ∃ b106, zR M3 a0 12 = some b106 ∧ (zK M3 b106).1 = 9 ∧ 0 ≤ x1 ∧ x1 < ((zK M3 b106).2 : Int) ∧ P (zI M3 b106 x1) M3) ∧ (x2 = 4 → zK M3 a0 = (8, 25) ∧ ∃ b112, zR M3 a0 13 = some b112 ∧ (zK M3 b112).1 = 9 ∧ 0 ≤ x1 ∧ x1 < ((zK M3 b112).2 : Int) ∧ P (zI M3 b112 x1) M3) ∧ (x2 = 5 → zK M3 a0 = (8, 25) ∧ ∃ b118, zR M3 a0 14 = some b118 ∧ (zK M3 b118).1 = 9 ∧ 0 ≤ x1 ∧ x1 < ((zK M3 b118).2 : Int) ∧ P (zI M3 b118 x1) M3) ∧ (x2 = 6 → zK M3 a0 = (8, 25) ∧ ∃ P123 : Int → zM → Prop, zCi E mX7_stateOf d 0 0 [vR (some a0), vI x1] M3 P123 ∧ ∀ r126 M125, P123 r126 M125 → P r126 M125) ∧ (x2 = 7 → zK M3 a0 = (8, 25) ∧ ∃ b131, zR M3 a0 15 = some b131 ∧ (zK M3 b131).1 = 9 ∧ 0 ≤ x1 ∧ x1 < ((zK M3 b131).2 : Int) ∧ P (zI M3 b131 x1) M3) ∧ (x2 = 8 → zK M3 a0 = (8, 25) ∧ ∃ b137, zR M3 a0 20 = some b137 ∧ (zK M3 b137).1 = 9 ∧ 0 ≤ x1 ∧ x1 < ((zK M3 b137).2 : Int) ∧ P (zI M3 b137 x1) M3) ∧ (x2 = 9 → zK M3 a0 = (8, 25) ∧ ∃ b143, zR M3 a0 21 = some b143 ∧ (zK M3 b143).1 = 9 ∧ 0 ≤ x1 ∧ x1 < ((zK M3 b143).2 : Int) ∧ P (zI M3 b143 x1) M3) ∧ (x2 = 10 → zK M3 a0 = (8, 25) ∧ ∃ P148 : Int → zM → Prop, zCi E mX7_slack d 0 0 [vR (some a0), vI 0, vI x1] M3 P148 ∧ ∀ r151 M150, P148 r151 M150 → P r151 M150) ∧ (x2 = 11 → ZX7_told E d X P 180 [(0, vR (some a0)), (1, vI x1), (2, vI x2), (3, vI 0), (4, vI 0), (5, vI 0)] [] M3 0 0) ∧ (x2 = 12 → zK M3 a0 = (8, 25) ∧ ∃ b157, zR M3 a0 16 = some b157 ∧ (zK M3 b157).1 = 9 ∧ 0 ≤ x1 ∧ x1 < ((zK M3 b157).2 : Int) ∧ P (zI M3 b157 x1) M3) ∧ ((x2 < 0 ∨ 12 < x2) → P (-1) M3))) ∧ (x2 ≤ 10 → zK M3 a0 = (8, 25) ∧ ∃ P162 : Int → zM → Prop, zCi E mX7_way d 0 0 [vR (some a0)] M3 P162 ∧ ∀ r165 M164, P162 r165 M164 → ((x2 = 0 → zK M164 a0 = (8, 25) ∧ ∃ b170, zR M164 a0 9 = some b170 ∧ (zK M164 b170).1 = 9 ∧ 0 ≤ x1 ∧ x1 < ((zK M164 b170).2 : Int) ∧ P (zI M164 b170 x1) M164) ∧ (x2 = 1 → zK M164 a0 = (8, 25) ∧ ∃ b176, zR M164 a0 10 = some b176 ∧ (zK M164 b176).1 = 9 ∧ 0 ≤ x1 ∧ x1 < ((zK M164 b176).2 : Int) ∧ P (zI M164 b176 x1) M164) ∧ (x2 = 2 → zK M164 a0 = (8, 25) ∧ ∃ b182, zR M164 a0 11 = some b182 ∧ (zK M164 b182).1 = 9 ∧ 0 ≤ x1 ∧ x1 < ((zK M164 b182).2 : Int) ∧ P (zI M164 b182 x1) M164) ∧ (x2 = 3 → zK M164 a0 = (8, 25) ∧ ∃ b188, zR M164 a0 12 = some b188 ∧ (zK M164 b188).1 = 9 ∧ 0 ≤ x1 ∧ x1 < ((zK M164 b188).2 : Int) ∧ P (zI M164 b188 x1) M164) ∧ (x2 = 4 → zK M164 a0 = (8, 25) ∧ ∃ b194, zR M164 a0 13 = some b194 ∧ (zK M164 b194).1 = 9 ∧ 0 ≤ x1 ∧ x1 < ((zK M164 b194).2 : Int) ∧ P (zI M164 b194 x1) M164) ∧ (x2 = 5 → zK M164 a0 = (8, 25) ∧ ∃ b200, zR M164 a0 14 = some b200 ∧ (zK M164 b200).1 = 9 ∧ 0 ≤ x1 ∧ x1 < ((zK M164 b200).2 : Int) ∧ P (zI M164 b200 x1) M164) ∧ (x2 = 6 → zK M164 a0 = (8, 25) ∧ ∃ P205 : Int → zM → Prop, zCi E mX7_stateOf d 0 0 [vR (some a0), vI x1] M164 P205 ∧ ∀ r208 M207, P205 r208 M207 → P r208 M207) ∧ (x2 = 7 → zK M164 a0 = (8, 25) ∧ ∃ b213, zR M164 a0 15 = some b213 ∧ (zK M164 b213).1 = 9 ∧ 0 ≤ x1 ∧ x1 < ((zK M164 b213).2 : Int) ∧ P (zI M164 b213 x1) M164) ∧ (x2 = 8 → zK M164 a0 = (8, 25) ∧ ∃ b219, zR M164 a0 20 = some b219 ∧ (zK M164 b219).1 = 9 ∧ 0 ≤ x1 ∧ x1 < ((zK M164 b219).2 : Int) ∧ P (zI M164 b219 x1) M164) ∧ (x2 = 9 → zK M164 a0 = (8, 25) ∧ ∃ b225, zR M164 a0 21 = some b225 ∧ (zK M164 b225).1 = 9 ∧ 0 ≤ x1 ∧ x1 < ((zK M164 b225).2 : Int) ∧ P (zI M164 b225 x1) M164) ∧ (x2 = 10 → zK M164 a0 = (8, 25) ∧ ∃ P230 : Int → zM → Prop, zCi E mX7_slack d 0 0 [vR (some a0), vI r165, vI x1] M164 P230 ∧ ∀ r233 M232, P230 r233 M232 → P r233 M232) ∧ (x2 = 11 → ZX7_told E d X P 180 [(0, vR (some a0)), (1, vI x1), (2, vI x2), (3, vI 0), (4, vI r165), (5, vI 0)] [] M164 0 0) ∧ (x2 = 12 → zK M164 a0 = (8, 25) ∧ ∃ b239, zR M164 a0 16 = some b239 ∧ (zK M164 b239).1 = 9 ∧ 0 ≤ x1 ∧ x1 < ((zK M164 b239).2 : Int) ∧ P (zI M164 b239 x1) M164) ∧ ((x2 < 0 ∨ 12 < x2) → P (-1) M164))))))) ∧ (r4 = 0 → P (-1) M3))) :
    ZX7_told E d X P 0 [(0, vR (some a0)), (1, vI x1), (2, vI x2)] [] M 0 0 := by
  refine z_aload_n 0 dX7_told_0 rfl ?_
  refine z_iload_n 1 dX7_told_1 rfl ?_
  obtain ⟨q6, h⟩ := h
  obtain ⟨P1, c2, h⟩ := h
  refine z_Vi (as := [vI x1]) mv_X7_100 dX7_told_2 c2 q6 rfl rfl (Nat.le_of_ble_eq_true rfl) (Nat.le_of_ble_eq_true rfl) (Nat.le_of_ble_eq_true rfl) (fun r4 M3 p5 => ?_)
  have h := h r4 M3 p5
  refine z_if_ne (tgt := 10) dX7_told_5 (by decide) (fun q7 => ?_) (fun q7 => ?_)
  · have h := h.1 q7
    refine z_iconst dX7_told_10 (by decide) ?_
    refine z_istore_n dX7_told_11 (by decide) rfl ?_
    refine z_iload_n 3 dX7_told_12 rfl ?_
    refine z_bipush dX7_told_13 (by decide) ?_
    refine z_icmp_lt (tgt := 31) dX7_told_15 (by decide) (fun q8 => ?_) (fun q8 => ?_)
    · have h := h.1 q8
      refine z_iconst dX7_told_31 (by decide) ?_
      refine z_istore dX7_told_32 (by decide) rfl ?_
      refine z_iload_n 4 dX7_told_34 rfl ?_
      obtain ⟨hq9, h⟩ := h
      by_cases q9 : x2 = 0
      · refine z_tableIn (tgt := 100) dX7_told_35 0 q9 (by decide) (by decide) rfl (by decide) ?_
        have h := hq9 q9
        refine z_aload_n 2 dX7_told_100 rfl ?_
        obtain ⟨q10, h⟩ := h
        refine z_getR fl_X7_26 rfl dX7_told_101 q10 ?_
        refine z_iload_n 3 dX7_told_104 rfl ?_
        obtain ⟨b11, eb11, h⟩ := h
        rw [eb11]
        obtain ⟨q12, h⟩ := h
        obtain ⟨q13, h⟩ := h
        obtain ⟨q14, h⟩ := h
        refine z_iald dX7_told_105 (n := (zK M3 b11).2) (Prod.ext q12 rfl) q13 q14 ?_
        exact z_iret hr dX7_told_106 (Nat.le_of_ble_eq_true rfl) (Nat.le_of_ble_eq_true rfl) ⟨_, rfl, h⟩
      obtain ⟨hq15, h⟩ := h
      by_cases q15 : x2 = 1
      · refine z_tableIn (tgt := 107) dX7_told_35 1 q15 (by decide) (by decide) rfl (by decide) ?_
        have h := hq15 q15
        refine z_aload_n 2 dX7_told_107 rfl ?_
        obtain ⟨q16, h⟩ := h
        refine z_getR fl_X7_29 rfl dX7_told_108 q16 ?_
        refine z_iload_n 3 dX7_told_111 rfl ?_
        obtain ⟨b17, eb17, h⟩ := h
        rw [eb17]
        obtain ⟨q18, h⟩ := h
        obtain ⟨q19, h⟩ := h
        obtain ⟨q20, h⟩ := h
        refine z_iald dX7_told_112 (n := (zK M3 b17).2) (Prod.ext q18 rfl) q19 q20 ?_
        exact z_iret hr dX7_told_113 (Nat.le_of_ble_eq_true rfl) (Nat.le_of_ble_eq_true rfl) ⟨_, rfl, h⟩
      obtain ⟨hq21, h⟩ := h
      by_cases q21 : x2 = 2
      · refine z_tableIn (tgt := 114) dX7_told_35 2 q21 (by decide) (by decide) rfl (by decide) ?_
        have h := hq21 q21
        refine z_aload_n 2 dX7_told_114 rfl ?_
        obtain ⟨q22, h⟩ := h
        refine z_getR fl_X7_32 rfl dX7_told_115 q22 ?_
        refine z_iload_n 3 dX7_told_118 rfl ?_
        obtain ⟨b23, eb23, h⟩ := h
        rw [eb23]
        obtain ⟨q24, h⟩ := h
        obtain ⟨q25, h⟩ := h
        obtain ⟨q26, h⟩ := h
        refine z_iald dX7_told_119 (n := (zK M3 b23).2) (Prod.ext q24 rfl) q25 q26 ?_
        exact z_iret hr dX7_told_120 (Nat.le_of_ble_eq_true rfl) (Nat.le_of_ble_eq_true rfl) ⟨_, rfl, h⟩
      obtain ⟨hq27, h⟩ := h
      by_cases q27 : x2 = 3
      · refine z_tableIn (tgt := 121) dX7_told_35 3 q27 (by decide) (by decide) rfl (by decide) ?_
        have h := hq27 q27
        refine z_aload_n 2 dX7_told_121 rfl ?_
        obtain ⟨q28, h⟩ := h
        refine z_getR fl_X7_35 rfl dX7_told_122 q28 ?_
        refine z_iload_n 3 dX7_told_125 rfl ?_
        obtain ⟨b29, eb29, h⟩ := h
        rw [eb29]
        obtain ⟨q30, h⟩ := h
        obtain ⟨q31, h⟩ := h
        obtain ⟨q32, h⟩ := h
        refine z_iald dX7_told_126 (n := (zK M3 b29).2) (Prod.ext q30 rfl) q31 q32 ?_
        exact z_iret hr dX7_told_127 (Nat.le_of_ble_eq_true rfl) (Nat.le_of_ble_eq_true rfl) ⟨_, rfl, h⟩
      obtain ⟨hq33, h⟩ := h
      by_cases q33 : x2 = 4
      · refine z_tableIn (tgt := 128) dX7_told_35 4 q33 (by decide) (by decide) rfl (by decide) ?_
        have h := hq33 q33
        refine z_aload_n 2 dX7_told_128 rfl ?_
        obtain ⟨q34, h⟩ := h
        refine z_getR fl_X7_38 rfl dX7_told_129 q34 ?_
        refine z_iload_n 3 dX7_told_132 rfl ?_
        obtain ⟨b35, eb35, h⟩ := h
        rw [eb35]
        obtain ⟨q36, h⟩ := h
        obtain ⟨q37, h⟩ := h
        obtain ⟨q38, h⟩ := h
        refine z_iald dX7_told_133 (n := (zK M3 b35).2) (Prod.ext q36 rfl) q37 q38 ?_
        exact z_iret hr dX7_told_134 (Nat.le_of_ble_eq_true rfl) (Nat.le_of_ble_eq_true rfl) ⟨_, rfl, h⟩
      obtain ⟨hq39, h⟩ := h
      by_cases q39 : x2 = 5
      · refine z_tableIn (tgt := 135) dX7_told_35 5 q39 (by decide) (by decide) rfl (by decide) ?_
        have h := hq39 q39
        refine z_aload_n 2 dX7_told_135 rfl ?_
        obtain ⟨q40, h⟩ := h
        refine z_getR fl_X7_41 rfl dX7_told_136 q40 ?_
        refine z_iload_n 3 dX7_told_139 rfl ?_
        obtain ⟨b41, eb41, h⟩ := h
        rw [eb41]
        obtain ⟨q42, h⟩ := h
        obtain ⟨q43, h⟩ := h
        obtain ⟨q44, h⟩ := h
        refine z_iald dX7_told_140 (n := (zK M3 b41).2) (Prod.ext q42 rfl) q43 q44 ?_
        exact z_iret hr dX7_told_141 (Nat.le_of_ble_eq_true rfl) (Nat.le_of_ble_eq_true rfl) ⟨_, rfl, h⟩
      obtain ⟨hq45, h⟩ := h
      by_cases q45 : x2 = 6
      · refine z_tableIn (tgt := 142) dX7_told_35 6 q45 (by decide) (by decide) rfl (by decide) ?_
        have h := hq45 q45
        refine z_aload_n 2 dX7_told_142 rfl ?_
        refine z_iload_n 3 dX7_told_143 rfl ?_
        obtain ⟨q51, h⟩ := h
        obtain ⟨P46, c47, h⟩ := h
        refine z_Vi (as := [vI x1]) mv_X7_151 dX7_told_144 c47 q51 rfl rfl (Nat.le_of_ble_eq_true rfl) (Nat.le_of_ble_eq_true rfl) (Nat.le_of_ble_eq_true rfl) (fun r49 M48 p50 => ?_)
        have h := h r49 M48 p50
        exact z_iret hr dX7_told_147 (Nat.le_of_ble_eq_true rfl) (Nat.le_of_ble_eq_true rfl) ⟨_, rfl, h⟩
      obtain ⟨hq52, h⟩ := h
      by_cases q52 : x2 = 7
      · refine z_tableIn (tgt := 148) dX7_told_35 7 q52 (by decide) (by decide) rfl (by decide) ?_
        have h := hq52 q52
        refine z_aload_n 2 dX7_told_148 rfl ?_
        obtain ⟨q53, h⟩ := h
        refine z_getR fl_X7_44 rfl dX7_told_149 q53 ?_
        refine z_iload_n 3 dX7_told_152 rfl ?_
        obtain ⟨b54, eb54, h⟩ := h
        rw [eb54]
        obtain ⟨q55, h⟩ := h
        obtain ⟨q56, h⟩ := h
        obtain ⟨q57, h⟩ := h
        refine z_iald dX7_told_153 (n := (zK M3 b54).2) (Prod.ext q55 rfl) q56 q57 ?_
        exact z_iret hr dX7_told_154 (Nat.le_of_ble_eq_true rfl) (Nat.le_of_ble_eq_true rfl) ⟨_, rfl, h⟩
      obtain ⟨hq58, h⟩ := h
      by_cases q58 : x2 = 8
      · refine z_tableIn (tgt := 155) dX7_told_35 8 q58 (by decide) (by decide) rfl (by decide) ?_
        have h := hq58 q58
        refine z_aload_n 2 dX7_told_155 rfl ?_
        obtain ⟨q59, h⟩ := h
        refine z_getR fl_X7_59 rfl dX7_told_156 q59 ?_
        refine z_iload_n 3 dX7_told_159 rfl ?_
        obtain ⟨b60, eb60, h⟩ := h
        rw [eb60]
        obtain ⟨q61, h⟩ := h
        obtain ⟨q62, h⟩ := h
        obtain ⟨q63, h⟩ := h
        refine z_iald dX7_told_160 (n := (zK M3 b60).2) (Prod.ext q61 rfl) q62 q63 ?_
        exact z_iret hr dX7_told_161 (Nat.le_of_ble_eq_true rfl) (Nat.le_of_ble_eq_true rfl) ⟨_, rfl, h⟩
      obtain ⟨hq64, h⟩ := h
      by_cases q64 : x2 = 9
      · refine z_tableIn (tgt := 162) dX7_told_35 9 q64 (by decide) (by decide) rfl (by decide) ?_
        have h := hq64 q64
        refine z_aload_n 2 dX7_told_162 rfl ?_
        obtain ⟨q65, h⟩ := h
        refine z_getR fl_X7_62 rfl dX7_told_163 q65 ?_
        refine z_iload_n 3 dX7_told_166 rfl ?_
        obtain ⟨b66, eb66, h⟩ := h
        rw [eb66]
        obtain ⟨q67, h⟩ := h
        obtain ⟨q68, h⟩ := h
        obtain ⟨q69, h⟩ := h
        refine z_iald dX7_told_167 (n := (zK M3 b66).2) (Prod.ext q67 rfl) q68 q69 ?_
        exact z_iret hr dX7_told_168 (Nat.le_of_ble_eq_true rfl) (Nat.le_of_ble_eq_true rfl) ⟨_, rfl, h⟩
      obtain ⟨hq70, h⟩ := h
      by_cases q70 : x2 = 10
      · refine z_tableIn (tgt := 169) dX7_told_35 10 q70 (by decide) (by decide) rfl (by decide) ?_
        have h := hq70 q70
        refine z_aload_n 2 dX7_told_169 rfl ?_
        refine z_iload 0 dX7_told_170 rfl ?_
        refine z_iload_n 3 dX7_told_172 rfl ?_
        obtain ⟨q76, h⟩ := h
        obtain ⟨P71, c72, h⟩ := h
        refine z_Vi (as := [vI 0, vI x1]) mv_X7_136 dX7_told_173 c72 q76 rfl rfl (Nat.le_of_ble_eq_true rfl) (Nat.le_of_ble_eq_true rfl) (Nat.le_of_ble_eq_true rfl) (fun r74 M73 p75 => ?_)
        have h := h r74 M73 p75
        exact z_iret hr dX7_told_176 (Nat.le_of_ble_eq_true rfl) (Nat.le_of_ble_eq_true rfl) ⟨_, rfl, h⟩
      obtain ⟨hq77, h⟩ := h
      by_cases q77 : x2 = 11
      · refine z_tableIn (tgt := 177) dX7_told_35 11 q77 (by decide) (by decide) rfl (by decide) ?_
        have h := hq77 q77
        refine z_iconst dX7_told_177 (by decide) ?_
        refine z_istore dX7_told_178 (by decide) rfl ?_
        exact z_sub [3, 4, 5, 2, 1, 0] rfl h
      obtain ⟨hq78, h⟩ := h
      by_cases q78 : x2 = 12
      · refine z_tableIn (tgt := 220) dX7_told_35 12 q78 (by decide) (by decide) rfl (by decide) ?_
        have h := hq78 q78
        refine z_aload_n 2 dX7_told_220 rfl ?_
        obtain ⟨q79, h⟩ := h
        refine z_getR fl_X7_47 rfl dX7_told_221 q79 ?_
        refine z_iload_n 3 dX7_told_224 rfl ?_
        obtain ⟨b80, eb80, h⟩ := h
        rw [eb80]
        obtain ⟨q81, h⟩ := h
        obtain ⟨q82, h⟩ := h
        obtain ⟨q83, h⟩ := h
        refine z_iald dX7_told_225 (n := (zK M3 b80).2) (Prod.ext q81 rfl) q82 q83 ?_
        exact z_iret hr dX7_told_226 (Nat.le_of_ble_eq_true rfl) (Nat.le_of_ble_eq_true rfl) ⟨_, rfl, h⟩
      have ho84 := zo_0_12 x2 q9 q15 q21 q27 q33 q39 q45 q52 q58 q64 q70 q77 q78
      refine z_tableOut (tgt := 227) dX7_told_35 ho84 (by decide) ?_
      have h := h ho84
      refine z_iconst dX7_told_227 (by decide) ?_
      exact z_iret hr dX7_told_228 (Nat.le_of_ble_eq_true rfl) (Nat.le_of_ble_eq_true rfl) ⟨_, rfl, h⟩
    · have h := h.2 q8
      refine z_iload_n 3 dX7_told_18 rfl ?_
      refine z_bipush dX7_told_19 (by decide) ?_
      refine z_icmp_gt (tgt := 31) dX7_told_21 (by decide) (fun q85 => ?_) (fun q85 => ?_)
      · have h := h.1 q85
        refine z_iconst dX7_told_31 (by decide) ?_
        refine z_istore dX7_told_32 (by decide) rfl ?_
        refine z_iload_n 4 dX7_told_34 rfl ?_
        obtain ⟨hq86, h⟩ := h
        by_cases q86 : x2 = 0
        · refine z_tableIn (tgt := 100) dX7_told_35 0 q86 (by decide) (by decide) rfl (by decide) ?_
          have h := hq86 q86
          refine z_aload_n 2 dX7_told_100 rfl ?_
          obtain ⟨q87, h⟩ := h
          refine z_getR fl_X7_26 rfl dX7_told_101 q87 ?_
          refine z_iload_n 3 dX7_told_104 rfl ?_
          obtain ⟨b88, eb88, h⟩ := h
          rw [eb88]
          obtain ⟨q89, h⟩ := h
          obtain ⟨q90, h⟩ := h
          obtain ⟨q91, h⟩ := h
          refine z_iald dX7_told_105 (n := (zK M3 b88).2) (Prod.ext q89 rfl) q90 q91 ?_
          exact z_iret hr dX7_told_106 (Nat.le_of_ble_eq_true rfl) (Nat.le_of_ble_eq_true rfl) ⟨_, rfl, h⟩
        obtain ⟨hq92, h⟩ := h
        by_cases q92 : x2 = 1
        · refine z_tableIn (tgt := 107) dX7_told_35 1 q92 (by decide) (by decide) rfl (by decide) ?_
          have h := hq92 q92
          refine z_aload_n 2 dX7_told_107 rfl ?_
          obtain ⟨q93, h⟩ := h
          refine z_getR fl_X7_29 rfl dX7_told_108 q93 ?_
          refine z_iload_n 3 dX7_told_111 rfl ?_
          obtain ⟨b94, eb94, h⟩ := h
          rw [eb94]
          obtain ⟨q95, h⟩ := h
          obtain ⟨q96, h⟩ := h
          obtain ⟨q97, h⟩ := h
          refine z_iald dX7_told_112 (n := (zK M3 b94).2) (Prod.ext q95 rfl) q96 q97 ?_
          exact z_iret hr dX7_told_113 (Nat.le_of_ble_eq_true rfl) (Nat.le_of_ble_eq_true rfl) ⟨_, rfl, h⟩
        obtain ⟨hq98, h⟩ := h
        by_cases q98 : x2 = 2
        · refine z_tableIn (tgt := 114) dX7_told_35 2 q98 (by decide) (by decide) rfl (by decide) ?_
          have h := hq98 q98
          refine z_aload_n 2 dX7_told_114 rfl ?_
          obtain ⟨q99, h⟩ := h
          refine z_getR fl_X7_32 rfl dX7_told_115 q99 ?_
          refine z_iload_n 3 dX7_told_118 rfl ?_
          obtain ⟨b100, eb100, h⟩ := h
          rw [eb100]
          obtain ⟨q101, h⟩ := h
          obtain ⟨q102, h⟩ := h
          obtain ⟨q103, h⟩ := h
          refine z_iald dX7_told_119 (n := (zK M3 b100).2) (Prod.ext q101 rfl) q102 q103 ?_
          exact z_iret hr dX7_told_120 (Nat.le_of_ble_eq_true rfl) (Nat.le_of_ble_eq_true rfl) ⟨_, rfl, h⟩
        obtain ⟨hq104, h⟩ := h
        by_cases q104 : x2 = 3
        · refine z_tableIn (tgt := 121) dX7_told_35 3 q104 (by decide) (by decide) rfl (by decide) ?_
          have h := hq104 q104
          refine z_aload_n 2 dX7_told_121 rfl ?_
          obtain ⟨q105, h⟩ := h
          refine z_getR fl_X7_35 rfl dX7_told_122 q105 ?_
          refine z_iload_n 3 dX7_told_125 rfl ?_
          obtain ⟨b106, eb106, h⟩ := h
          rw [eb106]
          obtain ⟨q107, h⟩ := h
          obtain ⟨q108, h⟩ := h
          obtain ⟨q109, h⟩ := h
          refine z_iald dX7_told_126 (n := (zK M3 b106).2) (Prod.ext q107 rfl) q108 q109 ?_
          exact z_iret hr dX7_told_127 (Nat.le_of_ble_eq_true rfl) (Nat.le_of_ble_eq_true rfl) ⟨_, rfl, h⟩
        obtain ⟨hq110, h⟩ := h
        by_cases q110 : x2 = 4
        · refine z_tableIn (tgt := 128) dX7_told_35 4 q110 (by decide) (by decide) rfl (by decide) ?_
          have h := hq110 q110
          refine z_aload_n 2 dX7_told_128 rfl ?_
          obtain ⟨q111, h⟩ := h
          refine z_getR fl_X7_38 rfl dX7_told_129 q111 ?_
          refine z_iload_n 3 dX7_told_132 rfl ?_
          obtain ⟨b112, eb112, h⟩ := h
          rw [eb112]
          obtain ⟨q113, h⟩ := h
          obtain ⟨q114, h⟩ := h
          obtain ⟨q115, h⟩ := h
          refine z_iald dX7_told_133 (n := (zK M3 b112).2) (Prod.ext q113 rfl) q114 q115 ?_
          exact z_iret hr dX7_told_134 (Nat.le_of_ble_eq_true rfl) (Nat.le_of_ble_eq_true rfl) ⟨_, rfl, h⟩
        obtain ⟨hq116, h⟩ := h
        by_cases q116 : x2 = 5
        · refine z_tableIn (tgt := 135) dX7_told_35 5 q116 (by decide) (by decide) rfl (by decide) ?_
          have h := hq116 q116
          refine z_aload_n 2 dX7_told_135 rfl ?_
          obtain ⟨q117, h⟩ := h
          refine z_getR fl_X7_41 rfl dX7_told_136 q117 ?_
          refine z_iload_n 3 dX7_told_139 rfl ?_
          obtain ⟨b118, eb118, h⟩ := h
          rw [eb118]
          obtain ⟨q119, h⟩ := h
          obtain ⟨q120, h⟩ := h
          obtain ⟨q121, h⟩ := h
          refine z_iald dX7_told_140 (n := (zK M3 b118).2) (Prod.ext q119 rfl) q120 q121 ?_
          exact z_iret hr dX7_told_141 (Nat.le_of_ble_eq_true rfl) (Nat.le_of_ble_eq_true rfl) ⟨_, rfl, h⟩
        obtain ⟨hq122, h⟩ := h
        by_cases q122 : x2 = 6
        · refine z_tableIn (tgt := 142) dX7_told_35 6 q122 (by decide) (by decide) rfl (by decide) ?_
          have h := hq122 q122
          refine z_aload_n 2 dX7_told_142 rfl ?_
          refine z_iload_n 3 dX7_told_143 rfl ?_
          obtain ⟨q128, h⟩ := h
          obtain ⟨P123, c124, h⟩ := h
          refine z_Vi (as := [vI x1]) mv_X7_151 dX7_told_144 c124 q128 rfl rfl (Nat.le_of_ble_eq_true rfl) (Nat.le_of_ble_eq_true rfl) (Nat.le_of_ble_eq_true rfl) (fun r126 M125 p127 => ?_)
          have h := h r126 M125 p127
          exact z_iret hr dX7_told_147 (Nat.le_of_ble_eq_true rfl) (Nat.le_of_ble_eq_true rfl) ⟨_, rfl, h⟩
        obtain ⟨hq129, h⟩ := h
        by_cases q129 : x2 = 7
        · refine z_tableIn (tgt := 148) dX7_told_35 7 q129 (by decide) (by decide) rfl (by decide) ?_
          have h := hq129 q129
          refine z_aload_n 2 dX7_told_148 rfl ?_
          obtain ⟨q130, h⟩ := h
          refine z_getR fl_X7_44 rfl dX7_told_149 q130 ?_
          refine z_iload_n 3 dX7_told_152 rfl ?_
          obtain ⟨b131, eb131, h⟩ := h
          rw [eb131]
          obtain ⟨q132, h⟩ := h
          obtain ⟨q133, h⟩ := h
          obtain ⟨q134, h⟩ := h
          refine z_iald dX7_told_153 (n := (zK M3 b131).2) (Prod.ext q132 rfl) q133 q134 ?_
          exact z_iret hr dX7_told_154 (Nat.le_of_ble_eq_true rfl) (Nat.le_of_ble_eq_true rfl) ⟨_, rfl, h⟩
        obtain ⟨hq135, h⟩ := h
        by_cases q135 : x2 = 8
        · refine z_tableIn (tgt := 155) dX7_told_35 8 q135 (by decide) (by decide) rfl (by decide) ?_
          have h := hq135 q135
          refine z_aload_n 2 dX7_told_155 rfl ?_
          obtain ⟨q136, h⟩ := h
          refine z_getR fl_X7_59 rfl dX7_told_156 q136 ?_
          refine z_iload_n 3 dX7_told_159 rfl ?_
          obtain ⟨b137, eb137, h⟩ := h
          rw [eb137]
          obtain ⟨q138, h⟩ := h
          obtain ⟨q139, h⟩ := h
          obtain ⟨q140, h⟩ := h
          refine z_iald dX7_told_160 (n := (zK M3 b137).2) (Prod.ext q138 rfl) q139 q140 ?_
          exact z_iret hr dX7_told_161 (Nat.le_of_ble_eq_true rfl) (Nat.le_of_ble_eq_true rfl) ⟨_, rfl, h⟩
        obtain ⟨hq141, h⟩ := h
        by_cases q141 : x2 = 9
        · refine z_tableIn (tgt := 162) dX7_told_35 9 q141 (by decide) (by decide) rfl (by decide) ?_
          have h := hq141 q141
          refine z_aload_n 2 dX7_told_162 rfl ?_
          obtain ⟨q142, h⟩ := h
          refine z_getR fl_X7_62 rfl dX7_told_163 q142 ?_
          refine z_iload_n 3 dX7_told_166 rfl ?_
          obtain ⟨b143, eb143, h⟩ := h
          rw [eb143]
          obtain ⟨q144, h⟩ := h
          obtain ⟨q145, h⟩ := h
          obtain ⟨q146, h⟩ := h
          refine z_iald dX7_told_167 (n := (zK M3 b143).2) (Prod.ext q144 rfl) q145 q146 ?_
          exact z_iret hr dX7_told_168 (Nat.le_of_ble_eq_true rfl) (Nat.le_of_ble_eq_true rfl) ⟨_, rfl, h⟩
        obtain ⟨hq147, h⟩ := h
        by_cases q147 : x2 = 10
        · refine z_tableIn (tgt := 169) dX7_told_35 10 q147 (by decide) (by decide) rfl (by decide) ?_
          have h := hq147 q147
          refine z_aload_n 2 dX7_told_169 rfl ?_
          refine z_iload 0 dX7_told_170 rfl ?_
          refine z_iload_n 3 dX7_told_172 rfl ?_
          obtain ⟨q153, h⟩ := h
          obtain ⟨P148, c149, h⟩ := h
          refine z_Vi (as := [vI 0, vI x1]) mv_X7_136 dX7_told_173 c149 q153 rfl rfl (Nat.le_of_ble_eq_true rfl) (Nat.le_of_ble_eq_true rfl) (Nat.le_of_ble_eq_true rfl) (fun r151 M150 p152 => ?_)
          have h := h r151 M150 p152
          exact z_iret hr dX7_told_176 (Nat.le_of_ble_eq_true rfl) (Nat.le_of_ble_eq_true rfl) ⟨_, rfl, h⟩
        obtain ⟨hq154, h⟩ := h
        by_cases q154 : x2 = 11
        · refine z_tableIn (tgt := 177) dX7_told_35 11 q154 (by decide) (by decide) rfl (by decide) ?_
          have h := hq154 q154
          refine z_iconst dX7_told_177 (by decide) ?_
          refine z_istore dX7_told_178 (by decide) rfl ?_
          exact z_sub [3, 4, 5, 2, 1, 0] rfl h
        obtain ⟨hq155, h⟩ := h
        by_cases q155 : x2 = 12
        · refine z_tableIn (tgt := 220) dX7_told_35 12 q155 (by decide) (by decide) rfl (by decide) ?_
          have h := hq155 q155
          refine z_aload_n 2 dX7_told_220 rfl ?_
          obtain ⟨q156, h⟩ := h
          refine z_getR fl_X7_47 rfl dX7_told_221 q156 ?_
          refine z_iload_n 3 dX7_told_224 rfl ?_
          obtain ⟨b157, eb157, h⟩ := h
          rw [eb157]
          obtain ⟨q158, h⟩ := h
          obtain ⟨q159, h⟩ := h
          obtain ⟨q160, h⟩ := h
          refine z_iald dX7_told_225 (n := (zK M3 b157).2) (Prod.ext q158 rfl) q159 q160 ?_
          exact z_iret hr dX7_told_226 (Nat.le_of_ble_eq_true rfl) (Nat.le_of_ble_eq_true rfl) ⟨_, rfl, h⟩
        have ho161 := zo_0_12 x2 q86 q92 q98 q104 q110 q116 q122 q129 q135 q141 q147 q154 q155
        refine z_tableOut (tgt := 227) dX7_told_35 ho161 (by decide) ?_
        have h := h ho161
        refine z_iconst dX7_told_227 (by decide) ?_
        exact z_iret hr dX7_told_228 (Nat.le_of_ble_eq_true rfl) (Nat.le_of_ble_eq_true rfl) ⟨_, rfl, h⟩
      · have h := h.2 q85
        refine z_aload_n 1 dX7_told_24 rfl ?_
        obtain ⟨q167, h⟩ := h
        obtain ⟨P162, c163, h⟩ := h
        refine z_Vi (as := []) mv_X7_132 dX7_told_25 c163 q167 rfl rfl (Nat.le_of_ble_eq_true rfl) (Nat.le_of_ble_eq_true rfl) (Nat.le_of_ble_eq_true rfl) (fun r165 M164 p166 => ?_)
        have h := h r165 M164 p166
        refine z_goto (tgt := 32) dX7_told_28 (by decide) ?_
        refine z_istore dX7_told_32 (by decide) rfl ?_
        refine z_iload_n 4 dX7_told_34 rfl ?_
        obtain ⟨hq168, h⟩ := h
        by_cases q168 : x2 = 0
        · refine z_tableIn (tgt := 100) dX7_told_35 0 q168 (by decide) (by decide) rfl (by decide) ?_
          have h := hq168 q168
          refine z_aload_n 2 dX7_told_100 rfl ?_
          obtain ⟨q169, h⟩ := h
          refine z_getR fl_X7_26 rfl dX7_told_101 q169 ?_
          refine z_iload_n 3 dX7_told_104 rfl ?_
          obtain ⟨b170, eb170, h⟩ := h
          rw [eb170]
          obtain ⟨q171, h⟩ := h
          obtain ⟨q172, h⟩ := h
          obtain ⟨q173, h⟩ := h
          refine z_iald dX7_told_105 (n := (zK M164 b170).2) (Prod.ext q171 rfl) q172 q173 ?_
          exact z_iret hr dX7_told_106 (Nat.le_of_ble_eq_true rfl) (Nat.le_of_ble_eq_true rfl) ⟨_, rfl, h⟩
        obtain ⟨hq174, h⟩ := h
        by_cases q174 : x2 = 1
        · refine z_tableIn (tgt := 107) dX7_told_35 1 q174 (by decide) (by decide) rfl (by decide) ?_
          have h := hq174 q174
          refine z_aload_n 2 dX7_told_107 rfl ?_
          obtain ⟨q175, h⟩ := h
          refine z_getR fl_X7_29 rfl dX7_told_108 q175 ?_
          refine z_iload_n 3 dX7_told_111 rfl ?_
          obtain ⟨b176, eb176, h⟩ := h
          rw [eb176]
          obtain ⟨q177, h⟩ := h
          obtain ⟨q178, h⟩ := h
          obtain ⟨q179, h⟩ := h
          refine z_iald dX7_told_112 (n := (zK M164 b176).2) (Prod.ext q177 rfl) q178 q179 ?_
          exact z_iret hr dX7_told_113 (Nat.le_of_ble_eq_true rfl) (Nat.le_of_ble_eq_true rfl) ⟨_, rfl, h⟩
        obtain ⟨hq180, h⟩ := h
        by_cases q180 : x2 = 2
        · refine z_tableIn (tgt := 114) dX7_told_35 2 q180 (by decide) (by decide) rfl (by decide) ?_
          have h := hq180 q180
          refine z_aload_n 2 dX7_told_114 rfl ?_
          obtain ⟨q181, h⟩ := h
          refine z_getR fl_X7_32 rfl dX7_told_115 q181 ?_
          refine z_iload_n 3 dX7_told_118 rfl ?_
          obtain ⟨b182, eb182, h⟩ := h
          rw [eb182]
          obtain ⟨q183, h⟩ := h
          obtain ⟨q184, h⟩ := h
          obtain ⟨q185, h⟩ := h
          refine z_iald dX7_told_119 (n := (zK M164 b182).2) (Prod.ext q183 rfl) q184 q185 ?_
          exact z_iret hr dX7_told_120 (Nat.le_of_ble_eq_true rfl) (Nat.le_of_ble_eq_true rfl) ⟨_, rfl, h⟩
        obtain ⟨hq186, h⟩ := h
        by_cases q186 : x2 = 3
        · refine z_tableIn (tgt := 121) dX7_told_35 3 q186 (by decide) (by decide) rfl (by decide) ?_
          have h := hq186 q186
          refine z_aload_n 2 dX7_told_121 rfl ?_
          obtain ⟨q187, h⟩ := h
          refine z_getR fl_X7_35 rfl dX7_told_122 q187 ?_
          refine z_iload_n 3 dX7_told_125 rfl ?_
          obtain ⟨b188, eb188, h⟩ := h
          rw [eb188]
          obtain ⟨q189, h⟩ := h
          obtain ⟨q190, h⟩ := h
          obtain ⟨q191, h⟩ := h
          refine z_iald dX7_told_126 (n := (zK M164 b188).2) (Prod.ext q189 rfl) q190 q191 ?_
          exact z_iret hr dX7_told_127 (Nat.le_of_ble_eq_true rfl) (Nat.le_of_ble_eq_true rfl) ⟨_, rfl, h⟩
        obtain ⟨hq192, h⟩ := h
        by_cases q192 : x2 = 4
        · refine z_tableIn (tgt := 128) dX7_told_35 4 q192 (by decide) (by decide) rfl (by decide) ?_
          have h := hq192 q192
          refine z_aload_n 2 dX7_told_128 rfl ?_
          obtain ⟨q193, h⟩ := h
          refine z_getR fl_X7_38 rfl dX7_told_129 q193 ?_
          refine z_iload_n 3 dX7_told_132 rfl ?_
          obtain ⟨b194, eb194, h⟩ := h
          rw [eb194]
          obtain ⟨q195, h⟩ := h
          obtain ⟨q196, h⟩ := h
          obtain ⟨q197, h⟩ := h
          refine z_iald dX7_told_133 (n := (zK M164 b194).2) (Prod.ext q195 rfl) q196 q197 ?_
          exact z_iret hr dX7_told_134 (Nat.le_of_ble_eq_true rfl) (Nat.le_of_ble_eq_true rfl) ⟨_, rfl, h⟩
        obtain ⟨hq198, h⟩ := h
        by_cases q198 : x2 = 5
        · refine z_tableIn (tgt := 135) dX7_told_35 5 q198 (by decide) (by decide) rfl (by decide) ?_
          have h := hq198 q198
          refine z_aload_n 2 dX7_told_135 rfl ?_
          obtain ⟨q199, h⟩ := h
          refine z_getR fl_X7_41 rfl dX7_told_136 q199 ?_
          refine z_iload_n 3 dX7_told_139 rfl ?_
          obtain ⟨b200, eb200, h⟩ := h
          rw [eb200]
          obtain ⟨q201, h⟩ := h
          obtain ⟨q202, h⟩ := h
          obtain ⟨q203, h⟩ := h
          refine z_iald dX7_told_140 (n := (zK M164 b200).2) (Prod.ext q201 rfl) q202 q203 ?_
          exact z_iret hr dX7_told_141 (Nat.le_of_ble_eq_true rfl) (Nat.le_of_ble_eq_true rfl) ⟨_, rfl, h⟩
        obtain ⟨hq204, h⟩ := h
        by_cases q204 : x2 = 6
        · refine z_tableIn (tgt := 142) dX7_told_35 6 q204 (by decide) (by decide) rfl (by decide) ?_
          have h := hq204 q204
          refine z_aload_n 2 dX7_told_142 rfl ?_
          refine z_iload_n 3 dX7_told_143 rfl ?_
          obtain ⟨q210, h⟩ := h
          obtain ⟨P205, c206, h⟩ := h
          refine z_Vi (as := [vI x1]) mv_X7_151 dX7_told_144 c206 q210 rfl rfl (Nat.le_of_ble_eq_true rfl) (Nat.le_of_ble_eq_true rfl) (Nat.le_of_ble_eq_true rfl) (fun r208 M207 p209 => ?_)
          have h := h r208 M207 p209
          exact z_iret hr dX7_told_147 (Nat.le_of_ble_eq_true rfl) (Nat.le_of_ble_eq_true rfl) ⟨_, rfl, h⟩
        obtain ⟨hq211, h⟩ := h
        by_cases q211 : x2 = 7
        · refine z_tableIn (tgt := 148) dX7_told_35 7 q211 (by decide) (by decide) rfl (by decide) ?_
          have h := hq211 q211
          refine z_aload_n 2 dX7_told_148 rfl ?_
          obtain ⟨q212, h⟩ := h
          refine z_getR fl_X7_44 rfl dX7_told_149 q212 ?_
          refine z_iload_n 3 dX7_told_152 rfl ?_
          obtain ⟨b213, eb213, h⟩ := h
          rw [eb213]
          obtain ⟨q214, h⟩ := h
          obtain ⟨q215, h⟩ := h
          obtain ⟨q216, h⟩ := h
          refine z_iald dX7_told_153 (n := (zK M164 b213).2) (Prod.ext q214 rfl) q215 q216 ?_
          exact z_iret hr dX7_told_154 (Nat.le_of_ble_eq_true rfl) (Nat.le_of_ble_eq_true rfl) ⟨_, rfl, h⟩
        obtain ⟨hq217, h⟩ := h
        by_cases q217 : x2 = 8
        · refine z_tableIn (tgt := 155) dX7_told_35 8 q217 (by decide) (by decide) rfl (by decide) ?_
          have h := hq217 q217
          refine z_aload_n 2 dX7_told_155 rfl ?_
          obtain ⟨q218, h⟩ := h
          refine z_getR fl_X7_59 rfl dX7_told_156 q218 ?_
          refine z_iload_n 3 dX7_told_159 rfl ?_
          obtain ⟨b219, eb219, h⟩ := h
          rw [eb219]
          obtain ⟨q220, h⟩ := h
          obtain ⟨q221, h⟩ := h
          obtain ⟨q222, h⟩ := h
          refine z_iald dX7_told_160 (n := (zK M164 b219).2) (Prod.ext q220 rfl) q221 q222 ?_
          exact z_iret hr dX7_told_161 (Nat.le_of_ble_eq_true rfl) (Nat.le_of_ble_eq_true rfl) ⟨_, rfl, h⟩
        obtain ⟨hq223, h⟩ := h
        by_cases q223 : x2 = 9
        · refine z_tableIn (tgt := 162) dX7_told_35 9 q223 (by decide) (by decide) rfl (by decide) ?_
          have h := hq223 q223
          refine z_aload_n 2 dX7_told_162 rfl ?_
          obtain ⟨q224, h⟩ := h
          refine z_getR fl_X7_62 rfl dX7_told_163 q224 ?_
          refine z_iload_n 3 dX7_told_166 rfl ?_
          obtain ⟨b225, eb225, h⟩ := h
          rw [eb225]
          obtain ⟨q226, h⟩ := h
          obtain ⟨q227, h⟩ := h
          obtain ⟨q228, h⟩ := h
          refine z_iald dX7_told_167 (n := (zK M164 b225).2) (Prod.ext q226 rfl) q227 q228 ?_
          exact z_iret hr dX7_told_168 (Nat.le_of_ble_eq_true rfl) (Nat.le_of_ble_eq_true rfl) ⟨_, rfl, h⟩
        obtain ⟨hq229, h⟩ := h
        by_cases q229 : x2 = 10
        · refine z_tableIn (tgt := 169) dX7_told_35 10 q229 (by decide) (by decide) rfl (by decide) ?_
          have h := hq229 q229
          refine z_aload_n 2 dX7_told_169 rfl ?_
          refine z_iload 0 dX7_told_170 rfl ?_
          refine z_iload_n 3 dX7_told_172 rfl ?_
          obtain ⟨q235, h⟩ := h
          obtain ⟨P230, c231, h⟩ := h
          refine z_Vi (as := [vI r165, vI x1]) mv_X7_136 dX7_told_173 c231 q235 rfl rfl (Nat.le_of_ble_eq_true rfl) (Nat.le_of_ble_eq_true rfl) (Nat.le_of_ble_eq_true rfl) (fun r233 M232 p234 => ?_)
          have h := h r233 M232 p234
          exact z_iret hr dX7_told_176 (Nat.le_of_ble_eq_true rfl) (Nat.le_of_ble_eq_true rfl) ⟨_, rfl, h⟩
        obtain ⟨hq236, h⟩ := h
        by_cases q236 : x2 = 11
        · refine z_tableIn (tgt := 177) dX7_told_35 11 q236 (by decide) (by decide) rfl (by decide) ?_
          have h := hq236 q236
          refine z_iconst dX7_told_177 (by decide) ?_
          refine z_istore dX7_told_178 (by decide) rfl ?_
          exact z_sub [3, 4, 5, 2, 1, 0] rfl h
        obtain ⟨hq237, h⟩ := h
        by_cases q237 : x2 = 12
        · refine z_tableIn (tgt := 220) dX7_told_35 12 q237 (by decide) (by decide) rfl (by decide) ?_
          have h := hq237 q237
          refine z_aload_n 2 dX7_told_220 rfl ?_
          obtain ⟨q238, h⟩ := h
          refine z_getR fl_X7_47 rfl dX7_told_221 q238 ?_
          refine z_iload_n 3 dX7_told_224 rfl ?_
          obtain ⟨b239, eb239, h⟩ := h
          rw [eb239]
          obtain ⟨q240, h⟩ := h
          obtain ⟨q241, h⟩ := h
          obtain ⟨q242, h⟩ := h
          refine z_iald dX7_told_225 (n := (zK M164 b239).2) (Prod.ext q240 rfl) q241 q242 ?_
          exact z_iret hr dX7_told_226 (Nat.le_of_ble_eq_true rfl) (Nat.le_of_ble_eq_true rfl) ⟨_, rfl, h⟩
        have ho243 := zo_0_12 x2 q168 q174 q180 q186 q192 q198 q204 q211 q217 q223 q229 q236 q237
        refine z_tableOut (tgt := 227) dX7_told_35 ho243 (by decide) ?_
        have h := h ho243
        refine z_iconst dX7_told_227 (by decide) ?_
        exact z_iret hr dX7_told_228 (Nat.le_of_ble_eq_true rfl) (Nat.le_of_ble_eq_true rfl) ⟨_, rfl, h⟩
  · have h := h.2 q7
    refine z_iconst dX7_told_8 (by decide) ?_
    exact z_iret hr dX7_told_9 (Nat.le_of_ble_eq_true rfl) (Nat.le_of_ble_eq_true rfl) ⟨_, rfl, h⟩
set_option maxRecDepth 20000 in
theorem vX7_told_180 {E : zE} {d : Nat} {X : zX} {P : Int → zM → Prop} {M : zM} (hr : (xh X).sig.returnType = (some .int)) (a0 : Nat) (x1 : Int) (x2 : Int) (x3 : Int) (x4 : Int) (x5 : Int)
    (h : zK M a0 = (8, 25) ∧ (((zI M a0 8) ≤ x5 → P x3 M) ∧ (x5 < (zI M a0 8) → zK M a0 = (8, 25) ∧ zin (40 * x1) ∧ zin ((40 * x1) + x5) ∧ ∃ b6, zR M a0 17 = some b6 ∧ (zK M b6).1 = 10 ∧ 0 ≤ ((40 * x1) + x5) ∧ ((40 * x1) + x5) < ((zK M b6).2 : Int) ∧ (((zI M b6 ((40 * x1) + x5)) = 0 → zin (x3 + 0) ∧ zin (x5 + 1) ∧ ZX7_told E d X P 180 [(0, vR (some a0)), (1, vI x1), (2, vI x2), (3, vI (x3 + 0)), (4, vI x4), (5, vI (x5 + 1))] [] M 0 0) ∧ ((zI M b6 ((40 * x1) + x5)) ≠ 0 → zin (x3 + 1) ∧ zin (x5 + 1) ∧ ZX7_told E d X P 180 [(0, vR (some a0)), (1, vI x1), (2, vI x2), (3, vI (x3 + 1)), (4, vI x4), (5, vI (x5 + 1))] [] M 0 0))))) :
    ZX7_told E d X P 180 [(0, vR (some a0)), (1, vI x1), (2, vI x2), (3, vI x3), (4, vI x4), (5, vI x5)] [] M 0 0 := by
  refine z_iload 5 dX7_told_180 rfl ?_
  refine z_aload_n 0 dX7_told_182 rfl ?_
  obtain ⟨q1, h⟩ := h
  refine z_getI fl_X7_74 dX7_told_183 q1 ?_
  refine z_icmp_ge (tgt := 218) dX7_told_186 (by decide) (fun q2 => ?_) (fun q2 => ?_)
  · have h := h.1 q2
    refine z_iload_n 3 dX7_told_218 rfl ?_
    exact z_iret hr dX7_told_219 (Nat.le_of_ble_eq_true rfl) (Nat.le_of_ble_eq_true rfl) ⟨_, rfl, h⟩
  · have h := h.2 q2
    refine z_iload_n 3 dX7_told_189 rfl ?_
    refine z_aload_n 0 dX7_told_190 rfl ?_
    obtain ⟨q3, h⟩ := h
    refine z_getR fl_X7_50 rfl dX7_told_191 q3 ?_
    refine z_bipush dX7_told_194 (by decide) ?_
    refine z_iload_n 1 dX7_told_196 rfl ?_
    obtain ⟨q4, h⟩ := h
    refine z_imul dX7_told_197 q4 ?_
    refine z_iload 5 dX7_told_198 rfl ?_
    obtain ⟨q5, h⟩ := h
    refine z_iadd dX7_told_200 q5 ?_
    obtain ⟨b6, eb6, h⟩ := h
    rw [eb6]
    obtain ⟨q7, h⟩ := h
    obtain ⟨q8, h⟩ := h
    obtain ⟨q9, h⟩ := h
    refine z_bald dX7_told_201 (n := (zK M b6).2) (Prod.ext q7 rfl) q8 q9 ?_
    refine z_if_eq (tgt := 209) dX7_told_202 (by decide) (fun q10 => ?_) (fun q10 => ?_)
    · have h := h.1 q10
      refine z_iconst dX7_told_209 (by decide) ?_
      obtain ⟨q11, h⟩ := h
      refine z_iadd dX7_told_210 q11 ?_
      refine z_istore_n dX7_told_211 (by decide) rfl ?_
      obtain ⟨q12, h⟩ := h
      refine z_iinc 5 dX7_told_212 rfl (by decide) q12 rfl ?_
      refine z_goto (tgt := 180) dX7_told_215 (by decide) ?_
      exact z_sub [2, 3, 4, 1, 5, 0] rfl h
    · have h := h.2 q10
      refine z_iconst dX7_told_205 (by decide) ?_
      refine z_goto (tgt := 210) dX7_told_206 (by decide) ?_
      obtain ⟨q13, h⟩ := h
      refine z_iadd dX7_told_210 q13 ?_
      refine z_istore_n dX7_told_211 (by decide) rfl ?_
      obtain ⟨q14, h⟩ := h
      refine z_iinc 5 dX7_told_212 rfl (by decide) q14 rfl ?_
      refine z_goto (tgt := 180) dX7_told_215 (by decide) ?_
      exact z_sub [2, 3, 4, 1, 5, 0] rfl h
theorem sX7_told {E : zE} {d : Nat} {P : Int → zM → Prop} {M : zM} (a0 : Nat) (x1 : Int) (x2 : Int) (h : ∀ X : zX, (xh X).sig.returnType = (some .int) → ZX7_told E d X P 0 [(0, vR (some a0)), (1, vI x1), (2, vI x2)] [] M 0 0) : zCi E mX7_told (d + 1) 0 0 [vR (some a0), vI x1, vI x2] M P := z_start (f := mX7_told) rfl (Nat.le_of_ble_eq_true rfl) rfl h
abbrev ZX7_load (E : zE) (d : Nat) (X : zX) (P : Int → zM → Prop) (pc : Nat) (Lc : List (Nat × zV)) (S : List zV) (M : zM) (ce sl : Nat) : Prop := zZ cX7_load RX7 "load" 5 E (zrm (d + 1) 0 0) X (zQ E (zPi P) X 0 0) pc Lc S M ce sl
set_option maxRecDepth 20000 in
theorem vX7_load_0 {E : zE} {d : Nat} {X : zX} {P : Int → zM → Prop} {M : zM} (hr : (xh X).sig.returnType = (some .int)) (a0 : Nat) (x1 : Int) (x2 : Int)
    (h : ∃ P1 : Int → zM → Prop, zCi E mX7_in d 0 0 [vI x1, vI 0, vI 399] M P1 ∧ ∀ r4 M3, P1 r4 M3 → ((r4 = 0 → P (-1) M3) ∧ (r4 ≠ 0 → ∃ P7 : Int → zM → Prop, zCi E mX7_in d 0 0 [vI x2, vI 0, vI 8] M3 P7 ∧ ∀ r10 M9, P7 r10 M9 → ((r10 ≠ 0 → ZX7_load E d X P 28 [(0, vR (some a0)), (1, vI x1), (2, vI x2), (3, vI 0), (4, vI 0)] [] M9 0 0) ∧ (r10 = 0 → P (-1) M9))))) :
    ZX7_load E d X P 0 [(0, vR (some a0)), (1, vI x1), (2, vI x2)] [] M 0 0 := by
  refine z_iload_n 1 dX7_load_0 rfl ?_
  refine z_iconst dX7_load_1 (by decide) ?_
  refine z_sipush dX7_load_2 (by decide) ?_
  obtain ⟨P1, c2, h⟩ := h
  refine z_Si (as := [vI x1, vI 0, vI 399]) ms_X7_78 dX7_load_5 c2 rfl rfl (Nat.le_of_ble_eq_true rfl) (Nat.le_of_ble_eq_true rfl) (Nat.le_of_ble_eq_true rfl) (fun r4 M3 p5 => ?_)
  have h := h r4 M3 p5
  refine z_if_eq (tgt := 21) dX7_load_8 (by decide) (fun q6 => ?_) (fun q6 => ?_)
  · have h := h.1 q6
    refine z_iconst dX7_load_21 (by decide) ?_
    exact z_iret hr dX7_load_22 (Nat.le_of_ble_eq_true rfl) (Nat.le_of_ble_eq_true rfl) ⟨_, rfl, h⟩
  · have h := h.2 q6
    refine z_iload_n 2 dX7_load_11 rfl ?_
    refine z_iconst dX7_load_12 (by decide) ?_
    refine z_bipush dX7_load_13 (by decide) ?_
    obtain ⟨P7, c8, h⟩ := h
    refine z_Si (as := [vI x2, vI 0, vI 8]) ms_X7_78 dX7_load_15 c8 rfl rfl (Nat.le_of_ble_eq_true rfl) (Nat.le_of_ble_eq_true rfl) (Nat.le_of_ble_eq_true rfl) (fun r10 M9 p11 => ?_)
    have h := h r10 M9 p11
    refine z_if_ne (tgt := 23) dX7_load_18 (by decide) (fun q12 => ?_) (fun q12 => ?_)
    · have h := h.1 q12
      refine z_iconst dX7_load_23 (by decide) ?_
      refine z_istore_n dX7_load_24 (by decide) rfl ?_
      refine z_iconst dX7_load_25 (by decide) ?_
      refine z_istore dX7_load_26 (by decide) rfl ?_
      exact z_sub [2, 3, 4, 1, 0] rfl h
    · have h := h.2 q12
      refine z_iconst dX7_load_21 (by decide) ?_
      exact z_iret hr dX7_load_22 (Nat.le_of_ble_eq_true rfl) (Nat.le_of_ble_eq_true rfl) ⟨_, rfl, h⟩
set_option maxRecDepth 20000 in
theorem vX7_load_28 {E : zE} {d : Nat} {X : zX} {P : Int → zM → Prop} {M : zM} (hr : (xh X).sig.returnType = (some .int)) (a0 : Nat) (x1 : Int) (x2 : Int) (x3 : Int) (x4 : Int)
    (h : zK M a0 = (8, 25) ∧ (((zI M a0 8) ≤ x4 → P x3 M) ∧ (x4 < (zI M a0 8) → zK M a0 = (8, 25) ∧ ∃ P3 : Int → zM → Prop, zCi E mX7_isIn d 0 0 [vR (some a0), vI x4, vI x1] M P3 ∧ ∀ r6 M5, P3 r6 M5 → ((r6 ≠ 0 → ((4 ≤ x2 → ((8 ≤ x2 → zin (x3 + 1) ∧ zin (x4 + 1) ∧ ZX7_load E d X P 28 [(0, vR (some a0)), (1, vI x1), (2, vI x2), (3, vI (x3 + 1)), (4, vI (x4 + 1))] [] M5 0 0) ∧ (x2 < 8 → zK M5 a0 = (8, 25) ∧ ∃ b15, zR M5 a0 14 = some b15 ∧ (zK M5 b15).1 = 9 ∧ 0 ≤ x4 ∧ x4 < ((zK M5 b15).2 : Int) ∧ zin (x2 - 4) ∧ (((zI M5 b15 x4) ≠ (x2 - 4) → zin (x3 + 0) ∧ zin (x4 + 1) ∧ ZX7_load E d X P 28 [(0, vR (some a0)), (1, vI x1), (2, vI x2), (3, vI (x3 + 0)), (4, vI (x4 + 1))] [] M5 0 0) ∧ ((zI M5 b15 x4) = (x2 - 4) → zin (x3 + 1) ∧ zin (x4 + 1) ∧ ZX7_load E d X P 28 [(0, vR (some a0)), (1, vI x1), (2, vI x2), (3, vI (x3 + 1)), (4, vI (x4 + 1))] [] M5 0 0))))) ∧ (x2 < 4 → zK M5 a0 = (8, 25) ∧ ∃ b26, zR M5 a0 10 = some b26 ∧ (zK M5 b26).1 = 9 ∧ 0 ≤ x4 ∧ x4 < ((zK M5 b26).2 : Int) ∧ (((zI M5 b26 x4) ≠ x2 → zin (x3 + 0) ∧ zin (x4 + 1) ∧ ZX7_load E d X P 28 [(0, vR (some a0)), (1, vI x1), (2, vI x2), (3, vI (x3 + 0)), (4, vI (x4 + 1))] [] M5 0 0) ∧ ((zI M5 b26 x4) = x2 → zK M5 a0 = (8, 25) ∧ ∃ b34, zR M5 a0 11 = some b34 ∧ (zK M5 b34).1 = 9 ∧ 0 ≤ x4 ∧ x4 < ((zK M5 b34).2 : Int) ∧ zin (x3 + (zI M5 b34 x4)) ∧ zin (x4 + 1) ∧ ZX7_load E d X P 28 [(0, vR (some a0)), (1, vI x1), (2, vI x2), (3, vI (x3 + (zI M5 b34 x4))), (4, vI (x4 + 1))] [] M5 0 0))))) ∧ (r6 = 0 → zin (x4 + 1) ∧ ZX7_load E d X P 28 [(0, vR (some a0)), (1, vI x1), (2, vI x2), (3, vI x3), (4, vI (x4 + 1))] [] M5 0 0))))) :
    ZX7_load E d X P 28 [(0, vR (some a0)), (1, vI x1), (2, vI x2), (3, vI x3), (4, vI x4)] [] M 0 0 := by
  refine z_iload 4 dX7_load_28 rfl ?_
  refine z_aload_n 0 dX7_load_30 rfl ?_
  obtain ⟨q1, h⟩ := h
  refine z_getI fl_X7_74 dX7_load_31 q1 ?_
  refine z_icmp_ge (tgt := 122) dX7_load_34 (by decide) (fun q2 => ?_) (fun q2 => ?_)
  · have h := h.1 q2
    refine z_iload_n 3 dX7_load_122 rfl ?_
    exact z_iret hr dX7_load_123 (Nat.le_of_ble_eq_true rfl) (Nat.le_of_ble_eq_true rfl) ⟨_, rfl, h⟩
  · have h := h.2 q2
    refine z_aload_n 0 dX7_load_37 rfl ?_
    refine z_iload 4 dX7_load_38 rfl ?_
    refine z_iload_n 1 dX7_load_40 rfl ?_
    obtain ⟨q8, h⟩ := h
    obtain ⟨P3, c4, h⟩ := h
    refine z_Vi (as := [vI x4, vI x1]) mv_X7_116 dX7_load_41 c4 q8 rfl rfl (Nat.le_of_ble_eq_true rfl) (Nat.le_of_ble_eq_true rfl) (Nat.le_of_ble_eq_true rfl) (fun r6 M5 p7 => ?_)
    have h := h r6 M5 p7
    refine z_if_ne (tgt := 50) dX7_load_44 (by decide) (fun q9 => ?_) (fun q9 => ?_)
    · have h := h.1 q9
      refine z_iload_n 2 dX7_load_50 rfl ?_
      refine z_iconst dX7_load_51 (by decide) ?_
      refine z_icmp_ge (tgt := 83) dX7_load_52 (by decide) (fun q10 => ?_) (fun q10 => ?_)
      · have h := h.1 q10
        refine z_iload_n 2 dX7_load_83 rfl ?_
        refine z_bipush dX7_load_84 (by decide) ?_
        refine z_icmp_ge (tgt := 113) dX7_load_86 (by decide) (fun q11 => ?_) (fun q11 => ?_)
        · have h := h.1 q11
          obtain ⟨q12, h⟩ := h
          refine z_iinc 3 dX7_load_113 rfl (by decide) q12 rfl ?_
          obtain ⟨q13, h⟩ := h
          refine z_iinc 4 dX7_load_116 rfl (by decide) q13 rfl ?_
          refine z_goto (tgt := 28) dX7_load_119 (by decide) ?_
          exact z_sub [2, 3, 4, 1, 0] rfl h
        · have h := h.2 q11
          refine z_iload_n 3 dX7_load_89 rfl ?_
          refine z_aload_n 0 dX7_load_90 rfl ?_
          obtain ⟨q14, h⟩ := h
          refine z_getR fl_X7_41 rfl dX7_load_91 q14 ?_
          refine z_iload 4 dX7_load_94 rfl ?_
          obtain ⟨b15, eb15, h⟩ := h
          rw [eb15]
          obtain ⟨q16, h⟩ := h
          obtain ⟨q17, h⟩ := h
          obtain ⟨q18, h⟩ := h
          refine z_iald dX7_load_96 (n := (zK M5 b15).2) (Prod.ext q16 rfl) q17 q18 ?_
          refine z_iload_n 2 dX7_load_97 rfl ?_
          refine z_iconst dX7_load_98 (by decide) ?_
          obtain ⟨q19, h⟩ := h
          refine z_isub dX7_load_99 q19 ?_
          refine z_icmp_ne (tgt := 107) dX7_load_100 (by decide) (fun q20 => ?_) (fun q20 => ?_)
          · have h := h.1 q20
            refine z_iconst dX7_load_107 (by decide) ?_
            obtain ⟨q21, h⟩ := h
            refine z_iadd dX7_load_108 q21 ?_
            refine z_istore_n dX7_load_109 (by decide) rfl ?_
            refine z_goto (tgt := 116) dX7_load_110 (by decide) ?_
            obtain ⟨q22, h⟩ := h
            refine z_iinc 4 dX7_load_116 rfl (by decide) q22 rfl ?_
            refine z_goto (tgt := 28) dX7_load_119 (by decide) ?_
            exact z_sub [2, 3, 4, 1, 0] rfl h
          · have h := h.2 q20
            refine z_iconst dX7_load_103 (by decide) ?_
            refine z_goto (tgt := 108) dX7_load_104 (by decide) ?_
            obtain ⟨q23, h⟩ := h
            refine z_iadd dX7_load_108 q23 ?_
            refine z_istore_n dX7_load_109 (by decide) rfl ?_
            refine z_goto (tgt := 116) dX7_load_110 (by decide) ?_
            obtain ⟨q24, h⟩ := h
            refine z_iinc 4 dX7_load_116 rfl (by decide) q24 rfl ?_
            refine z_goto (tgt := 28) dX7_load_119 (by decide) ?_
            exact z_sub [2, 3, 4, 1, 0] rfl h
      · have h := h.2 q10
        refine z_iload_n 3 dX7_load_55 rfl ?_
        refine z_aload_n 0 dX7_load_56 rfl ?_
        obtain ⟨q25, h⟩ := h
        refine z_getR fl_X7_29 rfl dX7_load_57 q25 ?_
        refine z_iload 4 dX7_load_60 rfl ?_
        obtain ⟨b26, eb26, h⟩ := h
        rw [eb26]
        obtain ⟨q27, h⟩ := h
        obtain ⟨q28, h⟩ := h
        obtain ⟨q29, h⟩ := h
        refine z_iald dX7_load_62 (n := (zK M5 b26).2) (Prod.ext q27 rfl) q28 q29 ?_
        refine z_iload_n 2 dX7_load_63 rfl ?_
        refine z_icmp_ne (tgt := 77) dX7_load_64 (by decide) (fun q30 => ?_) (fun q30 => ?_)
        · have h := h.1 q30
          refine z_iconst dX7_load_77 (by decide) ?_
          obtain ⟨q31, h⟩ := h
          refine z_iadd dX7_load_78 q31 ?_
          refine z_istore_n dX7_load_79 (by decide) rfl ?_
          refine z_goto (tgt := 116) dX7_load_80 (by decide) ?_
          obtain ⟨q32, h⟩ := h
          refine z_iinc 4 dX7_load_116 rfl (by decide) q32 rfl ?_
          refine z_goto (tgt := 28) dX7_load_119 (by decide) ?_
          exact z_sub [2, 3, 4, 1, 0] rfl h
        · have h := h.2 q30
          refine z_aload_n 0 dX7_load_67 rfl ?_
          obtain ⟨q33, h⟩ := h
          refine z_getR fl_X7_32 rfl dX7_load_68 q33 ?_
          refine z_iload 4 dX7_load_71 rfl ?_
          obtain ⟨b34, eb34, h⟩ := h
          rw [eb34]
          obtain ⟨q35, h⟩ := h
          obtain ⟨q36, h⟩ := h
          obtain ⟨q37, h⟩ := h
          refine z_iald dX7_load_73 (n := (zK M5 b34).2) (Prod.ext q35 rfl) q36 q37 ?_
          refine z_goto (tgt := 78) dX7_load_74 (by decide) ?_
          obtain ⟨q38, h⟩ := h
          refine z_iadd dX7_load_78 q38 ?_
          refine z_istore_n dX7_load_79 (by decide) rfl ?_
          refine z_goto (tgt := 116) dX7_load_80 (by decide) ?_
          obtain ⟨q39, h⟩ := h
          refine z_iinc 4 dX7_load_116 rfl (by decide) q39 rfl ?_
          refine z_goto (tgt := 28) dX7_load_119 (by decide) ?_
          exact z_sub [2, 3, 4, 1, 0] rfl h
    · have h := h.2 q9
      refine z_goto (tgt := 116) dX7_load_47 (by decide) ?_
      obtain ⟨q40, h⟩ := h
      refine z_iinc 4 dX7_load_116 rfl (by decide) q40 rfl ?_
      refine z_goto (tgt := 28) dX7_load_119 (by decide) ?_
      exact z_sub [1, 2, 3, 4, 0] rfl h
theorem sX7_load {E : zE} {d : Nat} {P : Int → zM → Prop} {M : zM} (a0 : Nat) (x1 : Int) (x2 : Int) (h : ∀ X : zX, (xh X).sig.returnType = (some .int) → ZX7_load E d X P 0 [(0, vR (some a0)), (1, vI x1), (2, vI x2)] [] M 0 0) : zCi E mX7_load (d + 1) 0 0 [vR (some a0), vI x1, vI x2] M P := z_start (f := mX7_load) rfl (Nat.le_of_ble_eq_true rfl) rfl h
