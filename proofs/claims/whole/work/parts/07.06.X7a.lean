abbrev ZX7_isReady (E : zE) (d : Nat) (X : zX) (P : Int → zM → Prop) (pc : Nat) (Lc : List (Nat × zV)) (S : List zV) (M : zM) (ce sl : Nat) : Prop := zZ cX7_isReady RX7 "isReady" 4 E (zrm (d + 1) 0 0) X (zQ E (zPi P) X 0 0) pc Lc S M ce sl
set_option maxRecDepth 20000 in
theorem vX7_isReady_0 {E : zE} {d : Nat} {X : zX} {P : Int → zM → Prop} {M : zM} (hr : (xh X).sig.returnType = (some .boolean)) (a0 : Nat) (x1 : Int)
    (h : zK M a0 = (8, 25) ∧ ∃ P1 : Int → zM → Prop, zCi E mX7_isPut d 0 0 [vR (some a0), vI x1] M P1 ∧ ∀ r4 M3, P1 r4 M3 → ((r4 ≠ 0 → ZX7_isReady E d X P 16 [(0, vR (some a0)), (1, vI x1), (2, vI 0), (3, vI 0)] [] M3 0 0) ∧ (r4 = 0 → ZX7_isReady E d X P 16 [(0, vR (some a0)), (1, vI x1), (2, vI 1), (3, vI 0)] [] M3 0 0))) :
    ZX7_isReady E d X P 0 [(0, vR (some a0)), (1, vI x1)] [] M 0 0 := by
  refine z_aload_n 0 dX7_isReady_0 rfl ?_
  refine z_iload_n 1 dX7_isReady_1 rfl ?_
  obtain ⟨q6, h⟩ := h
  obtain ⟨P1, c2, h⟩ := h
  refine z_Vi (as := [vI x1]) mv_X7_89 dX7_isReady_2 c2 q6 rfl rfl (Nat.le_of_ble_eq_true rfl) (Nat.le_of_ble_eq_true rfl) (Nat.le_of_ble_eq_true rfl) (fun r4 M3 p5 => ?_)
  have h := h r4 M3 p5
  refine z_if_ne (tgt := 12) dX7_isReady_5 (by decide) (fun q7 => ?_) (fun q7 => ?_)
  · have h := h.1 q7
    refine z_iconst dX7_isReady_12 (by decide) ?_
    refine z_istore_n dX7_isReady_13 (by decide) rfl ?_
    refine z_iconst dX7_isReady_14 (by decide) ?_
    refine z_istore_n dX7_isReady_15 (by decide) rfl ?_
    exact z_sub [2, 3, 1, 0] rfl h
  · have h := h.2 q7
    refine z_iconst dX7_isReady_8 (by decide) ?_
    refine z_goto (tgt := 13) dX7_isReady_9 (by decide) ?_
    refine z_istore_n dX7_isReady_13 (by decide) rfl ?_
    refine z_iconst dX7_isReady_14 (by decide) ?_
    refine z_istore_n dX7_isReady_15 (by decide) rfl ?_
    exact z_sub [2, 3, 1, 0] rfl h
set_option maxRecDepth 20000 in
theorem vX7_isReady_16 {E : zE} {d : Nat} {X : zX} {P : Int → zM → Prop} {M : zM} (hr : (xh X).sig.returnType = (some .boolean)) (a0 : Nat) (x1 : Int) (x2 : Int) (x3 : Int)
    (h : zK M a0 = (8, 25) ∧ (((zI M a0 8) ≤ x3 → (x2 = 0 ∨ x2 = 1) ∧ P x2 M) ∧ (x3 < (zI M a0 8) → ((x2 = 0 → (x2 = 0 ∨ x2 = 1) ∧ P x2 M) ∧ (x2 ≠ 0 → zK M a0 = (8, 25) ∧ zin (40 * x1) ∧ zin ((40 * x1) + x3) ∧ ∃ b9, zR M a0 17 = some b9 ∧ (zK M b9).1 = 10 ∧ 0 ≤ ((40 * x1) + x3) ∧ ((40 * x1) + x3) < ((zK M b9).2 : Int) ∧ (((zI M b9 ((40 * x1) + x3)) = 0 → zin (x3 + 1) ∧ ZX7_isReady E d X P 16 [(0, vR (some a0)), (1, vI x1), (2, vI 1), (3, vI (x3 + 1))] [] M 0 0) ∧ ((zI M b9 ((40 * x1) + x3)) ≠ 0 → zK M a0 = (8, 25) ∧ ∃ P15 : Int → zM → Prop, zCi E mX7_isPut d 0 0 [vR (some a0), vI x3] M P15 ∧ ∀ r18 M17, P15 r18 M17 → ((r18 = 0 → zin (x3 + 1) ∧ ZX7_isReady E d X P 16 [(0, vR (some a0)), (1, vI x1), (2, vI 0), (3, vI (x3 + 1))] [] M17 0 0) ∧ (r18 ≠ 0 → zin (x3 + 1) ∧ ZX7_isReady E d X P 16 [(0, vR (some a0)), (1, vI x1), (2, vI 1), (3, vI (x3 + 1))] [] M17 0 0))))))))) :
    ZX7_isReady E d X P 16 [(0, vR (some a0)), (1, vI x1), (2, vI x2), (3, vI x3)] [] M 0 0 := by
  refine z_iload_n 3 dX7_isReady_16 rfl ?_
  refine z_aload_n 0 dX7_isReady_17 rfl ?_
  obtain ⟨q1, h⟩ := h
  refine z_getI fl_X7_74 dX7_isReady_18 q1 ?_
  refine z_icmp_ge (tgt := 62) dX7_isReady_21 (by decide) (fun q2 => ?_) (fun q2 => ?_)
  · have h := h.1 q2
    refine z_iload_n 2 dX7_isReady_62 rfl ?_
    obtain ⟨q3, h⟩ := h
    exact z_zret hr dX7_isReady_63 (Nat.le_of_ble_eq_true rfl) (Nat.le_of_ble_eq_true rfl) q3 ⟨_, rfl, h⟩
  · have h := h.2 q2
    refine z_iload_n 2 dX7_isReady_24 rfl ?_
    refine z_if_eq (tgt := 62) dX7_isReady_25 (by decide) (fun q4 => ?_) (fun q4 => ?_)
    · have h := h.1 q4
      refine z_iload_n 2 dX7_isReady_62 rfl ?_
      obtain ⟨q5, h⟩ := h
      exact z_zret hr dX7_isReady_63 (Nat.le_of_ble_eq_true rfl) (Nat.le_of_ble_eq_true rfl) q5 ⟨_, rfl, h⟩
    · have h := h.2 q4
      refine z_aload_n 0 dX7_isReady_28 rfl ?_
      obtain ⟨q6, h⟩ := h
      refine z_getR fl_X7_50 rfl dX7_isReady_29 q6 ?_
      refine z_bipush dX7_isReady_32 (by decide) ?_
      refine z_iload_n 1 dX7_isReady_34 rfl ?_
      obtain ⟨q7, h⟩ := h
      refine z_imul dX7_isReady_35 q7 ?_
      refine z_iload_n 3 dX7_isReady_36 rfl ?_
      obtain ⟨q8, h⟩ := h
      refine z_iadd dX7_isReady_37 q8 ?_
      obtain ⟨b9, eb9, h⟩ := h
      rw [eb9]
      obtain ⟨q10, h⟩ := h
      obtain ⟨q11, h⟩ := h
      obtain ⟨q12, h⟩ := h
      refine z_bald dX7_isReady_38 (n := (zK M b9).2) (Prod.ext q10 rfl) q11 q12 ?_
      refine z_if_eq (tgt := 50) dX7_isReady_39 (by decide) (fun q13 => ?_) (fun q13 => ?_)
      · have h := h.1 q13
        refine z_iconst dX7_isReady_50 (by decide) ?_
        refine z_goto (tgt := 55) dX7_isReady_51 (by decide) ?_
        refine z_istore_n dX7_isReady_55 (by decide) rfl ?_
        obtain ⟨q14, h⟩ := h
        refine z_iinc 3 dX7_isReady_56 rfl (by decide) q14 rfl ?_
        refine z_goto (tgt := 16) dX7_isReady_59 (by decide) ?_
        exact z_sub [2, 3, 1, 0] rfl h
      · have h := h.2 q13
        refine z_aload_n 0 dX7_isReady_42 rfl ?_
        refine z_iload_n 3 dX7_isReady_43 rfl ?_
        obtain ⟨q20, h⟩ := h
        obtain ⟨P15, c16, h⟩ := h
        refine z_Vi (as := [vI x3]) mv_X7_89 dX7_isReady_44 c16 q20 rfl rfl (Nat.le_of_ble_eq_true rfl) (Nat.le_of_ble_eq_true rfl) (Nat.le_of_ble_eq_true rfl) (fun r18 M17 p19 => ?_)
        have h := h r18 M17 p19
        refine z_if_eq (tgt := 54) dX7_isReady_47 (by decide) (fun q21 => ?_) (fun q21 => ?_)
        · have h := h.1 q21
          refine z_iconst dX7_isReady_54 (by decide) ?_
          refine z_istore_n dX7_isReady_55 (by decide) rfl ?_
          obtain ⟨q22, h⟩ := h
          refine z_iinc 3 dX7_isReady_56 rfl (by decide) q22 rfl ?_
          refine z_goto (tgt := 16) dX7_isReady_59 (by decide) ?_
          exact z_sub [2, 3, 1, 0] rfl h
        · have h := h.2 q21
          refine z_iconst dX7_isReady_50 (by decide) ?_
          refine z_goto (tgt := 55) dX7_isReady_51 (by decide) ?_
          refine z_istore_n dX7_isReady_55 (by decide) rfl ?_
          obtain ⟨q23, h⟩ := h
          refine z_iinc 3 dX7_isReady_56 rfl (by decide) q23 rfl ?_
          refine z_goto (tgt := 16) dX7_isReady_59 (by decide) ?_
          exact z_sub [2, 3, 1, 0] rfl h
theorem sX7_isReady {E : zE} {d : Nat} {P : Int → zM → Prop} {M : zM} (a0 : Nat) (x1 : Int) (h : ∀ X : zX, (xh X).sig.returnType = (some .boolean) → ZX7_isReady E d X P 0 [(0, vR (some a0)), (1, vI x1)] [] M 0 0) : zCi E mX7_isReady (d + 1) 0 0 [vR (some a0), vI x1] M P := z_start (f := mX7_isReady) rfl (Nat.le_of_ble_eq_true rfl) rfl h
abbrev ZX7_plan (E : zE) (d : Nat) (X : zX) (P : Int → zM → Prop) (pc : Nat) (Lc : List (Nat × zV)) (S : List zV) (M : zM) (ce sl : Nat) : Prop := zZ cX7_plan RX7 "plan" 8 E (zrm (d + 1) 2 80) X (zQ E (zPi P) X 2 80) pc Lc S M ce sl
set_option maxRecDepth 20000 in
theorem vX7_plan_0 {E : zE} {d : Nat} {X : zX} {P : Int → zM → Prop} {M : zM} (hr : (xh X).sig.returnType = (some .int)) (a0 : Nat)
    (h : ∀ M1, M1 = znew M 10 40 → ∀ M2, M2 = znew M1 9 40 → zK M2 a0 = (8, 25) ∧ ∃ P3 : Int → zM → Prop, zCi E mX7_way d 0 0 [vR (some a0)] M2 P3 ∧ ∀ r6 M5, P3 r6 M5 → ZX7_plan E d X P 18 [(0, vR (some a0)), (1, vR (some (zsz M))), (2, vR (some (zsz M1))), (3, vI r6), (4, vI 0)] [] M5 2 80) :
    ZX7_plan E d X P 0 [(0, vR (some a0))] [] M 0 0 := by
  refine z_bipush dX7_plan_0 (by decide) ?_
  refine z_newa (at_ := .boolean) (tg := 10) (n := 40) (by simp) kw_760 dX7_plan_2 rfl (by decide) (Nat.le_of_ble_eq_true rfl) (Nat.le_of_ble_eq_true rfl) ?_
  obtain ⟨M1, hmM1⟩ : ∃ z, z = znew M 10 40 := ⟨_, rfl⟩
  rw [← hmM1]
  have h := h M1 hmM1
  refine z_astore_n dX7_plan_4 (by decide) rfl ?_
  refine z_bipush dX7_plan_5 (by decide) ?_
  refine z_newa (at_ := .int) (tg := 9) (n := 40) (by simp) kw_80 dX7_plan_7 rfl (by decide) (Nat.le_of_ble_eq_true rfl) (Nat.le_of_ble_eq_true rfl) ?_
  obtain ⟨M2, hmM2⟩ : ∃ z, z = znew M1 9 40 := ⟨_, rfl⟩
  rw [← hmM2]
  have h := h M2 hmM2
  refine z_astore_n dX7_plan_9 (by decide) rfl ?_
  refine z_aload_n 2 dX7_plan_10 rfl ?_
  obtain ⟨q8, h⟩ := h
  obtain ⟨P3, c4, h⟩ := h
  refine z_Vi (as := []) mv_X7_132 dX7_plan_11 c4 q8 rfl rfl (Nat.le_of_ble_eq_true rfl) (Nat.le_of_ble_eq_true rfl) (Nat.le_of_ble_eq_true rfl) (fun r6 M5 p7 => ?_)
  have h := h r6 M5 p7
  refine z_istore_n dX7_plan_14 (by decide) rfl ?_
  refine z_iconst dX7_plan_15 (by decide) ?_
  refine z_istore dX7_plan_16 (by decide) rfl ?_
  exact z_sub [4, 3, 2, 1, 0] rfl h
set_option maxRecDepth 20000 in
theorem vX7_plan_18 {E : zE} {d : Nat} {X : zX} {P : Int → zM → Prop} {M : zM} (hr : (xh X).sig.returnType = (some .int)) (a0 : Nat) (g1 : Option Nat) (g2 : Option Nat) (x3 : Int) (x4 : Int)
    (h : zK M a0 = (8, 25) ∧ (((zI M a0 8) ≤ x4 → ZX7_plan E d X P 50 [(0, vR (some a0)), (1, vR g1), (2, vR g2), (3, vI x3), (4, vI 0), (5, vI 1)] [] M 2 80) ∧ (x4 < (zI M a0 8) → zK M a0 = (8, 25) ∧ ∃ P3 : Int → zM → Prop, zCi E mX7_slack d 0 0 [vR (some a0), vI x3, vI x4] M P3 ∧ ∀ r6 M5, P3 r6 M5 → ∃ b9, g2 = some b9 ∧ (zK M5 b9).1 = 9 ∧ 0 ≤ x4 ∧ x4 < ((zK M5 b9).2 : Int) ∧ ∀ M13, M13 = zsI M5 b9 x4 r6 → zin (x4 + 1) ∧ ZX7_plan E d X P 18 [(0, vR (some a0)), (1, vR g1), (2, vR (some b9)), (3, vI x3), (4, vI (x4 + 1))] [] M13 2 80))) :
    ZX7_plan E d X P 18 [(0, vR (some a0)), (1, vR g1), (2, vR g2), (3, vI x3), (4, vI x4)] [] M 2 80 := by
  refine z_iload 4 dX7_plan_18 rfl ?_
  refine z_aload_n 0 dX7_plan_20 rfl ?_
  obtain ⟨q1, h⟩ := h
  refine z_getI fl_X7_74 dX7_plan_21 q1 ?_
  refine z_icmp_ge (tgt := 44) dX7_plan_24 (by decide) (fun q2 => ?_) (fun q2 => ?_)
  · have h := h.1 q2
    refine z_iconst dX7_plan_44 (by decide) ?_
    refine z_istore dX7_plan_45 (by decide) rfl ?_
    refine z_iconst dX7_plan_47 (by decide) ?_
    refine z_istore dX7_plan_48 (by decide) rfl ?_
    exact z_sub [2, 3, 4, 5, 1, 0] rfl h
  · have h := h.2 q2
    refine z_aload_n 2 dX7_plan_27 rfl ?_
    refine z_iload 4 dX7_plan_28 rfl ?_
    refine z_aload_n 0 dX7_plan_30 rfl ?_
    refine z_iload_n 3 dX7_plan_31 rfl ?_
    refine z_iload 4 dX7_plan_32 rfl ?_
    obtain ⟨q8, h⟩ := h
    obtain ⟨P3, c4, h⟩ := h
    refine z_Vi (as := [vI x3, vI x4]) mv_X7_136 dX7_plan_34 c4 q8 rfl rfl (Nat.le_of_ble_eq_true rfl) (Nat.le_of_ble_eq_true rfl) (Nat.le_of_ble_eq_true rfl) (fun r6 M5 p7 => ?_)
    have h := h r6 M5 p7
    obtain ⟨b9, eb9, h⟩ := h
    rw [eb9]
    obtain ⟨q10, h⟩ := h
    obtain ⟨q11, h⟩ := h
    obtain ⟨q12, h⟩ := h
    refine z_iast dX7_plan_37 (n := (zK M5 b9).2) (Prod.ext q10 rfl) q11 q12 ?_
    obtain ⟨M13, hmM13⟩ : ∃ z, z = zsI M5 b9 x4 r6 := ⟨_, rfl⟩
    rw [← hmM13]
    have h := h M13 hmM13
    obtain ⟨q14, h⟩ := h
    refine z_iinc 4 dX7_plan_38 rfl (by decide) q14 rfl ?_
    refine z_goto (tgt := 18) dX7_plan_41 (by decide) ?_
    exact z_sub [1, 2, 3, 4, 0] rfl h
set_option maxRecDepth 20000 in
theorem vX7_plan_50 {E : zE} {d : Nat} {X : zX} {P : Int → zM → Prop} {M : zM} (hr : (xh X).sig.returnType = (some .int)) (a0 : Nat) (g1 : Option Nat) (g2 : Option Nat) (x3 : Int) (x4 : Int) (x5 : Int)
    (h : ((x5 = 0 → P x4 M) ∧ (x5 ≠ 0 → ZX7_plan E d X P 61 [(0, vR (some a0)), (1, vR g1), (2, vR g2), (3, vI x3), (4, vI x4), (5, vI x5), (6, vI (-1)), (7, vI 0)] [] M 2 80))) :
    ZX7_plan E d X P 50 [(0, vR (some a0)), (1, vR g1), (2, vR g2), (3, vI x3), (4, vI x4), (5, vI x5)] [] M 2 80 := by
  refine z_iload 5 dX7_plan_50 rfl ?_
  refine z_if_eq (tgt := 175) dX7_plan_52 (by decide) (fun q1 => ?_) (fun q1 => ?_)
  · have h := h.1 q1
    refine z_iload 4 dX7_plan_175 rfl ?_
    exact z_iret hr dX7_plan_177 (Nat.le_of_ble_eq_true rfl) (Nat.le_of_ble_eq_true rfl) ⟨_, rfl, h⟩
  · have h := h.2 q1
    refine z_iconst dX7_plan_55 (by decide) ?_
    refine z_istore dX7_plan_56 (by decide) rfl ?_
    refine z_iconst dX7_plan_58 (by decide) ?_
    refine z_istore dX7_plan_59 (by decide) rfl ?_
    exact z_sub [2, 3, 4, 5, 6, 7, 1, 0] rfl h
set_option maxRecDepth 20000 in
theorem vX7_plan_61 {E : zE} {d : Nat} {X : zX} {P : Int → zM → Prop} {M : zM} (hr : (xh X).sig.returnType = (some .int)) (a0 : Nat) (g1 : Option Nat) (g2 : Option Nat) (x3 : Int) (x4 : Int) (x5 : Int) (x6 : Int) (x7 : Int)
    (h : zK M a0 = (8, 25) ∧ (((zI M a0 8) ≤ x7 → ((x6 = (-1) → (((0 : Int) ≠ 0 → ∃ b5, g1 = some b5 ∧ (zK M b5).1 = 10 ∧ 0 ≤ x6 ∧ x6 < ((zK M b5).2 : Int) ∧ ∀ M9, M9 = zsI M b5 x6 1 → zK M9 a0 = (8, 25) ∧ zK M9 a0 = (8, 25) ∧ ∃ P11 : Int → zM → Prop, zCi E mX7_first d 0 0 [vR (some a0), vI x6, vI (zI M9 a0 0)] M9 P11 ∧ ∀ r14 M13, P11 r14 M13 → ((r14 ≠ (-1) → zK M13 a0 = (8, 25) ∧ ∃ b19, zR M13 a0 15 = some b19 ∧ (zK M13 b19).1 = 9 ∧ 0 ≤ x6 ∧ x6 < ((zK M13 b19).2 : Int) ∧ ∀ M23, M23 = zsI M13 b19 x6 r14 → zin (x4 + 1) ∧ ZX7_plan E d X P 50 [(0, vR (some a0)), (1, vR (some b5)), (2, vR g2), (3, vI x3), (4, vI (x4 + 1)), (5, vI 0)] [] M23 2 80) ∧ (r14 = (-1) → ZX7_plan E d X P 50 [(0, vR (some a0)), (1, vR (some b5)), (2, vR g2), (3, vI x3), (4, vI x4), (5, vI 0)] [] M13 2 80))) ∧ ((0 : Int) = 0 → ZX7_plan E d X P 50 [(0, vR (some a0)), (1, vR g1), (2, vR g2), (3, vI x3), (4, vI x4), (5, vI 0)] [] M 2 80))) ∧ (x6 ≠ (-1) → (((1 : Int) ≠ 0 → ∃ b26, g1 = some b26 ∧ (zK M b26).1 = 10 ∧ 0 ≤ x6 ∧ x6 < ((zK M b26).2 : Int) ∧ ∀ M30, M30 = zsI M b26 x6 1 → zK M30 a0 = (8, 25) ∧ zK M30 a0 = (8, 25) ∧ ∃ P32 : Int → zM → Prop, zCi E mX7_first d 0 0 [vR (some a0), vI x6, vI (zI M30 a0 0)] M30 P32 ∧ ∀ r35 M34, P32 r35 M34 → ((r35 ≠ (-1) → zK M34 a0 = (8, 25) ∧ ∃ b40, zR M34 a0 15 = some b40 ∧ (zK M34 b40).1 = 9 ∧ 0 ≤ x6 ∧ x6 < ((zK M34 b40).2 : Int) ∧ ∀ M44, M44 = zsI M34 b40 x6 r35 → zin (x4 + 1) ∧ ZX7_plan E d X P 50 [(0, vR (some a0)), (1, vR (some b26)), (2, vR g2), (3, vI x3), (4, vI (x4 + 1)), (5, vI 1)] [] M44 2 80) ∧ (r35 = (-1) → ZX7_plan E d X P 50 [(0, vR (some a0)), (1, vR (some b26)), (2, vR g2), (3, vI x3), (4, vI x4), (5, vI 1)] [] M34 2 80))) ∧ ((1 : Int) = 0 → ZX7_plan E d X P 50 [(0, vR (some a0)), (1, vR g1), (2, vR g2), (3, vI x3), (4, vI x4), (5, vI 1)] [] M 2 80))))) ∧ (x7 < (zI M a0 8) → ∃ b46, g1 = some b46 ∧ (zK M b46).1 = 10 ∧ 0 ≤ x7 ∧ x7 < ((zK M b46).2 : Int) ∧ (((zI M b46 x7) ≠ 0 → zin (x7 + 1) ∧ ZX7_plan E d X P 61 [(0, vR (some a0)), (1, vR (some b46)), (2, vR g2), (3, vI x3), (4, vI x4), (5, vI x5), (6, vI x6), (7, vI (x7 + 1))] [] M 2 80) ∧ ((zI M b46 x7) = 0 → zK M a0 = (8, 25) ∧ ∃ P52 : Int → zM → Prop, zCi E mX7_isReady d 0 0 [vR (some a0), vI x7] M P52 ∧ ∀ r55 M54, P52 r55 M54 → ((r55 = 0 → zin (x7 + 1) ∧ ZX7_plan E d X P 61 [(0, vR (some a0)), (1, vR (some b46)), (2, vR g2), (3, vI x3), (4, vI x4), (5, vI x5), (6, vI x6), (7, vI (x7 + 1))] [] M54 2 80) ∧ (r55 ≠ 0 → ((x6 = (-1) → zin (x7 + 1) ∧ ZX7_plan E d X P 61 [(0, vR (some a0)), (1, vR (some b46)), (2, vR g2), (3, vI x3), (4, vI x4), (5, vI x5), (6, vI x7), (7, vI (x7 + 1))] [] M54 2 80) ∧ (x6 ≠ (-1) → ∃ b62, g2 = some b62 ∧ (zK M54 b62).1 = 9 ∧ 0 ≤ x7 ∧ x7 < ((zK M54 b62).2 : Int) ∧ (zK M54 b62).1 = 9 ∧ 0 ≤ x6 ∧ x6 < ((zK M54 b62).2 : Int) ∧ (((zI M54 b62 x6) ≤ (zI M54 b62 x7) → zin (x7 + 1) ∧ ZX7_plan E d X P 61 [(0, vR (some a0)), (1, vR (some b46)), (2, vR (some b62)), (3, vI x3), (4, vI x4), (5, vI x5), (6, vI x6), (7, vI (x7 + 1))] [] M54 2 80) ∧ ((zI M54 b62 x7) < (zI M54 b62 x6) → zin (x7 + 1) ∧ ZX7_plan E d X P 61 [(0, vR (some a0)), (1, vR (some b46)), (2, vR (some b62)), (3, vI x3), (4, vI x4), (5, vI x5), (6, vI x7), (7, vI (x7 + 1))] [] M54 2 80))))))))))) :
    ZX7_plan E d X P 61 [(0, vR (some a0)), (1, vR g1), (2, vR g2), (3, vI x3), (4, vI x4), (5, vI x5), (6, vI x6), (7, vI x7)] [] M 2 80 := by
  refine z_iload 7 dX7_plan_61 rfl ?_
  refine z_aload_n 0 dX7_plan_63 rfl ?_
  obtain ⟨q1, h⟩ := h
  refine z_getI fl_X7_74 dX7_plan_64 q1 ?_
  refine z_icmp_ge (tgt := 113) dX7_plan_67 (by decide) (fun q2 => ?_) (fun q2 => ?_)
  · have h := h.1 q2
    refine z_iload 6 dX7_plan_113 rfl ?_
    refine z_iconst dX7_plan_115 (by decide) ?_
    refine z_icmp_eq (tgt := 123) dX7_plan_116 (by decide) (fun q3 => ?_) (fun q3 => ?_)
    · have h := h.1 q3
      refine z_iconst dX7_plan_123 (by decide) ?_
      refine z_istore dX7_plan_124 (by decide) rfl ?_
      refine z_iload 0 dX7_plan_126 rfl ?_
      refine z_if_ne (tgt := 134) dX7_plan_128 (by decide) (fun q4 => ?_) (fun q4 => ?_)
      · have h := h.1 q4
        refine z_aload_n 2 dX7_plan_134 rfl ?_
        refine z_iload 6 dX7_plan_135 rfl ?_
        refine z_iconst dX7_plan_137 (by decide) ?_
        obtain ⟨b5, eb5, h⟩ := h
        rw [eb5]
        obtain ⟨q6, h⟩ := h
        obtain ⟨q7, h⟩ := h
        obtain ⟨q8, h⟩ := h
        refine z_bast dX7_plan_138 (n := (zK M b5).2) (Prod.ext q6 rfl) q7 q8 (by decide) ?_
        obtain ⟨M9, hmM9⟩ : ∃ z, z = zsI M b5 x6 1 := ⟨_, rfl⟩
        rw [← hmM9]
        have h := h M9 hmM9
        refine z_aload_n 1 dX7_plan_139 rfl ?_
        refine z_iload 6 dX7_plan_140 rfl ?_
        refine z_aload_n 1 dX7_plan_142 rfl ?_
        obtain ⟨q10, h⟩ := h
        refine z_getI fl_X7_93 dX7_plan_143 q10 ?_
        obtain ⟨q16, h⟩ := h
        obtain ⟨P11, c12, h⟩ := h
        refine z_Vi (as := [vI x6, vI (zI M9 a0 0)]) mv_X7_142 dX7_plan_146 c12 q16 rfl rfl (Nat.le_of_ble_eq_true rfl) (Nat.le_of_ble_eq_true rfl) (Nat.le_of_ble_eq_true rfl) (fun r14 M13 p15 => ?_)
        have h := h r14 M13 p15
        refine z_istore dX7_plan_149 (by decide) rfl ?_
        refine z_iload 0 dX7_plan_151 rfl ?_
        refine z_iconst dX7_plan_153 (by decide) ?_
        refine z_icmp_ne (tgt := 160) dX7_plan_154 (by decide) (fun q17 => ?_) (fun q17 => ?_)
        · have h := h.1 q17
          refine z_aload_n 2 dX7_plan_160 rfl ?_
          obtain ⟨q18, h⟩ := h
          refine z_getR fl_X7_44 rfl dX7_plan_161 q18 ?_
          refine z_iload 7 dX7_plan_164 rfl ?_
          refine z_iload 0 dX7_plan_166 rfl ?_
          obtain ⟨b19, eb19, h⟩ := h
          rw [eb19]
          obtain ⟨q20, h⟩ := h
          obtain ⟨q21, h⟩ := h
          obtain ⟨q22, h⟩ := h
          refine z_iast dX7_plan_168 (n := (zK M13 b19).2) (Prod.ext q20 rfl) q21 q22 ?_
          obtain ⟨M23, hmM23⟩ : ∃ z, z = zsI M13 b19 x6 r14 := ⟨_, rfl⟩
          rw [← hmM23]
          have h := h M23 hmM23
          obtain ⟨q24, h⟩ := h
          refine z_iinc 6 dX7_plan_169 rfl (by decide) q24 rfl ?_
          refine z_goto (tgt := 50) dX7_plan_172 (by decide) ?_
          exact z_sub [3, 4, 5, 6, 0, 2] rfl h
        · have h := h.2 q17
          refine z_goto (tgt := 50) dX7_plan_157 (by decide) ?_
          exact z_sub [2, 3, 4, 5, 6, 1] rfl h
      · have h := h.2 q4
        refine z_goto (tgt := 50) dX7_plan_131 (by decide) ?_
        exact z_sub [1, 2, 3, 4, 5, 0] rfl h
    · have h := h.2 q3
      refine z_iconst dX7_plan_119 (by decide) ?_
      refine z_goto (tgt := 124) dX7_plan_120 (by decide) ?_
      refine z_istore dX7_plan_124 (by decide) rfl ?_
      refine z_iload 0 dX7_plan_126 rfl ?_
      refine z_if_ne (tgt := 134) dX7_plan_128 (by decide) (fun q25 => ?_) (fun q25 => ?_)
      · have h := h.1 q25
        refine z_aload_n 2 dX7_plan_134 rfl ?_
        refine z_iload 6 dX7_plan_135 rfl ?_
        refine z_iconst dX7_plan_137 (by decide) ?_
        obtain ⟨b26, eb26, h⟩ := h
        rw [eb26]
        obtain ⟨q27, h⟩ := h
        obtain ⟨q28, h⟩ := h
        obtain ⟨q29, h⟩ := h
        refine z_bast dX7_plan_138 (n := (zK M b26).2) (Prod.ext q27 rfl) q28 q29 (by decide) ?_
        obtain ⟨M30, hmM30⟩ : ∃ z, z = zsI M b26 x6 1 := ⟨_, rfl⟩
        rw [← hmM30]
        have h := h M30 hmM30
        refine z_aload_n 1 dX7_plan_139 rfl ?_
        refine z_iload 6 dX7_plan_140 rfl ?_
        refine z_aload_n 1 dX7_plan_142 rfl ?_
        obtain ⟨q31, h⟩ := h
        refine z_getI fl_X7_93 dX7_plan_143 q31 ?_
        obtain ⟨q37, h⟩ := h
        obtain ⟨P32, c33, h⟩ := h
        refine z_Vi (as := [vI x6, vI (zI M30 a0 0)]) mv_X7_142 dX7_plan_146 c33 q37 rfl rfl (Nat.le_of_ble_eq_true rfl) (Nat.le_of_ble_eq_true rfl) (Nat.le_of_ble_eq_true rfl) (fun r35 M34 p36 => ?_)
        have h := h r35 M34 p36
        refine z_istore dX7_plan_149 (by decide) rfl ?_
        refine z_iload 0 dX7_plan_151 rfl ?_
        refine z_iconst dX7_plan_153 (by decide) ?_
        refine z_icmp_ne (tgt := 160) dX7_plan_154 (by decide) (fun q38 => ?_) (fun q38 => ?_)
        · have h := h.1 q38
          refine z_aload_n 2 dX7_plan_160 rfl ?_
          obtain ⟨q39, h⟩ := h
          refine z_getR fl_X7_44 rfl dX7_plan_161 q39 ?_
          refine z_iload 7 dX7_plan_164 rfl ?_
          refine z_iload 0 dX7_plan_166 rfl ?_
          obtain ⟨b40, eb40, h⟩ := h
          rw [eb40]
          obtain ⟨q41, h⟩ := h
          obtain ⟨q42, h⟩ := h
          obtain ⟨q43, h⟩ := h
          refine z_iast dX7_plan_168 (n := (zK M34 b40).2) (Prod.ext q41 rfl) q42 q43 ?_
          obtain ⟨M44, hmM44⟩ : ∃ z, z = zsI M34 b40 x6 r35 := ⟨_, rfl⟩
          rw [← hmM44]
          have h := h M44 hmM44
          obtain ⟨q45, h⟩ := h
          refine z_iinc 6 dX7_plan_169 rfl (by decide) q45 rfl ?_
          refine z_goto (tgt := 50) dX7_plan_172 (by decide) ?_
          exact z_sub [3, 4, 5, 6, 0, 2] rfl h
        · have h := h.2 q38
          refine z_goto (tgt := 50) dX7_plan_157 (by decide) ?_
          exact z_sub [2, 3, 4, 5, 6, 1] rfl h
      · have h := h.2 q25
        refine z_goto (tgt := 50) dX7_plan_131 (by decide) ?_
        exact z_sub [1, 2, 3, 4, 5, 0] rfl h
  · have h := h.2 q2
    refine z_aload_n 1 dX7_plan_70 rfl ?_
    refine z_iload 7 dX7_plan_71 rfl ?_
    obtain ⟨b46, eb46, h⟩ := h
    rw [eb46]
    obtain ⟨q47, h⟩ := h
    obtain ⟨q48, h⟩ := h
    obtain ⟨q49, h⟩ := h
    refine z_bald dX7_plan_73 (n := (zK M b46).2) (Prod.ext q47 rfl) q48 q49 ?_
    refine z_if_ne (tgt := 107) dX7_plan_74 (by decide) (fun q50 => ?_) (fun q50 => ?_)
    · have h := h.1 q50
      obtain ⟨q51, h⟩ := h
      refine z_iinc 7 dX7_plan_107 rfl (by decide) q51 rfl ?_
      refine z_goto (tgt := 61) dX7_plan_110 (by decide) ?_
      exact z_sub [1, 2, 3, 4, 5, 6, 7, 0] rfl h
    · have h := h.2 q50
      refine z_aload_n 0 dX7_plan_77 rfl ?_
      refine z_iload 7 dX7_plan_78 rfl ?_
      obtain ⟨q57, h⟩ := h
      obtain ⟨P52, c53, h⟩ := h
      refine z_Vi (as := [vI x7]) mv_X7_139 dX7_plan_80 c53 q57 rfl rfl (Nat.le_of_ble_eq_true rfl) (Nat.le_of_ble_eq_true rfl) (Nat.le_of_ble_eq_true rfl) (fun r55 M54 p56 => ?_)
      have h := h r55 M54 p56
      refine z_if_eq (tgt := 107) dX7_plan_83 (by decide) (fun q58 => ?_) (fun q58 => ?_)
      · have h := h.1 q58
        obtain ⟨q59, h⟩ := h
        refine z_iinc 7 dX7_plan_107 rfl (by decide) q59 rfl ?_
        refine z_goto (tgt := 61) dX7_plan_110 (by decide) ?_
        exact z_sub [1, 2, 3, 4, 5, 6, 7, 0] rfl h
      · have h := h.2 q58
        refine z_iload 6 dX7_plan_86 rfl ?_
        refine z_iconst dX7_plan_88 (by decide) ?_
        refine z_icmp_eq (tgt := 103) dX7_plan_89 (by decide) (fun q60 => ?_) (fun q60 => ?_)
        · have h := h.1 q60
          refine z_iload 7 dX7_plan_103 rfl ?_
          refine z_istore dX7_plan_105 (by decide) rfl ?_
          obtain ⟨q61, h⟩ := h
          refine z_iinc 7 dX7_plan_107 rfl (by decide) q61 rfl ?_
          refine z_goto (tgt := 61) dX7_plan_110 (by decide) ?_
          exact z_sub [2, 3, 4, 5, 6, 7, 1, 0] rfl h
        · have h := h.2 q60
          refine z_aload_n 2 dX7_plan_92 rfl ?_
          refine z_iload 7 dX7_plan_93 rfl ?_
          obtain ⟨b62, eb62, h⟩ := h
          rw [eb62]
          obtain ⟨q63, h⟩ := h
          obtain ⟨q64, h⟩ := h
          obtain ⟨q65, h⟩ := h
          refine z_iald dX7_plan_95 (n := (zK M54 b62).2) (Prod.ext q63 rfl) q64 q65 ?_
          refine z_aload_n 2 dX7_plan_96 rfl ?_
          refine z_iload 6 dX7_plan_97 rfl ?_
          obtain ⟨q66, h⟩ := h
          obtain ⟨q67, h⟩ := h
          obtain ⟨q68, h⟩ := h
          refine z_iald dX7_plan_99 (n := (zK M54 b62).2) (Prod.ext q66 rfl) q67 q68 ?_
          refine z_icmp_ge (tgt := 107) dX7_plan_100 (by decide) (fun q69 => ?_) (fun q69 => ?_)
          · have h := h.1 q69
            obtain ⟨q70, h⟩ := h
            refine z_iinc 7 dX7_plan_107 rfl (by decide) q70 rfl ?_
            refine z_goto (tgt := 61) dX7_plan_110 (by decide) ?_
            exact z_sub [1, 2, 3, 4, 5, 6, 7, 0] rfl h
          · have h := h.2 q69
            refine z_iload 7 dX7_plan_103 rfl ?_
            refine z_istore dX7_plan_105 (by decide) rfl ?_
            obtain ⟨q71, h⟩ := h
            refine z_iinc 7 dX7_plan_107 rfl (by decide) q71 rfl ?_
            refine z_goto (tgt := 61) dX7_plan_110 (by decide) ?_
            exact z_sub [2, 3, 4, 5, 6, 7, 1, 0] rfl h
theorem sX7_plan {E : zE} {d : Nat} {P : Int → zM → Prop} {M : zM} (a0 : Nat) (h : ∀ X : zX, (xh X).sig.returnType = (some .int) → ZX7_plan E d X P 0 [(0, vR (some a0))] [] M 0 0) : zCi E mX7_plan (d + 1) 2 80 [vR (some a0)] M P := z_start (f := mX7_plan) rfl (Nat.le_of_ble_eq_true rfl) rfl h
abbrev ZX7_end (E : zE) (d : Nat) (X : zX) (P : Int → zM → Prop) (pc : Nat) (Lc : List (Nat × zV)) (S : List zV) (M : zM) (ce sl : Nat) : Prop := zZ cX7_end RX7 "end" 3 E (zrm (d + 1) 0 0) X (zQ E (zPi P) X 0 0) pc Lc S M ce sl
set_option maxRecDepth 20000 in
theorem vX7_end_0 {E : zE} {d : Nat} {X : zX} {P : Int → zM → Prop} {M : zM} (hr : (xh X).sig.returnType = (some .int)) (a0 : Nat)
    (h : ZX7_end E d X P 4 [(0, vR (some a0)), (1, vI 0), (2, vI 0)] [] M 0 0) :
    ZX7_end E d X P 0 [(0, vR (some a0))] [] M 0 0 := by
  refine z_iconst dX7_end_0 (by decide) ?_
  refine z_istore_n dX7_end_1 (by decide) rfl ?_
  refine z_iconst dX7_end_2 (by decide) ?_
  refine z_istore_n dX7_end_3 (by decide) rfl ?_
  exact z_sub [2, 1, 0] rfl h
set_option maxRecDepth 20000 in
theorem vX7_end_4 {E : zE} {d : Nat} {X : zX} {P : Int → zM → Prop} {M : zM} (hr : (xh X).sig.returnType = (some .int)) (a0 : Nat) (x1 : Int) (x2 : Int)
    (h : zK M a0 = (8, 25) ∧ (((zI M a0 8) ≤ x2 → P x1 M) ∧ (x2 < (zI M a0 8) → zK M a0 = (8, 25) ∧ ∃ P3 : Int → zM → Prop, zCi E mX7_isPut d 0 0 [vR (some a0), vI x2] M P3 ∧ ∀ r6 M5, P3 r6 M5 → ((r6 = 0 → zin (x2 + 1) ∧ ZX7_end E d X P 4 [(0, vR (some a0)), (1, vI x1), (2, vI (x2 + 1))] [] M5 0 0) ∧ (r6 ≠ 0 → zK M5 a0 = (8, 25) ∧ ∃ P11 : Int → zM → Prop, zCi E mX7_endOf d 0 0 [vR (some a0), vI x2] M5 P11 ∧ ∀ r14 M13, P11 r14 M13 → ((r14 ≤ x1 → zin (x2 + 1) ∧ ZX7_end E d X P 4 [(0, vR (some a0)), (1, vI x1), (2, vI (x2 + 1))] [] M13 0 0) ∧ (x1 < r14 → zK M13 a0 = (8, 25) ∧ ∃ P19 : Int → zM → Prop, zCi E mX7_endOf d 0 0 [vR (some a0), vI x2] M13 P19 ∧ ∀ r22 M21, P19 r22 M21 → zin (x2 + 1) ∧ ZX7_end E d X P 4 [(0, vR (some a0)), (1, vI r22), (2, vI (x2 + 1))] [] M21 0 0))))))) :
    ZX7_end E d X P 4 [(0, vR (some a0)), (1, vI x1), (2, vI x2)] [] M 0 0 := by
  refine z_iload_n 2 dX7_end_4 rfl ?_
  refine z_aload_n 0 dX7_end_5 rfl ?_
  obtain ⟨q1, h⟩ := h
  refine z_getI fl_X7_74 dX7_end_6 q1 ?_
  refine z_icmp_ge (tgt := 41) dX7_end_9 (by decide) (fun q2 => ?_) (fun q2 => ?_)
  · have h := h.1 q2
    refine z_iload_n 1 dX7_end_41 rfl ?_
    exact z_iret hr dX7_end_42 (Nat.le_of_ble_eq_true rfl) (Nat.le_of_ble_eq_true rfl) ⟨_, rfl, h⟩
  · have h := h.2 q2
    refine z_aload_n 0 dX7_end_12 rfl ?_
    refine z_iload_n 2 dX7_end_13 rfl ?_
    obtain ⟨q8, h⟩ := h
    obtain ⟨P3, c4, h⟩ := h
    refine z_Vi (as := [vI x2]) mv_X7_89 dX7_end_14 c4 q8 rfl rfl (Nat.le_of_ble_eq_true rfl) (Nat.le_of_ble_eq_true rfl) (Nat.le_of_ble_eq_true rfl) (fun r6 M5 p7 => ?_)
    have h := h r6 M5 p7
    refine z_if_eq (tgt := 35) dX7_end_17 (by decide) (fun q9 => ?_) (fun q9 => ?_)
    · have h := h.1 q9
      obtain ⟨q10, h⟩ := h
      refine z_iinc 2 dX7_end_35 rfl (by decide) q10 rfl ?_
      refine z_goto (tgt := 4) dX7_end_38 (by decide) ?_
      exact z_sub [1, 2, 0] rfl h
    · have h := h.2 q9
      refine z_aload_n 0 dX7_end_20 rfl ?_
      refine z_iload_n 2 dX7_end_21 rfl ?_
      obtain ⟨q16, h⟩ := h
      obtain ⟨P11, c12, h⟩ := h
      refine z_Vi (as := [vI x2]) mv_X7_96 dX7_end_22 c12 q16 rfl rfl (Nat.le_of_ble_eq_true rfl) (Nat.le_of_ble_eq_true rfl) (Nat.le_of_ble_eq_true rfl) (fun r14 M13 p15 => ?_)
      have h := h r14 M13 p15
      refine z_iload_n 1 dX7_end_25 rfl ?_
      refine z_icmp_le (tgt := 35) dX7_end_26 (by decide) (fun q17 => ?_) (fun q17 => ?_)
      · have h := h.1 q17
        obtain ⟨q18, h⟩ := h
        refine z_iinc 2 dX7_end_35 rfl (by decide) q18 rfl ?_
        refine z_goto (tgt := 4) dX7_end_38 (by decide) ?_
        exact z_sub [1, 2, 0] rfl h
      · have h := h.2 q17
        refine z_aload_n 0 dX7_end_29 rfl ?_
        refine z_iload_n 2 dX7_end_30 rfl ?_
        obtain ⟨q24, h⟩ := h
        obtain ⟨P19, c20, h⟩ := h
        refine z_Vi (as := [vI x2]) mv_X7_96 dX7_end_31 c20 q24 rfl rfl (Nat.le_of_ble_eq_true rfl) (Nat.le_of_ble_eq_true rfl) (Nat.le_of_ble_eq_true rfl) (fun r22 M21 p23 => ?_)
        have h := h r22 M21 p23
        refine z_istore_n dX7_end_34 (by decide) rfl ?_
        obtain ⟨q25, h⟩ := h
        refine z_iinc 2 dX7_end_35 rfl (by decide) q25 rfl ?_
        refine z_goto (tgt := 4) dX7_end_38 (by decide) ?_
        exact z_sub [2, 1, 0] rfl h
theorem sX7_end {E : zE} {d : Nat} {P : Int → zM → Prop} {M : zM} (a0 : Nat) (h : ∀ X : zX, (xh X).sig.returnType = (some .int) → ZX7_end E d X P 0 [(0, vR (some a0))] [] M 0 0) : zCi E mX7_end (d + 1) 0 0 [vR (some a0)] M P := z_start (f := mX7_end) rfl (Nat.le_of_ble_eq_true rfl) rfl h
