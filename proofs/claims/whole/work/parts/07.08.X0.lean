abbrev ZX0_init (E : zE) (d : Nat) (X : zX) (P : zM → Prop) (pc : Nat) (Lc : List (Nat × zV)) (S : List zV) (M : zM) (ce sl : Nat) : Prop := zZ cX0_init RX0 "<init>" 1 E (zrm (d + 1) 6 2004) X (zQ E (zPv P) X 6 2004) pc Lc S M ce sl
set_option maxRecDepth 20000 in
theorem vX0_init_0 {E : zE} {d : Nat} {X : zX} {P : zM → Prop} {M : zM} (hr : (xh X).sig.returnType = none) (a0 : Nat)
    (h : ∀ M1, M1 = znew M 11 400 → zK M1 a0 = (1, 3) ∧ ∀ M3, M3 = zsR M1 a0 0 (some (zsz M)) → ∀ M4, M4 = zmulti M3 → zK M4 a0 = (1, 3) ∧ ∀ M6, M6 = zsR M4 a0 1 (some (zsz M3)) → P M6) :
    ZX0_init E d X P 0 [(0, vR (some a0))] [] M 0 0 := by
  refine z_aload_n 0 dX0_init_0 rfl ?_
  refine z_objInit oi_X0_3 dX0_init_1 (Nat.le_of_ble_eq_true rfl) zr3 zr5 ?_
  refine z_aload_n 0 dX0_init_4 rfl ?_
  refine z_sipush dX0_init_5 (by decide) ?_
  refine z_newa (at_ := .long) (tg := 11) (n := 400) (by simp) kw_118 dX0_init_8 rfl (by decide) (Nat.le_of_ble_eq_true rfl) (Nat.le_of_ble_eq_true rfl) ?_
  obtain ⟨M1, hmM1⟩ : ∃ z, z = znew M 11 400 := ⟨_, rfl⟩
  rw [← hmM1]
  have h := h M1 hmM1
  obtain ⟨q2, h⟩ := h
  refine z_putR fl_X0_9 rfl (Or.inr ⟨rfl, rfl⟩) dX0_init_10 q2 ?_
  obtain ⟨M3, hmM3⟩ : ∃ z, z = zsR M1 a0 0 (some (zsz M)) := ⟨_, rfl⟩
  rw [← hmM3]
  have h := h M3 hmM3
  refine z_aload_n 0 dX0_init_13 rfl ?_
  refine z_iconst dX0_init_14 (by decide) ?_
  refine z_sipush dX0_init_15 (by decide) ?_
  refine z_multi kw_125 kw_80 dX0_init_18 (Nat.le_of_ble_eq_true rfl) (Nat.le_of_ble_eq_true rfl) ?_
  obtain ⟨M4, hmM4⟩ : ∃ z, z = zmulti M3 := ⟨_, rfl⟩
  rw [← hmM4]
  have h := h M4 hmM4
  obtain ⟨q5, h⟩ := h
  refine z_putR fl_X0_17 rfl (Or.inr ⟨rfl, rfl⟩) dX0_init_22 q5 ?_
  obtain ⟨M6, hmM6⟩ : ∃ z, z = zsR M4 a0 1 (some (zsz M3)) := ⟨_, rfl⟩
  rw [← hmM6]
  have h := h M6 hmM6
  exact z_vret hr dX0_init_25 (Nat.le_of_ble_eq_true rfl) (Nat.le_of_ble_eq_true rfl) ⟨rfl, h⟩
theorem sX0_init {E : zE} {d : Nat} {P : zM → Prop} {M : zM} (a0 : Nat) (h : ∀ X : zX, (xh X).sig.returnType = none → ZX0_init E d X P 0 [(0, vR (some a0))] [] M 0 0) : zCv E mX0_init (d + 1) 6 2004 [vR (some a0)] M P := z_start (f := mX0_init) rfl (Nat.le_of_ble_eq_true rfl) rfl h
abbrev ZX0_lay (E : zE) (d : Nat) (X : zX) (P : zM → Prop) (pc : Nat) (Lc : List (Nat × zV)) (S : List zV) (M : zM) (ce sl : Nat) : Prop := zZ cX0_lay RX0 "lay" 5 E (zrm (d + 1) 0 0) X (zQ E (zPv P) X 0 0) pc Lc S M ce sl
set_option maxRecDepth 20000 in
theorem vX0_lay_0 {E : zE} {d : Nat} {X : zX} {P : zM → Prop} {M : zM} (hr : (xh X).sig.returnType = none) (a0 : Nat) (a1 : Nat) (x2 : Int)
    (h : zK M a1 = (6, 16) ∧ ∀ M2, M2 = zsI M a1 8 x2 → zK M2 a0 = (1, 3) ∧ zK M2 a1 = (6, 16) ∧ ∃ b5, zR M2 a0 1 = some b5 ∧ ((zK M2 b5).1 = 12 ∨ (zK M2 b5).1 = 13) ∧ 0 ≤ (zI M2 a1 2) ∧ (zI M2 a1 2) < ((zK M2 b5).2 : Int) ∧ ZX0_lay E d X P 18 [(0, vR (some a0)), (1, vR (some a1)), (2, vI x2), (3, vR (zR M2 b5 (zI M2 a1 2))), (4, vI x2)] [] M2 0 0) :
    ZX0_lay E d X P 0 [(0, vR (some a0)), (1, vR (some a1)), (2, vI x2)] [] M 0 0 := by
  refine z_aload_n 1 dX0_lay_0 rfl ?_
  refine z_iload_n 2 dX0_lay_1 rfl ?_
  obtain ⟨q1, h⟩ := h
  refine z_putI fl_X0_20 (Or.inl rfl) dX0_lay_2 q1 ?_
  obtain ⟨M2, hmM2⟩ : ∃ z, z = zsI M a1 8 x2 := ⟨_, rfl⟩
  rw [← hmM2]
  have h := h M2 hmM2
  refine z_aload_n 0 dX0_lay_5 rfl ?_
  obtain ⟨q3, h⟩ := h
  refine z_getR fl_X0_17 rfl dX0_lay_6 q3 ?_
  refine z_aload_n 1 dX0_lay_9 rfl ?_
  obtain ⟨q4, h⟩ := h
  refine z_getI fl_X0_26 dX0_lay_10 q4 ?_
  obtain ⟨b5, eb5, h⟩ := h
  rw [eb5]
  obtain ⟨q6, h⟩ := h
  obtain ⟨q7, h⟩ := h
  obtain ⟨q8, h⟩ := h
  refine z_aald dX0_lay_13 (n := (zK M2 b5).2) rfl q6 q7 q8 ?_
  refine z_astore_n dX0_lay_14 (by decide) rfl ?_
  refine z_iload_n 3 dX0_lay_15 rfl ?_
  refine z_istore dX0_lay_16 (by decide) rfl ?_
  exact z_sub [2, 3, 4, 1, 0] rfl h
set_option maxRecDepth 20000 in
theorem vX0_lay_18 {E : zE} {d : Nat} {X : zX} {P : zM → Prop} {M : zM} (hr : (xh X).sig.returnType = none) (a0 : Nat) (a1 : Nat) (x2 : Int) (g3 : Option Nat) (x4 : Int)
    (h : zK M a1 = (6, 16) ∧ ∃ P1 : Int → zM → Prop, zCi E mX5_behind d 0 0 [vR (some a1)] M P1 ∧ ∀ r4 M3, P1 r4 M3 → ((r4 ≤ x4 → P M3) ∧ (x4 < r4 → zK M3 a0 = (1, 3) ∧ ∃ b9, zR M3 a0 0 = some b9 ∧ (zK M3 b9).1 = 11 ∧ 0 ≤ x4 ∧ x4 < ((zK M3 b9).2 : Int) ∧ zK M3 a1 = (6, 16) ∧ (zK M3 b9).1 = 11 ∧ 0 ≤ x4 ∧ x4 < ((zK M3 b9).2 : Int) ∧ ∀ M17, M17 = zsL M3 b9 x4 ((zL M3 b9 x4) ||| (zL M3 a1 1)) → ∃ b18, g3 = some b18 ∧ (zK M17 b18).1 = 9 ∧ 0 ≤ x4 ∧ x4 < ((zK M17 b18).2 : Int) ∧ zK M17 a1 = (6, 16) ∧ zin ((zI M17 b18 x4) + (zI M17 a1 3)) ∧ (zK M17 b18).1 = 9 ∧ 0 ≤ x4 ∧ x4 < ((zK M17 b18).2 : Int) ∧ ∀ M27, M27 = zsI M17 b18 x4 ((zI M17 b18 x4) + (zI M17 a1 3)) → zin (x4 + 1) ∧ ZX0_lay E d X P 18 [(0, vR (some a0)), (1, vR (some a1)), (2, vI x2), (3, vR (some b18)), (4, vI (x4 + 1))] [] M27 0 0))) :
    ZX0_lay E d X P 18 [(0, vR (some a0)), (1, vR (some a1)), (2, vI x2), (3, vR g3), (4, vI x4)] [] M 0 0 := by
  refine z_iload 4 dX0_lay_18 rfl ?_
  refine z_aload_n 1 dX0_lay_20 rfl ?_
  obtain ⟨q6, h⟩ := h
  obtain ⟨P1, c2, h⟩ := h
  refine z_Vi (as := []) mv_X0_29 dX0_lay_21 c2 q6 rfl rfl (Nat.le_of_ble_eq_true rfl) (Nat.le_of_ble_eq_true rfl) (Nat.le_of_ble_eq_true rfl) (fun r4 M3 p5 => ?_)
  have h := h r4 M3 p5
  refine z_icmp_ge (tgt := 58) dX0_lay_24 (by decide) (fun q7 => ?_) (fun q7 => ?_)
  · have h := h.1 q7
    exact z_vret hr dX0_lay_58 (Nat.le_of_ble_eq_true rfl) (Nat.le_of_ble_eq_true rfl) ⟨rfl, h⟩
  · have h := h.2 q7
    refine z_aload_n 0 dX0_lay_27 rfl ?_
    obtain ⟨q8, h⟩ := h
    refine z_getR fl_X0_9 rfl dX0_lay_28 q8 ?_
    refine z_iload 4 dX0_lay_31 rfl ?_
    refine z_dup2 dX0_lay_33 rfl rfl ?_
    obtain ⟨b9, eb9, h⟩ := h
    rw [eb9]
    obtain ⟨q10, h⟩ := h
    obtain ⟨q11, h⟩ := h
    obtain ⟨q12, h⟩ := h
    refine z_lald dX0_lay_34 (n := (zK M3 b9).2) (Prod.ext q10 rfl) q11 q12 ?_
    refine z_aload_n 1 dX0_lay_35 rfl ?_
    obtain ⟨q13, h⟩ := h
    refine z_getL fl_X0_33 dX0_lay_36 q13 ?_
    refine z_lor dX0_lay_39 ?_
    obtain ⟨q14, h⟩ := h
    obtain ⟨q15, h⟩ := h
    obtain ⟨q16, h⟩ := h
    refine z_last dX0_lay_40 (n := (zK M3 b9).2) (Prod.ext q14 rfl) q15 q16 ?_
    obtain ⟨M17, hmM17⟩ : ∃ z, z = zsL M3 b9 x4 ((zL M3 b9 x4) ||| (zL M3 a1 1)) := ⟨_, rfl⟩
    rw [← hmM17]
    have h := h M17 hmM17
    refine z_aload_n 3 dX0_lay_41 rfl ?_
    refine z_iload 4 dX0_lay_42 rfl ?_
    refine z_dup2 dX0_lay_44 rfl rfl ?_
    obtain ⟨b18, eb18, h⟩ := h
    rw [eb18]
    obtain ⟨q19, h⟩ := h
    obtain ⟨q20, h⟩ := h
    obtain ⟨q21, h⟩ := h
    refine z_iald dX0_lay_45 (n := (zK M17 b18).2) (Prod.ext q19 rfl) q20 q21 ?_
    refine z_aload_n 1 dX0_lay_46 rfl ?_
    obtain ⟨q22, h⟩ := h
    refine z_getI fl_X0_37 dX0_lay_47 q22 ?_
    obtain ⟨q23, h⟩ := h
    refine z_iadd dX0_lay_50 q23 ?_
    obtain ⟨q24, h⟩ := h
    obtain ⟨q25, h⟩ := h
    obtain ⟨q26, h⟩ := h
    refine z_iast dX0_lay_51 (n := (zK M17 b18).2) (Prod.ext q24 rfl) q25 q26 ?_
    obtain ⟨M27, hmM27⟩ : ∃ z, z = zsI M17 b18 x4 ((zI M17 b18 x4) + (zI M17 a1 3)) := ⟨_, rfl⟩
    rw [← hmM27]
    have h := h M27 hmM27
    obtain ⟨q28, h⟩ := h
    refine z_iinc 4 dX0_lay_52 rfl (by decide) q28 rfl ?_
    refine z_goto (tgt := 18) dX0_lay_55 (by decide) ?_
    exact z_sub [1, 2, 3, 4, 0] rfl h
theorem sX0_lay {E : zE} {d : Nat} {P : zM → Prop} {M : zM} (a0 : Nat) (a1 : Nat) (x2 : Int) (h : ∀ X : zX, (xh X).sig.returnType = none → ZX0_lay E d X P 0 [(0, vR (some a0)), (1, vR (some a1)), (2, vI x2)] [] M 0 0) : zCv E mX0_lay (d + 1) 0 0 [vR (some a0), vR (some a1), vI x2] M P := z_start (f := mX0_lay) rfl (Nat.le_of_ble_eq_true rfl) rfl h
abbrev ZX0_lift (E : zE) (d : Nat) (X : zX) (P : zM → Prop) (pc : Nat) (Lc : List (Nat × zV)) (S : List zV) (M : zM) (ce sl : Nat) : Prop := zZ cX0_lift RX0 "lift" 4 E (zrm (d + 1) 0 0) X (zQ E (zPv P) X 0 0) pc Lc S M ce sl
set_option maxRecDepth 20000 in
theorem vX0_lift_0 {E : zE} {d : Nat} {X : zX} {P : zM → Prop} {M : zM} (hr : (xh X).sig.returnType = none) (a0 : Nat) (a1 : Nat)
    (h : zK M a1 = (6, 16) ∧ ∃ P1 : Int → zM → Prop, zCi E mX5_isOpen d 0 0 [vR (some a1)] M P1 ∧ ∀ r4 M3, P1 r4 M3 → ((r4 = 0 → zK M3 a0 = (1, 3) ∧ zK M3 a1 = (6, 16) ∧ ∃ b10, zR M3 a0 1 = some b10 ∧ ((zK M3 b10).1 = 12 ∨ (zK M3 b10).1 = 13) ∧ 0 ≤ (zI M3 a1 2) ∧ (zI M3 a1 2) < ((zK M3 b10).2 : Int) ∧ zK M3 a1 = (6, 16) ∧ ZX0_lift E d X P 23 [(0, vR (some a0)), (1, vR (some a1)), (2, vR (zR M3 b10 (zI M3 a1 2))), (3, vI (zI M3 a1 8))] [] M3 0 0) ∧ (r4 ≠ 0 → P M3))) :
    ZX0_lift E d X P 0 [(0, vR (some a0)), (1, vR (some a1))] [] M 0 0 := by
  refine z_aload_n 1 dX0_lift_0 rfl ?_
  obtain ⟨q6, h⟩ := h
  obtain ⟨P1, c2, h⟩ := h
  refine z_Vi (as := []) mv_X0_39 dX0_lift_1 c2 q6 rfl rfl (Nat.le_of_ble_eq_true rfl) (Nat.le_of_ble_eq_true rfl) (Nat.le_of_ble_eq_true rfl) (fun r4 M3 p5 => ?_)
  have h := h r4 M3 p5
  refine z_if_eq (tgt := 8) dX0_lift_4 (by decide) (fun q7 => ?_) (fun q7 => ?_)
  · have h := h.1 q7
    refine z_aload_n 0 dX0_lift_8 rfl ?_
    obtain ⟨q8, h⟩ := h
    refine z_getR fl_X0_17 rfl dX0_lift_9 q8 ?_
    refine z_aload_n 1 dX0_lift_12 rfl ?_
    obtain ⟨q9, h⟩ := h
    refine z_getI fl_X0_26 dX0_lift_13 q9 ?_
    obtain ⟨b10, eb10, h⟩ := h
    rw [eb10]
    obtain ⟨q11, h⟩ := h
    obtain ⟨q12, h⟩ := h
    obtain ⟨q13, h⟩ := h
    refine z_aald dX0_lift_16 (n := (zK M3 b10).2) rfl q11 q12 q13 ?_
    refine z_astore_n dX0_lift_17 (by decide) rfl ?_
    refine z_aload_n 2 dX0_lift_18 rfl ?_
    obtain ⟨q14, h⟩ := h
    refine z_getI fl_X0_20 dX0_lift_19 q14 ?_
    refine z_istore_n dX0_lift_22 (by decide) rfl ?_
    exact z_sub [2, 3, 1, 0] rfl h
  · have h := h.2 q7
    exact z_vret hr dX0_lift_7 (Nat.le_of_ble_eq_true rfl) (Nat.le_of_ble_eq_true rfl) ⟨rfl, h⟩
set_option maxRecDepth 20000 in
theorem vX0_lift_23 {E : zE} {d : Nat} {X : zX} {P : zM → Prop} {M : zM} (hr : (xh X).sig.returnType = none) (a0 : Nat) (a1 : Nat) (g2 : Option Nat) (x3 : Int)
    (h : zK M a1 = (6, 16) ∧ ∃ P1 : Int → zM → Prop, zCi E mX5_behind d 0 0 [vR (some a1)] M P1 ∧ ∀ r4 M3, P1 r4 M3 → ((r4 ≤ x3 → zK M3 a1 = (6, 16) ∧ ∀ M9, M9 = zsI M3 a1 8 (-1) → P M9) ∧ (x3 < r4 → zK M3 a0 = (1, 3) ∧ ∃ b11, zR M3 a0 0 = some b11 ∧ (zK M3 b11).1 = 11 ∧ 0 ≤ x3 ∧ x3 < ((zK M3 b11).2 : Int) ∧ zK M3 a1 = (6, 16) ∧ (zK M3 b11).1 = 11 ∧ 0 ≤ x3 ∧ x3 < ((zK M3 b11).2 : Int) ∧ ∀ M19, M19 = zsL M3 b11 x3 ((zL M3 b11 x3) &&& ((zL M3 a1 1) ^^^ (-1 : Int64))) → ∃ b20, g2 = some b20 ∧ (zK M19 b20).1 = 9 ∧ 0 ≤ x3 ∧ x3 < ((zK M19 b20).2 : Int) ∧ zK M19 a1 = (6, 16) ∧ zin ((zI M19 b20 x3) - (zI M19 a1 3)) ∧ (zK M19 b20).1 = 9 ∧ 0 ≤ x3 ∧ x3 < ((zK M19 b20).2 : Int) ∧ ∀ M29, M29 = zsI M19 b20 x3 ((zI M19 b20 x3) - (zI M19 a1 3)) → zin (x3 + 1) ∧ ZX0_lift E d X P 23 [(0, vR (some a0)), (1, vR (some a1)), (2, vR (some b20)), (3, vI (x3 + 1))] [] M29 0 0))) :
    ZX0_lift E d X P 23 [(0, vR (some a0)), (1, vR (some a1)), (2, vR g2), (3, vI x3)] [] M 0 0 := by
  refine z_iload_n 3 dX0_lift_23 rfl ?_
  refine z_aload_n 1 dX0_lift_24 rfl ?_
  obtain ⟨q6, h⟩ := h
  obtain ⟨P1, c2, h⟩ := h
  refine z_Vi (as := []) mv_X0_29 dX0_lift_25 c2 q6 rfl rfl (Nat.le_of_ble_eq_true rfl) (Nat.le_of_ble_eq_true rfl) (Nat.le_of_ble_eq_true rfl) (fun r4 M3 p5 => ?_)
  have h := h r4 M3 p5
  refine z_icmp_ge (tgt := 64) dX0_lift_28 (by decide) (fun q7 => ?_) (fun q7 => ?_)
  · have h := h.1 q7
    refine z_aload_n 1 dX0_lift_64 rfl ?_
    refine z_iconst dX0_lift_65 (by decide) ?_
    obtain ⟨q8, h⟩ := h
    refine z_putI fl_X0_20 (Or.inl rfl) dX0_lift_66 q8 ?_
    obtain ⟨M9, hmM9⟩ : ∃ z, z = zsI M3 a1 8 (-1) := ⟨_, rfl⟩
    rw [← hmM9]
    have h := h M9 hmM9
    exact z_vret hr dX0_lift_69 (Nat.le_of_ble_eq_true rfl) (Nat.le_of_ble_eq_true rfl) ⟨rfl, h⟩
  · have h := h.2 q7
    refine z_aload_n 0 dX0_lift_31 rfl ?_
    obtain ⟨q10, h⟩ := h
    refine z_getR fl_X0_9 rfl dX0_lift_32 q10 ?_
    refine z_iload_n 3 dX0_lift_35 rfl ?_
    refine z_dup2 dX0_lift_36 rfl rfl ?_
    obtain ⟨b11, eb11, h⟩ := h
    rw [eb11]
    obtain ⟨q12, h⟩ := h
    obtain ⟨q13, h⟩ := h
    obtain ⟨q14, h⟩ := h
    refine z_lald dX0_lift_37 (n := (zK M3 b11).2) (Prod.ext q12 rfl) q13 q14 ?_
    refine z_aload_n 1 dX0_lift_38 rfl ?_
    obtain ⟨q15, h⟩ := h
    refine z_getL fl_X0_33 dX0_lift_39 q15 ?_
    refine z_ldc2 dX0_lift_42 kw_459 ?_
    refine z_lxor dX0_lift_45 ?_
    refine z_land dX0_lift_46 ?_
    obtain ⟨q16, h⟩ := h
    obtain ⟨q17, h⟩ := h
    obtain ⟨q18, h⟩ := h
    refine z_last dX0_lift_47 (n := (zK M3 b11).2) (Prod.ext q16 rfl) q17 q18 ?_
    obtain ⟨M19, hmM19⟩ : ∃ z, z = zsL M3 b11 x3 ((zL M3 b11 x3) &&& ((zL M3 a1 1) ^^^ (-1 : Int64))) := ⟨_, rfl⟩
    rw [← hmM19]
    have h := h M19 hmM19
    refine z_aload_n 2 dX0_lift_48 rfl ?_
    refine z_iload_n 3 dX0_lift_49 rfl ?_
    refine z_dup2 dX0_lift_50 rfl rfl ?_
    obtain ⟨b20, eb20, h⟩ := h
    rw [eb20]
    obtain ⟨q21, h⟩ := h
    obtain ⟨q22, h⟩ := h
    obtain ⟨q23, h⟩ := h
    refine z_iald dX0_lift_51 (n := (zK M19 b20).2) (Prod.ext q21 rfl) q22 q23 ?_
    refine z_aload_n 1 dX0_lift_52 rfl ?_
    obtain ⟨q24, h⟩ := h
    refine z_getI fl_X0_37 dX0_lift_53 q24 ?_
    obtain ⟨q25, h⟩ := h
    refine z_isub dX0_lift_56 q25 ?_
    obtain ⟨q26, h⟩ := h
    obtain ⟨q27, h⟩ := h
    obtain ⟨q28, h⟩ := h
    refine z_iast dX0_lift_57 (n := (zK M19 b20).2) (Prod.ext q26 rfl) q27 q28 ?_
    obtain ⟨M29, hmM29⟩ : ∃ z, z = zsI M19 b20 x3 ((zI M19 b20 x3) - (zI M19 a1 3)) := ⟨_, rfl⟩
    rw [← hmM29]
    have h := h M29 hmM29
    obtain ⟨q30, h⟩ := h
    refine z_iinc 3 dX0_lift_58 rfl (by decide) q30 rfl ?_
    refine z_goto (tgt := 23) dX0_lift_61 (by decide) ?_
    exact z_sub [1, 2, 3, 0] rfl h
theorem sX0_lift {E : zE} {d : Nat} {P : zM → Prop} {M : zM} (a0 : Nat) (a1 : Nat) (h : ∀ X : zX, (xh X).sig.returnType = none → ZX0_lift E d X P 0 [(0, vR (some a0)), (1, vR (some a1))] [] M 0 0) : zCv E mX0_lift (d + 1) 0 0 [vR (some a0), vR (some a1)] M P := z_start (f := mX0_lift) rfl (Nat.le_of_ble_eq_true rfl) rfl h
abbrev ZX0_lengthen (E : zE) (d : Nat) (X : zX) (P : zM → Prop) (pc : Nat) (Lc : List (Nat × zV)) (S : List zV) (M : zM) (ce sl : Nat) : Prop := zZ cX0_lengthen RX0 "lengthen" 4 E (zrm (d + 1) 0 0) X (zQ E (zPv P) X 0 0) pc Lc S M ce sl
set_option maxRecDepth 20000 in
theorem vX0_lengthen_0 {E : zE} {d : Nat} {X : zX} {P : zM → Prop} {M : zM} (hr : (xh X).sig.returnType = none) (a0 : Nat) (a1 : Nat) (x2 : Int)
    (h : zK M a1 = (6, 16) ∧ zK M a0 = (1, 3) ∧ ∃ P2 : zM → Prop, zCv E mX0_lift d 0 0 [vR (some a0), vR (some a1)] M P2 ∧ ∀ M4, P2 M4 → zK M4 a1 = (6, 16) ∧ zin ((zI M4 a1 7) + x2) ∧ zK M4 a1 = (6, 16) ∧ ∀ M11, M11 = zsI M4 a1 7 ((zI M4 a1 7) + x2) → (((zI M a1 8) = (-1) → P M11) ∧ ((zI M a1 8) ≠ (-1) → zK M11 a0 = (1, 3) ∧ ∃ P13 : zM → Prop, zCv E mX0_lay d 0 0 [vR (some a0), vR (some a1), vI (zI M a1 8)] M11 P13 ∧ ∀ M15, P13 M15 → P M15))) :
    ZX0_lengthen E d X P 0 [(0, vR (some a0)), (1, vR (some a1)), (2, vI x2)] [] M 0 0 := by
  refine z_aload_n 1 dX0_lengthen_0 rfl ?_
  obtain ⟨q1, h⟩ := h
  refine z_getI fl_X0_20 dX0_lengthen_1 q1 ?_
  refine z_istore_n dX0_lengthen_4 (by decide) rfl ?_
  refine z_aload_n 1 dX0_lengthen_5 rfl ?_
  refine z_aload_n 2 dX0_lengthen_6 rfl ?_
  obtain ⟨q7, h⟩ := h
  obtain ⟨P2, c3, h⟩ := h
  refine z_Vv (as := [vR (some a1)]) mv_X0_45 dX0_lengthen_7 c3 q7 rfl rfl (Nat.le_of_ble_eq_true rfl) (Nat.le_of_ble_eq_true rfl) (Nat.le_of_ble_eq_true rfl) (fun M4 p6 => ?_)
  have h := h M4 p6
  refine z_aload_n 2 dX0_lengthen_10 rfl ?_
  refine z_dup dX0_lengthen_11 rfl ?_
  obtain ⟨q8, h⟩ := h
  refine z_getI fl_X0_49 dX0_lengthen_12 q8 ?_
  refine z_iload_n 3 dX0_lengthen_15 rfl ?_
  obtain ⟨q9, h⟩ := h
  refine z_iadd dX0_lengthen_16 q9 ?_
  obtain ⟨q10, h⟩ := h
  refine z_putI fl_X0_49 (Or.inl rfl) dX0_lengthen_17 q10 ?_
  obtain ⟨M11, hmM11⟩ : ∃ z, z = zsI M4 a1 7 ((zI M4 a1 7) + x2) := ⟨_, rfl⟩
  rw [← hmM11]
  have h := h M11 hmM11
  refine z_iload_n 0 dX0_lengthen_20 rfl ?_
  refine z_iconst dX0_lengthen_21 (by decide) ?_
  refine z_icmp_eq (tgt := 31) dX0_lengthen_22 (by decide) (fun q12 => ?_) (fun q12 => ?_)
  · have h := h.1 q12
    exact z_vret hr dX0_lengthen_31 (Nat.le_of_ble_eq_true rfl) (Nat.le_of_ble_eq_true rfl) ⟨rfl, h⟩
  · have h := h.2 q12
    refine z_aload_n 1 dX0_lengthen_25 rfl ?_
    refine z_aload_n 2 dX0_lengthen_26 rfl ?_
    refine z_iload_n 0 dX0_lengthen_27 rfl ?_
    obtain ⟨q18, h⟩ := h
    obtain ⟨P13, c14, h⟩ := h
    refine z_Vv (as := [vR (some a1), vI (zI M a1 8)]) mv_X0_52 dX0_lengthen_28 c14 q18 rfl rfl (Nat.le_of_ble_eq_true rfl) (Nat.le_of_ble_eq_true rfl) (Nat.le_of_ble_eq_true rfl) (fun M15 p17 => ?_)
    have h := h M15 p17
    exact z_vret hr dX0_lengthen_31 (Nat.le_of_ble_eq_true rfl) (Nat.le_of_ble_eq_true rfl) ⟨rfl, h⟩
theorem sX0_lengthen {E : zE} {d : Nat} {P : zM → Prop} {M : zM} (a0 : Nat) (a1 : Nat) (x2 : Int) (h : ∀ X : zX, (xh X).sig.returnType = none → ZX0_lengthen E d X P 0 [(0, vR (some a0)), (1, vR (some a1)), (2, vI x2)] [] M 0 0) : zCv E mX0_lengthen (d + 1) 0 0 [vR (some a0), vR (some a1), vI x2] M P := z_start (f := mX0_lengthen) rfl (Nat.le_of_ble_eq_true rfl) rfl h
