abbrev ZX3_init (E : zE) (d : Nat) (X : zX) (P : zM → Prop) (pc : Nat) (Lc : List (Nat × zV)) (S : List zV) (M : zM) (ce sl : Nat) : Prop := zZ cX3_init RX3 "<init>" 4 E (zrm (d + 1) 1 6) X (zQ E (zPv P) X 1 6) pc Lc S M ce sl
set_option maxRecDepth 20000 in
theorem vX3_init_0 {E : zE} {d : Nat} {X : zX} {P : zM → Prop} {M : zM} (hr : (xh X).sig.returnType = none) (a0 : Nat) (a1 : Nat) (a2 : Nat) (a3 : Nat)
    (h : ∀ M1, M1 = znew M 9 6 → zK M1 a0 = (4, 5) ∧ ∀ M3, M3 = zsR M1 a0 0 (some (zsz M)) → zK M3 a0 = (4, 5) ∧ ∀ M5, M5 = zsR M3 a0 1 (some a1) → zK M5 a0 = (4, 5) ∧ ∀ M7, M7 = zsR M5 a0 2 (some a2) → zK M7 a0 = (4, 5) ∧ ∀ M9, M9 = zsR M7 a0 3 (some a3) → P M9) :
    ZX3_init E d X P 0 [(0, vR (some a0)), (1, vR (some a1)), (2, vR (some a2)), (3, vR (some a3))] [] M 0 0 := by
  refine z_aload_n 0 dX3_init_0 rfl ?_
  refine z_objInit oi_X3_3 dX3_init_1 (Nat.le_of_ble_eq_true rfl) zr3 zr5 ?_
  refine z_aload_n 0 dX3_init_4 rfl ?_
  refine z_bipush dX3_init_5 (by decide) ?_
  refine z_newa (at_ := .int) (tg := 9) (n := 6) (by simp) kw_80 dX3_init_7 rfl (by decide) (Nat.le_of_ble_eq_true rfl) (Nat.le_of_ble_eq_true rfl) ?_
  obtain ⟨M1, hmM1⟩ : ∃ z, z = znew M 9 6 := ⟨_, rfl⟩
  rw [← hmM1]
  have h := h M1 hmM1
  obtain ⟨q2, h⟩ := h
  refine z_putR fl_X3_9 rfl (Or.inr ⟨rfl, rfl⟩) dX3_init_9 q2 ?_
  obtain ⟨M3, hmM3⟩ : ∃ z, z = zsR M1 a0 0 (some (zsz M)) := ⟨_, rfl⟩
  rw [← hmM3]
  have h := h M3 hmM3
  refine z_aload_n 0 dX3_init_12 rfl ?_
  refine z_aload_n 1 dX3_init_13 rfl ?_
  obtain ⟨q4, h⟩ := h
  refine z_putR fl_X3_15 rfl (Or.inr ⟨rfl, rfl⟩) dX3_init_14 q4 ?_
  obtain ⟨M5, hmM5⟩ : ∃ z, z = zsR M3 a0 1 (some a1) := ⟨_, rfl⟩
  rw [← hmM5]
  have h := h M5 hmM5
  refine z_aload_n 0 dX3_init_17 rfl ?_
  refine z_aload_n 2 dX3_init_18 rfl ?_
  obtain ⟨q6, h⟩ := h
  refine z_putR fl_X3_19 rfl (Or.inr ⟨rfl, rfl⟩) dX3_init_19 q6 ?_
  obtain ⟨M7, hmM7⟩ : ∃ z, z = zsR M5 a0 2 (some a2) := ⟨_, rfl⟩
  rw [← hmM7]
  have h := h M7 hmM7
  refine z_aload_n 0 dX3_init_22 rfl ?_
  refine z_aload_n 3 dX3_init_23 rfl ?_
  obtain ⟨q8, h⟩ := h
  refine z_putR fl_X3_23 rfl (Or.inr ⟨rfl, rfl⟩) dX3_init_24 q8 ?_
  obtain ⟨M9, hmM9⟩ : ∃ z, z = zsR M7 a0 3 (some a3) := ⟨_, rfl⟩
  rw [← hmM9]
  have h := h M9 hmM9
  exact z_vret hr dX3_init_27 (Nat.le_of_ble_eq_true rfl) (Nat.le_of_ble_eq_true rfl) ⟨rfl, h⟩
theorem sX3_init {E : zE} {d : Nat} {P : zM → Prop} {M : zM} (a0 : Nat) (a1 : Nat) (a2 : Nat) (a3 : Nat) (h : ∀ X : zX, (xh X).sig.returnType = none → ZX3_init E d X P 0 [(0, vR (some a0)), (1, vR (some a1)), (2, vR (some a2)), (3, vR (some a3))] [] M 0 0) : zCv E mX3_init (d + 1) 1 6 [vR (some a0), vR (some a1), vR (some a2), vR (some a3)] M P := z_start (f := mX3_init) rfl (Nat.le_of_ble_eq_true rfl) rfl h
abbrev ZX3_layBest (E : zE) (d : Nat) (X : zX) (P : Int → zM → Prop) (pc : Nat) (Lc : List (Nat × zV)) (S : List zV) (M : zM) (ce sl : Nat) : Prop := zZ cX3_layBest RX3 "layBest" 2 E (zrm (d + 1) 0 0) X (zQ E (zPi P) X 0 0) pc Lc S M ce sl
set_option maxRecDepth 20000 in
theorem vX3_layBest_0 {E : zE} {d : Nat} {X : zX} {P : Int → zM → Prop} {M : zM} (hr : (xh X).sig.returnType = (some .int)) (a0 : Nat)
    (h : zK M a0 = (4, 5) ∧ ∀ M2, M2 = zsI M a0 4 401 → zK M2 a0 = (4, 5) ∧ ∃ P3 : zM → Prop, zCv E mX3_layNext d 0 0 [vR (some a0), vI 0, vI 0] M2 P3 ∧ ∀ M5, P3 M5 → zK M5 a0 = (4, 5) ∧ (((zI M5 a0 4) ≤ 400 → ZX3_layBest E d X P 27 [(0, vR (some a0)), (1, vI 0)] [] M5 0 0) ∧ (400 < (zI M5 a0 4) → P (-1) M5))) :
    ZX3_layBest E d X P 0 [(0, vR (some a0))] [] M 0 0 := by
  refine z_aload_n 0 dX3_layBest_0 rfl ?_
  refine z_sipush dX3_layBest_1 (by decide) ?_
  obtain ⟨q1, h⟩ := h
  refine z_putI fl_X3_27 (Or.inl rfl) dX3_layBest_4 q1 ?_
  obtain ⟨M2, hmM2⟩ : ∃ z, z = zsI M a0 4 401 := ⟨_, rfl⟩
  rw [← hmM2]
  have h := h M2 hmM2
  refine z_aload_n 0 dX3_layBest_7 rfl ?_
  refine z_iconst dX3_layBest_8 (by decide) ?_
  refine z_iconst dX3_layBest_9 (by decide) ?_
  obtain ⟨q8, h⟩ := h
  obtain ⟨P3, c4, h⟩ := h
  refine z_Vv (as := [vI 0, vI 0]) mv_X3_31 dX3_layBest_10 c4 q8 rfl rfl (Nat.le_of_ble_eq_true rfl) (Nat.le_of_ble_eq_true rfl) (Nat.le_of_ble_eq_true rfl) (fun M5 p7 => ?_)
  have h := h M5 p7
  refine z_aload_n 0 dX3_layBest_13 rfl ?_
  obtain ⟨q9, h⟩ := h
  refine z_getI fl_X3_27 dX3_layBest_14 q9 ?_
  refine z_sipush dX3_layBest_17 (by decide) ?_
  refine z_icmp_le (tgt := 25) dX3_layBest_20 (by decide) (fun q10 => ?_) (fun q10 => ?_)
  · have h := h.1 q10
    refine z_iconst dX3_layBest_25 (by decide) ?_
    refine z_istore_n dX3_layBest_26 (by decide) rfl ?_
    exact z_sub [1, 0] rfl h
  · have h := h.2 q10
    refine z_iconst dX3_layBest_23 (by decide) ?_
    exact z_iret hr dX3_layBest_24 (Nat.le_of_ble_eq_true rfl) (Nat.le_of_ble_eq_true rfl) ⟨_, rfl, h⟩
set_option maxRecDepth 20000 in
theorem vX3_layBest_27 {E : zE} {d : Nat} {X : zX} {P : Int → zM → Prop} {M : zM} (hr : (xh X).sig.returnType = (some .int)) (a0 : Nat) (x1 : Int)
    (h : zK M a0 = (4, 5) ∧ ∃ b2, zR M a0 1 = some b2 ∧ zK M b2 = (3, 6) ∧ (((zI M b2 4) ≤ x1 → zK M a0 = (4, 5) ∧ P (zI M a0 4) M) ∧ (x1 < (zI M b2 4) → ((6 ≤ x1 → zK M a0 = (4, 5) ∧ P (zI M a0 4) M) ∧ (x1 < 6 → zK M a0 = (4, 5) ∧ zK M a0 = (4, 5) ∧ zK M b2 = (3, 6) ∧ ∃ b11, zR M b2 0 = some b11 ∧ ((zK M b11).1 = 12 ∨ (zK M b11).1 = 13) ∧ 0 ≤ x1 ∧ x1 < ((zK M b11).2 : Int) ∧ zK M a0 = (4, 5) ∧ ∃ b16, zR M a0 0 = some b16 ∧ (zK M b16).1 = 9 ∧ 0 ≤ x1 ∧ x1 < ((zK M b16).2 : Int) ∧ ∃ b20, zR M a0 2 = some b20 ∧ ∃ b21, zR M b11 x1 = some b21 ∧ zK M b20 = (1, 3) ∧ ∃ P22 : zM → Prop, zCv E mX0_lay d 0 0 [vR (some b20), vR (some b21), vI (zI M b16 x1)] M P22 ∧ ∀ M24, P22 M24 → zin (x1 + 1) ∧ ZX3_layBest E d X P 27 [(0, vR (some a0)), (1, vI (x1 + 1))] [] M24 0 0))))) :
    ZX3_layBest E d X P 27 [(0, vR (some a0)), (1, vI x1)] [] M 0 0 := by
  refine z_iload_n 1 dX3_layBest_27 rfl ?_
  refine z_aload_n 0 dX3_layBest_28 rfl ?_
  obtain ⟨q1, h⟩ := h
  refine z_getR fl_X3_15 rfl dX3_layBest_29 q1 ?_
  obtain ⟨b2, eb2, h⟩ := h
  rw [eb2]
  obtain ⟨q3, h⟩ := h
  refine z_getI fl_X3_35 dX3_layBest_32 q3 ?_
  refine z_icmp_ge (tgt := 72) dX3_layBest_35 (by decide) (fun q4 => ?_) (fun q4 => ?_)
  · have h := h.1 q4
    refine z_aload_n 0 dX3_layBest_72 rfl ?_
    obtain ⟨q5, h⟩ := h
    refine z_getI fl_X3_27 dX3_layBest_73 q5 ?_
    exact z_iret hr dX3_layBest_76 (Nat.le_of_ble_eq_true rfl) (Nat.le_of_ble_eq_true rfl) ⟨_, rfl, h⟩
  · have h := h.2 q4
    refine z_iload_n 1 dX3_layBest_38 rfl ?_
    refine z_bipush dX3_layBest_39 (by decide) ?_
    refine z_icmp_ge (tgt := 72) dX3_layBest_41 (by decide) (fun q6 => ?_) (fun q6 => ?_)
    · have h := h.1 q6
      refine z_aload_n 0 dX3_layBest_72 rfl ?_
      obtain ⟨q7, h⟩ := h
      refine z_getI fl_X3_27 dX3_layBest_73 q7 ?_
      exact z_iret hr dX3_layBest_76 (Nat.le_of_ble_eq_true rfl) (Nat.le_of_ble_eq_true rfl) ⟨_, rfl, h⟩
    · have h := h.2 q6
      refine z_aload_n 0 dX3_layBest_44 rfl ?_
      obtain ⟨q8, h⟩ := h
      refine z_getR fl_X3_19 rfl dX3_layBest_45 q8 ?_
      refine z_aload_n 0 dX3_layBest_48 rfl ?_
      obtain ⟨q9, h⟩ := h
      refine z_getR fl_X3_15 rfl dX3_layBest_49 q9 ?_
      rw [eb2]
      obtain ⟨q10, h⟩ := h
      refine z_getR fl_X3_40 rfl dX3_layBest_52 q10 ?_
      refine z_iload_n 1 dX3_layBest_55 rfl ?_
      obtain ⟨b11, eb11, h⟩ := h
      rw [eb11]
      obtain ⟨q12, h⟩ := h
      obtain ⟨q13, h⟩ := h
      obtain ⟨q14, h⟩ := h
      refine z_aald dX3_layBest_56 (n := (zK M b11).2) rfl q12 q13 q14 ?_
      refine z_aload_n 0 dX3_layBest_57 rfl ?_
      obtain ⟨q15, h⟩ := h
      refine z_getR fl_X3_9 rfl dX3_layBest_58 q15 ?_
      refine z_iload_n 1 dX3_layBest_61 rfl ?_
      obtain ⟨b16, eb16, h⟩ := h
      rw [eb16]
      obtain ⟨q17, h⟩ := h
      obtain ⟨q18, h⟩ := h
      obtain ⟨q19, h⟩ := h
      refine z_iald dX3_layBest_62 (n := (zK M b16).2) (Prod.ext q17 rfl) q18 q19 ?_
      obtain ⟨b20, eb20, h⟩ := h
      rw [eb20]
      obtain ⟨b21, eb21, h⟩ := h
      rw [eb21]
      obtain ⟨q27, h⟩ := h
      obtain ⟨P22, c23, h⟩ := h
      refine z_Vv (as := [vR (some b21), vI (zI M b16 x1)]) mv_X3_44 dX3_layBest_63 c23 q27 rfl rfl (Nat.le_of_ble_eq_true rfl) (Nat.le_of_ble_eq_true rfl) (Nat.le_of_ble_eq_true rfl) (fun M24 p26 => ?_)
      have h := h M24 p26
      obtain ⟨q28, h⟩ := h
      refine z_iinc 1 dX3_layBest_66 rfl (by decide) q28 rfl ?_
      refine z_goto (tgt := 27) dX3_layBest_69 (by decide) ?_
      exact z_sub [1, 0] rfl h
theorem sX3_layBest {E : zE} {d : Nat} {P : Int → zM → Prop} {M : zM} (a0 : Nat) (h : ∀ X : zX, (xh X).sig.returnType = (some .int) → ZX3_layBest E d X P 0 [(0, vR (some a0))] [] M 0 0) : zCi E mX3_layBest (d + 1) 0 0 [vR (some a0)] M P := z_start (f := mX3_layBest) rfl (Nat.le_of_ble_eq_true rfl) rfl h
abbrev ZX3_layNext (E : zE) (d : Nat) (X : zX) (P : zM → Prop) (pc : Nat) (Lc : List (Nat × zV)) (S : List zV) (M : zM) (ce sl : Nat) : Prop := zZ cX3_layNext RX3 "layNext" 6 E (zrm (d + 1) 0 0) X (zQ E (zPv P) X 0 0) pc Lc S M ce sl
set_option maxRecDepth 20000 in
theorem vX3_layNext_0 {E : zE} {d : Nat} {X : zX} {P : zM → Prop} {M : zM} (hr : (xh X).sig.returnType = none) (a0 : Nat) (x1 : Int) (x2 : Int)
    (h : zK M a0 = (4, 5) ∧ ∃ b2, zR M a0 1 = some b2 ∧ zK M b2 = (3, 6) ∧ (((zI M b2 4) ≤ x1 → zK M a0 = (4, 5) ∧ ∃ P5 : zM → Prop, zCv E mX3_keep d 0 0 [vR (some a0), vI x2] M P5 ∧ ∀ M7, P5 M7 → P M7) ∧ (x1 < (zI M b2 4) → ((x1 < 6 → zK M a0 = (4, 5) ∧ zK M b2 = (3, 6) ∧ ∃ P13 : Int64 → zM → Prop, zCl E mX2_allThatArePut d 0 0 [vR (some b2)] M P13 ∧ ∀ r16 M15, P13 r16 M15 → ZX3_layNext E d X P 34 [(0, vR (some a0)), (1, vI x1), (2, vI x2), (3, vL r16), (5, vI 0)] [] M15 0 0) ∧ (6 ≤ x1 → zK M a0 = (4, 5) ∧ ∃ P19 : zM → Prop, zCv E mX3_keep d 0 0 [vR (some a0), vI x2] M P19 ∧ ∀ M21, P19 M21 → P M21))))) :
    ZX3_layNext E d X P 0 [(0, vR (some a0)), (1, vI x1), (2, vI x2)] [] M 0 0 := by
  refine z_iload_n 1 dX3_layNext_0 rfl ?_
  refine z_aload_n 0 dX3_layNext_1 rfl ?_
  obtain ⟨q1, h⟩ := h
  refine z_getR fl_X3_15 rfl dX3_layNext_2 q1 ?_
  obtain ⟨b2, eb2, h⟩ := h
  rw [eb2]
  obtain ⟨q3, h⟩ := h
  refine z_getI fl_X3_35 dX3_layNext_5 q3 ?_
  refine z_icmp_ge (tgt := 17) dX3_layNext_8 (by decide) (fun q4 => ?_) (fun q4 => ?_)
  · have h := h.1 q4
    refine z_aload_n 0 dX3_layNext_17 rfl ?_
    refine z_iload_n 2 dX3_layNext_18 rfl ?_
    obtain ⟨q10, h⟩ := h
    obtain ⟨P5, c6, h⟩ := h
    refine z_Vv (as := [vI x2]) mv_X3_50 dX3_layNext_19 c6 q10 rfl rfl (Nat.le_of_ble_eq_true rfl) (Nat.le_of_ble_eq_true rfl) (Nat.le_of_ble_eq_true rfl) (fun M7 p9 => ?_)
    have h := h M7 p9
    exact z_vret hr dX3_layNext_22 (Nat.le_of_ble_eq_true rfl) (Nat.le_of_ble_eq_true rfl) ⟨rfl, h⟩
  · have h := h.2 q4
    refine z_iload_n 1 dX3_layNext_11 rfl ?_
    refine z_bipush dX3_layNext_12 (by decide) ?_
    refine z_icmp_lt (tgt := 23) dX3_layNext_14 (by decide) (fun q11 => ?_) (fun q11 => ?_)
    · have h := h.1 q11
      refine z_aload_n 0 dX3_layNext_23 rfl ?_
      obtain ⟨q12, h⟩ := h
      refine z_getR fl_X3_15 rfl dX3_layNext_24 q12 ?_
      rw [eb2]
      obtain ⟨q18, h⟩ := h
      obtain ⟨P13, c14, h⟩ := h
      refine z_Vl (as := []) mv_X3_54 dX3_layNext_27 c14 q18 rfl rfl (Nat.le_of_ble_eq_true rfl) (Nat.le_of_ble_eq_true rfl) (Nat.le_of_ble_eq_true rfl) (fun r16 M15 p17 => ?_)
      have h := h r16 M15 p17
      refine z_lstore_n dX3_layNext_30 (by decide) rfl ?_
      refine z_iconst dX3_layNext_31 (by decide) ?_
      refine z_istore dX3_layNext_32 (by decide) rfl ?_
      exact z_sub [2, 3, 4, 1, 0] rfl h
    · have h := h.2 q11
      refine z_aload_n 0 dX3_layNext_17 rfl ?_
      refine z_iload_n 2 dX3_layNext_18 rfl ?_
      obtain ⟨q24, h⟩ := h
      obtain ⟨P19, c20, h⟩ := h
      refine z_Vv (as := [vI x2]) mv_X3_50 dX3_layNext_19 c20 q24 rfl rfl (Nat.le_of_ble_eq_true rfl) (Nat.le_of_ble_eq_true rfl) (Nat.le_of_ble_eq_true rfl) (fun M21 p23 => ?_)
      have h := h M21 p23
      exact z_vret hr dX3_layNext_22 (Nat.le_of_ble_eq_true rfl) (Nat.le_of_ble_eq_true rfl) ⟨rfl, h⟩
set_option maxRecDepth 20000 in
theorem vX3_layNext_34 {E : zE} {d : Nat} {X : zX} {P : zM → Prop} {M : zM} (hr : (xh X).sig.returnType = none) (a0 : Nat) (x1 : Int) (x2 : Int) (l3 : Int64) (x5 : Int)
    (h : zK M a0 = (4, 5) ∧ ∃ b2, zR M a0 1 = some b2 ∧ zK M b2 = (3, 6) ∧ (((zI M b2 4) ≤ x5 → P M) ∧ (x5 < (zI M b2 4) → zK M a0 = (4, 5) ∧ zK M b2 = (3, 6) ∧ ∃ b7, zR M b2 0 = some b7 ∧ ((zK M b7).1 = 12 ∨ (zK M b7).1 = 13) ∧ 0 ≤ x5 ∧ x5 < ((zK M b7).2 : Int) ∧ ∃ b11, zR M b7 x5 = some b11 ∧ zK M b11 = (6, 16) ∧ ∃ P12 : Int → zM → Prop, zCi E mX5_isReady d 0 0 [vR (some b11), vL l3] M P12 ∧ ∀ r15 M14, P12 r15 M14 → ((r15 = 0 → zin (x5 + 1) ∧ ZX3_layNext E d X P 34 [(0, vR (some a0)), (1, vI x1), (2, vI x2), (3, vL l3), (5, vI (x5 + 1))] [] M14 0 0) ∧ (r15 ≠ 0 → zK M14 a0 = (4, 5) ∧ ∃ b21, zR M14 a0 1 = some b21 ∧ zK M14 b21 = (3, 6) ∧ ∃ b23, zR M14 b21 0 = some b23 ∧ ((zK M14 b23).1 = 12 ∨ (zK M14 b23).1 = 13) ∧ 0 ≤ x5 ∧ x5 < ((zK M14 b23).2 : Int) ∧ ∃ b27, zR M14 b23 x5 = some b27 ∧ zK M14 a0 = (4, 5) ∧ ∃ P28 : zM → Prop, zCv E mX3_layAndGoOn d 0 0 [vR (some a0), vR (some b27), vI x1, vI x2] M14 P28 ∧ ∀ M30, P28 M30 → zin (x5 + 1) ∧ ZX3_layNext E d X P 34 [(0, vR (some a0)), (1, vI x1), (2, vI x2), (3, vL l3), (5, vI (x5 + 1))] [] M30 0 0))))) :
    ZX3_layNext E d X P 34 [(0, vR (some a0)), (1, vI x1), (2, vI x2), (3, vL l3), (5, vI x5)] [] M 0 0 := by
  refine z_iload 4 dX3_layNext_34 rfl ?_
  refine z_aload_n 0 dX3_layNext_36 rfl ?_
  obtain ⟨q1, h⟩ := h
  refine z_getR fl_X3_15 rfl dX3_layNext_37 q1 ?_
  obtain ⟨b2, eb2, h⟩ := h
  rw [eb2]
  obtain ⟨q3, h⟩ := h
  refine z_getI fl_X3_35 dX3_layNext_40 q3 ?_
  refine z_icmp_ge (tgt := 85) dX3_layNext_43 (by decide) (fun q4 => ?_) (fun q4 => ?_)
  · have h := h.1 q4
    exact z_vret hr dX3_layNext_85 (Nat.le_of_ble_eq_true rfl) (Nat.le_of_ble_eq_true rfl) ⟨rfl, h⟩
  · have h := h.2 q4
    refine z_aload_n 0 dX3_layNext_46 rfl ?_
    obtain ⟨q5, h⟩ := h
    refine z_getR fl_X3_15 rfl dX3_layNext_47 q5 ?_
    rw [eb2]
    obtain ⟨q6, h⟩ := h
    refine z_getR fl_X3_40 rfl dX3_layNext_50 q6 ?_
    refine z_iload 4 dX3_layNext_53 rfl ?_
    obtain ⟨b7, eb7, h⟩ := h
    rw [eb7]
    obtain ⟨q8, h⟩ := h
    obtain ⟨q9, h⟩ := h
    obtain ⟨q10, h⟩ := h
    refine z_aald dX3_layNext_55 (n := (zK M b7).2) rfl q8 q9 q10 ?_
    refine z_lload_n 3 dX3_layNext_56 rfl ?_
    obtain ⟨b11, eb11, h⟩ := h
    rw [eb11]
    obtain ⟨q17, h⟩ := h
    obtain ⟨P12, c13, h⟩ := h
    refine z_Vi (as := [vL l3]) mv_X3_58 dX3_layNext_57 c13 q17 rfl rfl (Nat.le_of_ble_eq_true rfl) (Nat.le_of_ble_eq_true rfl) (Nat.le_of_ble_eq_true rfl) (fun r15 M14 p16 => ?_)
    have h := h r15 M14 p16
    refine z_if_eq (tgt := 79) dX3_layNext_60 (by decide) (fun q18 => ?_) (fun q18 => ?_)
    · have h := h.1 q18
      obtain ⟨q19, h⟩ := h
      refine z_iinc 4 dX3_layNext_79 rfl (by decide) q19 rfl ?_
      refine z_goto (tgt := 34) dX3_layNext_82 (by decide) ?_
      exact z_sub [1, 2, 3, 4, 0] rfl h
    · have h := h.2 q18
      refine z_aload_n 0 dX3_layNext_63 rfl ?_
      refine z_aload_n 0 dX3_layNext_64 rfl ?_
      obtain ⟨q20, h⟩ := h
      refine z_getR fl_X3_15 rfl dX3_layNext_65 q20 ?_
      obtain ⟨b21, eb21, h⟩ := h
      rw [eb21]
      obtain ⟨q22, h⟩ := h
      refine z_getR fl_X3_40 rfl dX3_layNext_68 q22 ?_
      refine z_iload 4 dX3_layNext_71 rfl ?_
      obtain ⟨b23, eb23, h⟩ := h
      rw [eb23]
      obtain ⟨q24, h⟩ := h
      obtain ⟨q25, h⟩ := h
      obtain ⟨q26, h⟩ := h
      refine z_aald dX3_layNext_73 (n := (zK M14 b23).2) rfl q24 q25 q26 ?_
      refine z_iload_n 1 dX3_layNext_74 rfl ?_
      refine z_iload_n 2 dX3_layNext_75 rfl ?_
      obtain ⟨b27, eb27, h⟩ := h
      rw [eb27]
      obtain ⟨q33, h⟩ := h
      obtain ⟨P28, c29, h⟩ := h
      refine z_Vv (as := [vR (some b27), vI x1, vI x2]) mv_X3_64 dX3_layNext_76 c29 q33 rfl rfl (Nat.le_of_ble_eq_true rfl) (Nat.le_of_ble_eq_true rfl) (Nat.le_of_ble_eq_true rfl) (fun M30 p32 => ?_)
      have h := h M30 p32
      obtain ⟨q34, h⟩ := h
      refine z_iinc 4 dX3_layNext_79 rfl (by decide) q34 rfl ?_
      refine z_goto (tgt := 34) dX3_layNext_82 (by decide) ?_
      exact z_sub [1, 2, 3, 4, 0] rfl h
theorem sX3_layNext {E : zE} {d : Nat} {P : zM → Prop} {M : zM} (a0 : Nat) (x1 : Int) (x2 : Int) (h : ∀ X : zX, (xh X).sig.returnType = none → ZX3_layNext E d X P 0 [(0, vR (some a0)), (1, vI x1), (2, vI x2)] [] M 0 0) : zCv E mX3_layNext (d + 1) 0 0 [vR (some a0), vI x1, vI x2] M P := z_start (f := mX3_layNext) rfl (Nat.le_of_ble_eq_true rfl) rfl h
abbrev ZX3_layAndGoOn (E : zE) (d : Nat) (X : zX) (P : zM → Prop) (pc : Nat) (Lc : List (Nat × zV)) (S : List zV) (M : zM) (ce sl : Nat) : Prop := zZ cX3_layAndGoOn RX3 "layAndGoOn" 5 E (zrm (d + 1) 0 0) X (zQ E (zPv P) X 0 0) pc Lc S M ce sl
set_option maxRecDepth 20000 in
theorem vX3_layAndGoOn_0 {E : zE} {d : Nat} {X : zX} {P : zM → Prop} {M : zM} (hr : (xh X).sig.returnType = none) (a0 : Nat) (a1 : Nat) (x2 : Int) (x3 : Int)
    (h : zK M a0 = (4, 5) ∧ ∃ b2, zR M a0 3 = some b2 ∧ zK M b2 = (5, 5) ∧ ∃ P3 : Int → zM → Prop, zCi E mX4_firstPlace d 0 0 [vR (some b2), vR (some a1), vI 0] M P3 ∧ ∀ r6 M5, P3 r6 M5 → ((r6 = (-1) → P M5) ∧ (r6 ≠ (-1) → zK M5 a1 = (6, 16) ∧ zin (r6 + (zI M5 a1 7)) ∧ zK M5 a0 = (4, 5) ∧ (((max x3 (r6 + (zI M5 a1 7))) < (zI M5 a0 4) → zK M5 a0 = (4, 5) ∧ ∃ b15, zR M5 a0 2 = some b15 ∧ zK M5 b15 = (1, 3) ∧ ∃ P16 : zM → Prop, zCv E mX0_lay d 0 0 [vR (some b15), vR (some a1), vI r6] M5 P16 ∧ ∀ M18, P16 M18 → zin (x2 + 1) ∧ zK M18 a1 = (6, 16) ∧ ∃ P23 : Int → zM → Prop, zCi E mX5_behind d 0 0 [vR (some a1)] M18 P23 ∧ ∀ r26 M25, P23 r26 M25 → zK M25 a0 = (4, 5) ∧ ∃ P29 : zM → Prop, zCv E mX3_layNext d 0 0 [vR (some a0), vI (x2 + 1), vI (max x3 r26)] M25 P29 ∧ ∀ M31, P29 M31 → zK M31 a0 = (4, 5) ∧ ∃ b36, zR M31 a0 2 = some b36 ∧ zK M31 b36 = (1, 3) ∧ ∃ P37 : zM → Prop, zCv E mX0_lift d 0 0 [vR (some b36), vR (some a1)] M31 P37 ∧ ∀ M39, P37 M39 → P M39) ∧ ((zI M5 a0 4) ≤ (max x3 (r6 + (zI M5 a1 7))) → P M5))))) :
    ZX3_layAndGoOn E d X P 0 [(0, vR (some a0)), (1, vR (some a1)), (2, vI x2), (3, vI x3)] [] M 0 0 := by
  refine z_aload_n 0 dX3_layAndGoOn_0 rfl ?_
  obtain ⟨q1, h⟩ := h
  refine z_getR fl_X3_23 rfl dX3_layAndGoOn_1 q1 ?_
  refine z_aload_n 1 dX3_layAndGoOn_4 rfl ?_
  refine z_iconst dX3_layAndGoOn_5 (by decide) ?_
  obtain ⟨b2, eb2, h⟩ := h
  rw [eb2]
  obtain ⟨q8, h⟩ := h
  obtain ⟨P3, c4, h⟩ := h
  refine z_Vi (as := [vR (some a1), vI 0]) mv_X3_68 dX3_layAndGoOn_6 c4 q8 rfl rfl (Nat.le_of_ble_eq_true rfl) (Nat.le_of_ble_eq_true rfl) (Nat.le_of_ble_eq_true rfl) (fun r6 M5 p7 => ?_)
  have h := h r6 M5 p7
  refine z_istore dX3_layAndGoOn_9 (by decide) rfl ?_
  refine z_iload 0 dX3_layAndGoOn_11 rfl ?_
  refine z_iconst dX3_layAndGoOn_13 (by decide) ?_
  refine z_icmp_eq (tgt := 35) dX3_layAndGoOn_14 (by decide) (fun q9 => ?_) (fun q9 => ?_)
  · have h := h.1 q9
    exact z_vret hr dX3_layAndGoOn_35 (Nat.le_of_ble_eq_true rfl) (Nat.le_of_ble_eq_true rfl) ⟨rfl, h⟩
  · have h := h.2 q9
    refine z_iload_n 4 dX3_layAndGoOn_17 rfl ?_
    refine z_iload 0 dX3_layAndGoOn_18 rfl ?_
    refine z_aload_n 2 dX3_layAndGoOn_20 rfl ?_
    obtain ⟨q10, h⟩ := h
    refine z_getI fl_X3_74 dX3_layAndGoOn_21 q10 ?_
    obtain ⟨q11, h⟩ := h
    refine z_iadd dX3_layAndGoOn_24 q11 ?_
    refine z_max mm_X3_77 dX3_layAndGoOn_25 (Nat.le_of_ble_eq_true rfl) zr3 zr4 (Nat.le_of_ble_eq_true rfl) (Nat.le_of_ble_eq_true rfl) ?_
    refine z_aload_n 1 dX3_layAndGoOn_28 rfl ?_
    obtain ⟨q12, h⟩ := h
    refine z_getI fl_X3_27 dX3_layAndGoOn_29 q12 ?_
    refine z_icmp_lt (tgt := 36) dX3_layAndGoOn_32 (by decide) (fun q13 => ?_) (fun q13 => ?_)
    · have h := h.1 q13
      refine z_aload_n 1 dX3_layAndGoOn_36 rfl ?_
      obtain ⟨q14, h⟩ := h
      refine z_getR fl_X3_19 rfl dX3_layAndGoOn_37 q14 ?_
      refine z_aload_n 2 dX3_layAndGoOn_40 rfl ?_
      refine z_iload 0 dX3_layAndGoOn_41 rfl ?_
      obtain ⟨b15, eb15, h⟩ := h
      rw [eb15]
      obtain ⟨q21, h⟩ := h
      obtain ⟨P16, c17, h⟩ := h
      refine z_Vv (as := [vR (some a1), vI r6]) mv_X3_44 dX3_layAndGoOn_43 c17 q21 rfl rfl (Nat.le_of_ble_eq_true rfl) (Nat.le_of_ble_eq_true rfl) (Nat.le_of_ble_eq_true rfl) (fun M18 p20 => ?_)
      have h := h M18 p20
      refine z_aload_n 1 dX3_layAndGoOn_46 rfl ?_
      refine z_iload_n 3 dX3_layAndGoOn_47 rfl ?_
      refine z_iconst dX3_layAndGoOn_48 (by decide) ?_
      obtain ⟨q22, h⟩ := h
      refine z_iadd dX3_layAndGoOn_49 q22 ?_
      refine z_iload_n 4 dX3_layAndGoOn_50 rfl ?_
      refine z_aload_n 2 dX3_layAndGoOn_51 rfl ?_
      obtain ⟨q28, h⟩ := h
      obtain ⟨P23, c24, h⟩ := h
      refine z_Vi (as := []) mv_X3_83 dX3_layAndGoOn_52 c24 q28 rfl rfl (Nat.le_of_ble_eq_true rfl) (Nat.le_of_ble_eq_true rfl) (Nat.le_of_ble_eq_true rfl) (fun r26 M25 p27 => ?_)
      have h := h r26 M25 p27
      refine z_max mm_X3_77 dX3_layAndGoOn_55 (Nat.le_of_ble_eq_true rfl) zr3 zr4 (Nat.le_of_ble_eq_true rfl) (Nat.le_of_ble_eq_true rfl) ?_
      obtain ⟨q34, h⟩ := h
      obtain ⟨P29, c30, h⟩ := h
      refine z_Vv (as := [vI (x2 + 1), vI (max x3 r26)]) mv_X3_31 dX3_layAndGoOn_58 c30 q34 rfl rfl (Nat.le_of_ble_eq_true rfl) (Nat.le_of_ble_eq_true rfl) (Nat.le_of_ble_eq_true rfl) (fun M31 p33 => ?_)
      have h := h M31 p33
      refine z_aload_n 1 dX3_layAndGoOn_61 rfl ?_
      obtain ⟨q35, h⟩ := h
      refine z_getR fl_X3_19 rfl dX3_layAndGoOn_62 q35 ?_
      refine z_aload_n 2 dX3_layAndGoOn_65 rfl ?_
      obtain ⟨b36, eb36, h⟩ := h
      rw [eb36]
      obtain ⟨q42, h⟩ := h
      obtain ⟨P37, c38, h⟩ := h
      refine z_Vv (as := [vR (some a1)]) mv_X3_87 dX3_layAndGoOn_66 c38 q42 rfl rfl (Nat.le_of_ble_eq_true rfl) (Nat.le_of_ble_eq_true rfl) (Nat.le_of_ble_eq_true rfl) (fun M39 p41 => ?_)
      have h := h M39 p41
      exact z_vret hr dX3_layAndGoOn_69 (Nat.le_of_ble_eq_true rfl) (Nat.le_of_ble_eq_true rfl) ⟨rfl, h⟩
    · have h := h.2 q13
      exact z_vret hr dX3_layAndGoOn_35 (Nat.le_of_ble_eq_true rfl) (Nat.le_of_ble_eq_true rfl) ⟨rfl, h⟩
theorem sX3_layAndGoOn {E : zE} {d : Nat} {P : zM → Prop} {M : zM} (a0 : Nat) (a1 : Nat) (x2 : Int) (x3 : Int) (h : ∀ X : zX, (xh X).sig.returnType = none → ZX3_layAndGoOn E d X P 0 [(0, vR (some a0)), (1, vR (some a1)), (2, vI x2), (3, vI x3)] [] M 0 0) : zCv E mX3_layAndGoOn (d + 1) 0 0 [vR (some a0), vR (some a1), vI x2, vI x3] M P := z_start (f := mX3_layAndGoOn) rfl (Nat.le_of_ble_eq_true rfl) rfl h
abbrev ZX3_keep (E : zE) (d : Nat) (X : zX) (P : zM → Prop) (pc : Nat) (Lc : List (Nat × zV)) (S : List zV) (M : zM) (ce sl : Nat) : Prop := zZ cX3_keep RX3 "keep" 3 E (zrm (d + 1) 0 0) X (zQ E (zPv P) X 0 0) pc Lc S M ce sl
set_option maxRecDepth 20000 in
theorem vX3_keep_0 {E : zE} {d : Nat} {X : zX} {P : zM → Prop} {M : zM} (hr : (xh X).sig.returnType = none) (a0 : Nat) (x1 : Int)
    (h : zK M a0 = (4, 5) ∧ ∀ M2, M2 = zsI M a0 4 x1 → ZX3_keep E d X P 7 [(0, vR (some a0)), (1, vI x1), (2, vI 0)] [] M2 0 0) :
    ZX3_keep E d X P 0 [(0, vR (some a0)), (1, vI x1)] [] M 0 0 := by
  refine z_aload_n 0 dX3_keep_0 rfl ?_
  refine z_iload_n 1 dX3_keep_1 rfl ?_
  obtain ⟨q1, h⟩ := h
  refine z_putI fl_X3_27 (Or.inl rfl) dX3_keep_2 q1 ?_
  obtain ⟨M2, hmM2⟩ : ∃ z, z = zsI M a0 4 x1 := ⟨_, rfl⟩
  rw [← hmM2]
  have h := h M2 hmM2
  refine z_iconst dX3_keep_5 (by decide) ?_
  refine z_istore_n dX3_keep_6 (by decide) rfl ?_
  exact z_sub [1, 2, 0] rfl h
set_option maxRecDepth 20000 in
theorem vX3_keep_7 {E : zE} {d : Nat} {X : zX} {P : zM → Prop} {M : zM} (hr : (xh X).sig.returnType = none) (a0 : Nat) (x1 : Int) (x2 : Int)
    (h : zK M a0 = (4, 5) ∧ ∃ b2, zR M a0 1 = some b2 ∧ zK M b2 = (3, 6) ∧ (((zI M b2 4) ≤ x2 → P M) ∧ (x2 < (zI M b2 4) → ((6 ≤ x2 → P M) ∧ (x2 < 6 → zK M a0 = (4, 5) ∧ zK M a0 = (4, 5) ∧ zK M b2 = (3, 6) ∧ ∃ b9, zR M b2 0 = some b9 ∧ ((zK M b9).1 = 12 ∨ (zK M b9).1 = 13) ∧ 0 ≤ x2 ∧ x2 < ((zK M b9).2 : Int) ∧ ∃ b13, zR M b9 x2 = some b13 ∧ zK M b13 = (6, 16) ∧ ∃ b15, zR M a0 0 = some b15 ∧ (zK M b15).1 = 9 ∧ 0 ≤ x2 ∧ x2 < ((zK M b15).2 : Int) ∧ ∀ M19, M19 = zsI M b15 x2 (zI M b13 8) → zin (x2 + 1) ∧ ZX3_keep E d X P 7 [(0, vR (some a0)), (1, vI x1), (2, vI (x2 + 1))] [] M19 0 0))))) :
    ZX3_keep E d X P 7 [(0, vR (some a0)), (1, vI x1), (2, vI x2)] [] M 0 0 := by
  refine z_iload_n 2 dX3_keep_7 rfl ?_
  refine z_aload_n 0 dX3_keep_8 rfl ?_
  obtain ⟨q1, h⟩ := h
  refine z_getR fl_X3_15 rfl dX3_keep_9 q1 ?_
  obtain ⟨b2, eb2, h⟩ := h
  rw [eb2]
  obtain ⟨q3, h⟩ := h
  refine z_getI fl_X3_35 dX3_keep_12 q3 ?_
  refine z_icmp_ge (tgt := 48) dX3_keep_15 (by decide) (fun q4 => ?_) (fun q4 => ?_)
  · have h := h.1 q4
    exact z_vret hr dX3_keep_48 (Nat.le_of_ble_eq_true rfl) (Nat.le_of_ble_eq_true rfl) ⟨rfl, h⟩
  · have h := h.2 q4
    refine z_iload_n 2 dX3_keep_18 rfl ?_
    refine z_bipush dX3_keep_19 (by decide) ?_
    refine z_icmp_ge (tgt := 48) dX3_keep_21 (by decide) (fun q5 => ?_) (fun q5 => ?_)
    · have h := h.1 q5
      exact z_vret hr dX3_keep_48 (Nat.le_of_ble_eq_true rfl) (Nat.le_of_ble_eq_true rfl) ⟨rfl, h⟩
    · have h := h.2 q5
      refine z_aload_n 0 dX3_keep_24 rfl ?_
      obtain ⟨q6, h⟩ := h
      refine z_getR fl_X3_9 rfl dX3_keep_25 q6 ?_
      refine z_iload_n 2 dX3_keep_28 rfl ?_
      refine z_aload_n 0 dX3_keep_29 rfl ?_
      obtain ⟨q7, h⟩ := h
      refine z_getR fl_X3_15 rfl dX3_keep_30 q7 ?_
      rw [eb2]
      obtain ⟨q8, h⟩ := h
      refine z_getR fl_X3_40 rfl dX3_keep_33 q8 ?_
      refine z_iload_n 2 dX3_keep_36 rfl ?_
      obtain ⟨b9, eb9, h⟩ := h
      rw [eb9]
      obtain ⟨q10, h⟩ := h
      obtain ⟨q11, h⟩ := h
      obtain ⟨q12, h⟩ := h
      refine z_aald dX3_keep_37 (n := (zK M b9).2) rfl q10 q11 q12 ?_
      obtain ⟨b13, eb13, h⟩ := h
      rw [eb13]
      obtain ⟨q14, h⟩ := h
      refine z_getI fl_X3_91 dX3_keep_38 q14 ?_
      obtain ⟨b15, eb15, h⟩ := h
      rw [eb15]
      obtain ⟨q16, h⟩ := h
      obtain ⟨q17, h⟩ := h
      obtain ⟨q18, h⟩ := h
      refine z_iast dX3_keep_41 (n := (zK M b15).2) (Prod.ext q16 rfl) q17 q18 ?_
      obtain ⟨M19, hmM19⟩ : ∃ z, z = zsI M b15 x2 (zI M b13 8) := ⟨_, rfl⟩
      rw [← hmM19]
      have h := h M19 hmM19
      obtain ⟨q20, h⟩ := h
      refine z_iinc 2 dX3_keep_42 rfl (by decide) q20 rfl ?_
      refine z_goto (tgt := 7) dX3_keep_45 (by decide) ?_
      exact z_sub [1, 2, 0] rfl h
theorem sX3_keep {E : zE} {d : Nat} {P : zM → Prop} {M : zM} (a0 : Nat) (x1 : Int) (h : ∀ X : zX, (xh X).sig.returnType = none → ZX3_keep E d X P 0 [(0, vR (some a0)), (1, vI x1)] [] M 0 0) : zCv E mX3_keep (d + 1) 0 0 [vR (some a0), vI x1] M P := z_start (f := mX3_keep) rfl (Nat.le_of_ble_eq_true rfl) rfl h
