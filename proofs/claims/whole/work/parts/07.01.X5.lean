abbrev ZX5_init (E : zE) (d : Nat) (X : zX) (P : zM → Prop) (pc : Nat) (Lc : List (Nat × zV)) (S : List zV) (M : zM) (ce sl : Nat) : Prop := zZ cX5_init RX5 "<init>" 4 E (zrm (d + 1) 0 0) X (zQ E (zPv P) X 0 0) pc Lc S M ce sl
set_option maxRecDepth 20000 in
theorem vX5_init_0 {E : zE} {d : Nat} {X : zX} {P : zM → Prop} {M : zM} (hr : (xh X).sig.returnType = none) (a0 : Nat) (x1 : Int) (x2 : Int) (x3 : Int)
    (h : zK M a0 = (6, 16) ∧ ∀ M2, M2 = zsI M a0 8 (-1) → zK M2 a0 = (6, 16) ∧ ∀ M4, M4 = zsI M2 a0 0 x1 → zK M4 a0 = (6, 16) ∧ ∀ M6, M6 = zsL M4 a0 1 (zbit x1) → zK M6 a0 = (6, 16) ∧ ∀ M8, M8 = zsI M6 a0 6 x3 → 0 < (100 : Int) ∧ zK M8 a0 = (6, 16) ∧ ∀ M11, M11 = zsI M8 a0 4 (Int.tmod x2 100) → 0 < (100 : Int) ∧ 0 < (10 : Int) ∧ zK M11 a0 = (6, 16) ∧ ∀ M15, M15 = zsI M11 a0 5 (Int.tmod (Int.tdiv x2 100) 10) → 0 < (1000 : Int) ∧ 0 < (10 : Int) ∧ zK M15 a0 = (6, 16) ∧ ∀ M19, M19 = zsI M15 a0 2 (Int.tmod (Int.tdiv x2 1000) 10) → 0 < (10000 : Int) ∧ 0 < (10 : Int) ∧ zK M19 a0 = (6, 16) ∧ ∀ M23, M23 = zsI M19 a0 3 (Int.tmod (Int.tdiv x2 10000) 10) → 0 < (100000 : Int) ∧ zK M23 a0 = (6, 16) ∧ ∀ M26, M26 = zsI M23 a0 7 (Int.tdiv x2 100000) → P M26) :
    ZX5_init E d X P 0 [(0, vR (some a0)), (1, vI x1), (2, vI x2), (3, vI x3)] [] M 0 0 := by
  refine z_aload_n 0 dX5_init_0 rfl ?_
  refine z_objInit oi_X5_3 dX5_init_1 (Nat.le_of_ble_eq_true rfl) zr3 zr5 ?_
  refine z_aload_n 0 dX5_init_4 rfl ?_
  refine z_iconst dX5_init_5 (by decide) ?_
  obtain ⟨q1, h⟩ := h
  refine z_putI fl_X5_9 (Or.inl rfl) dX5_init_6 q1 ?_
  obtain ⟨M2, hmM2⟩ : ∃ z, z = zsI M a0 8 (-1) := ⟨_, rfl⟩
  rw [← hmM2]
  have h := h M2 hmM2
  refine z_aload_n 0 dX5_init_9 rfl ?_
  refine z_iload_n 1 dX5_init_10 rfl ?_
  obtain ⟨q3, h⟩ := h
  refine z_putI fl_X5_15 (Or.inr ⟨rfl, rfl⟩) dX5_init_11 q3 ?_
  obtain ⟨M4, hmM4⟩ : ∃ z, z = zsI M2 a0 0 x1 := ⟨_, rfl⟩
  rw [← hmM4]
  have h := h M4 hmM4
  refine z_aload_n 0 dX5_init_14 rfl ?_
  refine z_lconst (v := 1) dX5_init_15 rfl ?_
  refine z_iload_n 1 dX5_init_16 rfl ?_
  refine z_lshl dX5_init_17 ?_
  obtain ⟨q5, h⟩ := h
  refine z_putL fl_X5_18 (Or.inr ⟨rfl, rfl⟩) dX5_init_18 q5 ?_
  obtain ⟨M6, hmM6⟩ : ∃ z, z = zsL M4 a0 1 (zbit x1) := ⟨_, rfl⟩
  rw [← hmM6]
  have h := h M6 hmM6
  refine z_aload_n 0 dX5_init_21 rfl ?_
  refine z_iload_n 3 dX5_init_22 rfl ?_
  obtain ⟨q7, h⟩ := h
  refine z_putI fl_X5_22 (Or.inr ⟨rfl, rfl⟩) dX5_init_23 q7 ?_
  obtain ⟨M8, hmM8⟩ : ∃ z, z = zsI M6 a0 6 x3 := ⟨_, rfl⟩
  rw [← hmM8]
  have h := h M8 hmM8
  refine z_aload_n 0 dX5_init_26 rfl ?_
  refine z_iload_n 2 dX5_init_27 rfl ?_
  refine z_bipush dX5_init_28 (by decide) ?_
  obtain ⟨q9, h⟩ := h
  refine z_irem dX5_init_30 q9 ?_
  obtain ⟨q10, h⟩ := h
  refine z_putI fl_X5_25 (Or.inr ⟨rfl, rfl⟩) dX5_init_31 q10 ?_
  obtain ⟨M11, hmM11⟩ : ∃ z, z = zsI M8 a0 4 (Int.tmod x2 100) := ⟨_, rfl⟩
  rw [← hmM11]
  have h := h M11 hmM11
  refine z_aload_n 0 dX5_init_34 rfl ?_
  refine z_iload_n 2 dX5_init_35 rfl ?_
  refine z_bipush dX5_init_36 (by decide) ?_
  obtain ⟨q12, h⟩ := h
  refine z_idiv dX5_init_38 q12 ?_
  refine z_bipush dX5_init_39 (by decide) ?_
  obtain ⟨q13, h⟩ := h
  refine z_irem dX5_init_41 q13 ?_
  obtain ⟨q14, h⟩ := h
  refine z_putI fl_X5_28 (Or.inr ⟨rfl, rfl⟩) dX5_init_42 q14 ?_
  obtain ⟨M15, hmM15⟩ : ∃ z, z = zsI M11 a0 5 (Int.tmod (Int.tdiv x2 100) 10) := ⟨_, rfl⟩
  rw [← hmM15]
  have h := h M15 hmM15
  refine z_aload_n 0 dX5_init_45 rfl ?_
  refine z_iload_n 2 dX5_init_46 rfl ?_
  refine z_sipush dX5_init_47 (by decide) ?_
  obtain ⟨q16, h⟩ := h
  refine z_idiv dX5_init_50 q16 ?_
  refine z_bipush dX5_init_51 (by decide) ?_
  obtain ⟨q17, h⟩ := h
  refine z_irem dX5_init_53 q17 ?_
  obtain ⟨q18, h⟩ := h
  refine z_putI fl_X5_31 (Or.inr ⟨rfl, rfl⟩) dX5_init_54 q18 ?_
  obtain ⟨M19, hmM19⟩ : ∃ z, z = zsI M15 a0 2 (Int.tmod (Int.tdiv x2 1000) 10) := ⟨_, rfl⟩
  rw [← hmM19]
  have h := h M19 hmM19
  refine z_aload_n 0 dX5_init_57 rfl ?_
  refine z_iload_n 2 dX5_init_58 rfl ?_
  refine z_sipush dX5_init_59 (by decide) ?_
  obtain ⟨q20, h⟩ := h
  refine z_idiv dX5_init_62 q20 ?_
  refine z_bipush dX5_init_63 (by decide) ?_
  obtain ⟨q21, h⟩ := h
  refine z_irem dX5_init_65 q21 ?_
  obtain ⟨q22, h⟩ := h
  refine z_putI fl_X5_34 (Or.inr ⟨rfl, rfl⟩) dX5_init_66 q22 ?_
  obtain ⟨M23, hmM23⟩ : ∃ z, z = zsI M19 a0 3 (Int.tmod (Int.tdiv x2 10000) 10) := ⟨_, rfl⟩
  rw [← hmM23]
  have h := h M23 hmM23
  refine z_aload_n 0 dX5_init_69 rfl ?_
  refine z_iload_n 2 dX5_init_70 rfl ?_
  refine z_ldc (n := 100000) dX5_init_71 kw_281 rfl (by decide) ?_
  obtain ⟨q24, h⟩ := h
  refine z_idiv dX5_init_73 q24 ?_
  obtain ⟨q25, h⟩ := h
  refine z_putI fl_X5_38 (Or.inl rfl) dX5_init_74 q25 ?_
  obtain ⟨M26, hmM26⟩ : ∃ z, z = zsI M23 a0 7 (Int.tdiv x2 100000) := ⟨_, rfl⟩
  rw [← hmM26]
  have h := h M26 hmM26
  exact z_vret hr dX5_init_77 (Nat.le_of_ble_eq_true rfl) (Nat.le_of_ble_eq_true rfl) ⟨rfl, h⟩
theorem sX5_init {E : zE} {d : Nat} {P : zM → Prop} {M : zM} (a0 : Nat) (x1 : Int) (x2 : Int) (x3 : Int) (h : ∀ X : zX, (xh X).sig.returnType = none → ZX5_init E d X P 0 [(0, vR (some a0)), (1, vI x1), (2, vI x2), (3, vI x3)] [] M 0 0) : zCv E mX5_init (d + 1) 0 0 [vR (some a0), vI x1, vI x2, vI x3] M P := z_start (f := mX5_init) rfl (Nat.le_of_ble_eq_true rfl) rfl h
abbrev ZX5_isOpen (E : zE) (d : Nat) (X : zX) (P : Int → zM → Prop) (pc : Nat) (Lc : List (Nat × zV)) (S : List zV) (M : zM) (ce sl : Nat) : Prop := zZ cX5_isOpen RX5 "isOpen" 1 E (zrm (d + 1) 0 0) X (zQ E (zPi P) X 0 0) pc Lc S M ce sl
set_option maxRecDepth 20000 in
theorem vX5_isOpen_0 {E : zE} {d : Nat} {X : zX} {P : Int → zM → Prop} {M : zM} (hr : (xh X).sig.returnType = (some .boolean)) (a0 : Nat)
    (h : zK M a0 = (6, 16) ∧ (((zI M a0 8) ≠ (-1) → P 0 M) ∧ ((zI M a0 8) = (-1) → P 1 M))) :
    ZX5_isOpen E d X P 0 [(0, vR (some a0))] [] M 0 0 := by
  refine z_aload_n 0 dX5_isOpen_0 rfl ?_
  obtain ⟨q1, h⟩ := h
  refine z_getI fl_X5_9 dX5_isOpen_1 q1 ?_
  refine z_iconst dX5_isOpen_4 (by decide) ?_
  refine z_icmp_ne (tgt := 12) dX5_isOpen_5 (by decide) (fun q2 => ?_) (fun q2 => ?_)
  · have h := h.1 q2
    refine z_iconst dX5_isOpen_12 (by decide) ?_
    exact z_zret hr dX5_isOpen_13 (Nat.le_of_ble_eq_true rfl) (Nat.le_of_ble_eq_true rfl) (by decide) ⟨_, rfl, h⟩
  · have h := h.2 q2
    refine z_iconst dX5_isOpen_8 (by decide) ?_
    refine z_goto (tgt := 13) dX5_isOpen_9 (by decide) ?_
    exact z_zret hr dX5_isOpen_13 (Nat.le_of_ble_eq_true rfl) (Nat.le_of_ble_eq_true rfl) (by decide) ⟨_, rfl, h⟩
theorem sX5_isOpen {E : zE} {d : Nat} {P : Int → zM → Prop} {M : zM} (a0 : Nat) (h : ∀ X : zX, (xh X).sig.returnType = (some .boolean) → ZX5_isOpen E d X P 0 [(0, vR (some a0))] [] M 0 0) : zCi E mX5_isOpen (d + 1) 0 0 [vR (some a0)] M P := z_start (f := mX5_isOpen) rfl (Nat.le_of_ble_eq_true rfl) rfl h
abbrev ZX5_behind (E : zE) (d : Nat) (X : zX) (P : Int → zM → Prop) (pc : Nat) (Lc : List (Nat × zV)) (S : List zV) (M : zM) (ce sl : Nat) : Prop := zZ cX5_behind RX5 "behind" 1 E (zrm (d + 1) 0 0) X (zQ E (zPi P) X 0 0) pc Lc S M ce sl
set_option maxRecDepth 20000 in
theorem vX5_behind_0 {E : zE} {d : Nat} {X : zX} {P : Int → zM → Prop} {M : zM} (hr : (xh X).sig.returnType = (some .int)) (a0 : Nat)
    (h : zK M a0 = (6, 16) ∧ zK M a0 = (6, 16) ∧ zin ((zI M a0 8) + (zI M a0 7)) ∧ P ((zI M a0 8) + (zI M a0 7)) M) :
    ZX5_behind E d X P 0 [(0, vR (some a0))] [] M 0 0 := by
  refine z_aload_n 0 dX5_behind_0 rfl ?_
  obtain ⟨q1, h⟩ := h
  refine z_getI fl_X5_9 dX5_behind_1 q1 ?_
  refine z_aload_n 0 dX5_behind_4 rfl ?_
  obtain ⟨q2, h⟩ := h
  refine z_getI fl_X5_38 dX5_behind_5 q2 ?_
  obtain ⟨q3, h⟩ := h
  refine z_iadd dX5_behind_8 q3 ?_
  exact z_iret hr dX5_behind_9 (Nat.le_of_ble_eq_true rfl) (Nat.le_of_ble_eq_true rfl) ⟨_, rfl, h⟩
theorem sX5_behind {E : zE} {d : Nat} {P : Int → zM → Prop} {M : zM} (a0 : Nat) (h : ∀ X : zX, (xh X).sig.returnType = (some .int) → ZX5_behind E d X P 0 [(0, vR (some a0))] [] M 0 0) : zCi E mX5_behind (d + 1) 0 0 [vR (some a0)] M P := z_start (f := mX5_behind) rfl (Nat.le_of_ble_eq_true rfl) rfl h
abbrev ZX5_hasBegun (E : zE) (d : Nat) (X : zX) (P : Int → zM → Prop) (pc : Nat) (Lc : List (Nat × zV)) (S : List zV) (M : zM) (ce sl : Nat) : Prop := zZ cX5_hasBegun RX5 "hasBegun" 2 E (zrm (d + 1) 0 0) X (zQ E (zPi P) X 0 0) pc Lc S M ce sl
set_option maxRecDepth 20000 in
theorem vX5_hasBegun_0 {E : zE} {d : Nat} {X : zX} {P : Int → zM → Prop} {M : zM} (hr : (xh X).sig.returnType = (some .boolean)) (a0 : Nat) (x1 : Int)
    (h : zK M a0 = (6, 16) ∧ ∃ P1 : Int → zM → Prop, zCi E mX5_isOpen d 0 0 [vR (some a0)] M P1 ∧ ∀ r4 M3, P1 r4 M3 → ((r4 ≠ 0 → P 0 M3) ∧ (r4 = 0 → zK M3 a0 = (6, 16) ∧ ((x1 ≤ (zI M3 a0 8) → P 0 M3) ∧ ((zI M3 a0 8) < x1 → P 1 M3))))) :
    ZX5_hasBegun E d X P 0 [(0, vR (some a0)), (1, vI x1)] [] M 0 0 := by
  refine z_aload_n 0 dX5_hasBegun_0 rfl ?_
  obtain ⟨q6, h⟩ := h
  obtain ⟨P1, c2, h⟩ := h
  refine z_Vi (as := []) mv_X5_41 dX5_hasBegun_1 c2 q6 rfl rfl (Nat.le_of_ble_eq_true rfl) (Nat.le_of_ble_eq_true rfl) (Nat.le_of_ble_eq_true rfl) (fun r4 M3 p5 => ?_)
  have h := h r4 M3 p5
  refine z_if_ne (tgt := 19) dX5_hasBegun_4 (by decide) (fun q7 => ?_) (fun q7 => ?_)
  · have h := h.1 q7
    refine z_iconst dX5_hasBegun_19 (by decide) ?_
    exact z_zret hr dX5_hasBegun_20 (Nat.le_of_ble_eq_true rfl) (Nat.le_of_ble_eq_true rfl) (by decide) ⟨_, rfl, h⟩
  · have h := h.2 q7
    refine z_aload_n 0 dX5_hasBegun_7 rfl ?_
    obtain ⟨q8, h⟩ := h
    refine z_getI fl_X5_9 dX5_hasBegun_8 q8 ?_
    refine z_iload_n 1 dX5_hasBegun_11 rfl ?_
    refine z_icmp_ge (tgt := 19) dX5_hasBegun_12 (by decide) (fun q9 => ?_) (fun q9 => ?_)
    · have h := h.1 q9
      refine z_iconst dX5_hasBegun_19 (by decide) ?_
      exact z_zret hr dX5_hasBegun_20 (Nat.le_of_ble_eq_true rfl) (Nat.le_of_ble_eq_true rfl) (by decide) ⟨_, rfl, h⟩
    · have h := h.2 q9
      refine z_iconst dX5_hasBegun_15 (by decide) ?_
      refine z_goto (tgt := 20) dX5_hasBegun_16 (by decide) ?_
      exact z_zret hr dX5_hasBegun_20 (Nat.le_of_ble_eq_true rfl) (Nat.le_of_ble_eq_true rfl) (by decide) ⟨_, rfl, h⟩
theorem sX5_hasBegun {E : zE} {d : Nat} {P : Int → zM → Prop} {M : zM} (a0 : Nat) (x1 : Int) (h : ∀ X : zX, (xh X).sig.returnType = (some .boolean) → ZX5_hasBegun E d X P 0 [(0, vR (some a0)), (1, vI x1)] [] M 0 0) : zCi E mX5_hasBegun (d + 1) 0 0 [vR (some a0), vI x1] M P := z_start (f := mX5_hasBegun) rfl (Nat.le_of_ble_eq_true rfl) rfl h
abbrev ZX5_isDone (E : zE) (d : Nat) (X : zX) (P : Int → zM → Prop) (pc : Nat) (Lc : List (Nat × zV)) (S : List zV) (M : zM) (ce sl : Nat) : Prop := zZ cX5_isDone RX5 "isDone" 2 E (zrm (d + 1) 0 0) X (zQ E (zPi P) X 0 0) pc Lc S M ce sl
set_option maxRecDepth 20000 in
theorem vX5_isDone_0 {E : zE} {d : Nat} {X : zX} {P : Int → zM → Prop} {M : zM} (hr : (xh X).sig.returnType = (some .boolean)) (a0 : Nat) (x1 : Int)
    (h : zK M a0 = (6, 16) ∧ ∃ P1 : Int → zM → Prop, zCi E mX5_isOpen d 0 0 [vR (some a0)] M P1 ∧ ∀ r4 M3, P1 r4 M3 → ((r4 ≠ 0 → P 0 M3) ∧ (r4 = 0 → zK M3 a0 = (6, 16) ∧ ∃ P8 : Int → zM → Prop, zCi E mX5_behind d 0 0 [vR (some a0)] M3 P8 ∧ ∀ r11 M10, P8 r11 M10 → ((x1 < r11 → P 0 M10) ∧ (r11 ≤ x1 → P 1 M10))))) :
    ZX5_isDone E d X P 0 [(0, vR (some a0)), (1, vI x1)] [] M 0 0 := by
  refine z_aload_n 0 dX5_isDone_0 rfl ?_
  obtain ⟨q6, h⟩ := h
  obtain ⟨P1, c2, h⟩ := h
  refine z_Vi (as := []) mv_X5_41 dX5_isDone_1 c2 q6 rfl rfl (Nat.le_of_ble_eq_true rfl) (Nat.le_of_ble_eq_true rfl) (Nat.le_of_ble_eq_true rfl) (fun r4 M3 p5 => ?_)
  have h := h r4 M3 p5
  refine z_if_ne (tgt := 19) dX5_isDone_4 (by decide) (fun q7 => ?_) (fun q7 => ?_)
  · have h := h.1 q7
    refine z_iconst dX5_isDone_19 (by decide) ?_
    exact z_zret hr dX5_isDone_20 (Nat.le_of_ble_eq_true rfl) (Nat.le_of_ble_eq_true rfl) (by decide) ⟨_, rfl, h⟩
  · have h := h.2 q7
    refine z_aload_n 0 dX5_isDone_7 rfl ?_
    obtain ⟨q13, h⟩ := h
    obtain ⟨P8, c9, h⟩ := h
    refine z_Vi (as := []) mv_X5_45 dX5_isDone_8 c9 q13 rfl rfl (Nat.le_of_ble_eq_true rfl) (Nat.le_of_ble_eq_true rfl) (Nat.le_of_ble_eq_true rfl) (fun r11 M10 p12 => ?_)
    have h := h r11 M10 p12
    refine z_iload_n 1 dX5_isDone_11 rfl ?_
    refine z_icmp_gt (tgt := 19) dX5_isDone_12 (by decide) (fun q14 => ?_) (fun q14 => ?_)
    · have h := h.1 q14
      refine z_iconst dX5_isDone_19 (by decide) ?_
      exact z_zret hr dX5_isDone_20 (Nat.le_of_ble_eq_true rfl) (Nat.le_of_ble_eq_true rfl) (by decide) ⟨_, rfl, h⟩
    · have h := h.2 q14
      refine z_iconst dX5_isDone_15 (by decide) ?_
      refine z_goto (tgt := 20) dX5_isDone_16 (by decide) ?_
      exact z_zret hr dX5_isDone_20 (Nat.le_of_ble_eq_true rfl) (Nat.le_of_ble_eq_true rfl) (by decide) ⟨_, rfl, h⟩
theorem sX5_isDone {E : zE} {d : Nat} {P : Int → zM → Prop} {M : zM} (a0 : Nat) (x1 : Int) (h : ∀ X : zX, (xh X).sig.returnType = (some .boolean) → ZX5_isDone E d X P 0 [(0, vR (some a0)), (1, vI x1)] [] M 0 0) : zCi E mX5_isDone (d + 1) 0 0 [vR (some a0), vI x1] M P := z_start (f := mX5_isDone) rfl (Nat.le_of_ble_eq_true rfl) rfl h
abbrev ZX5_leansOn (E : zE) (d : Nat) (X : zX) (P : Int → zM → Prop) (pc : Nat) (Lc : List (Nat × zV)) (S : List zV) (M : zM) (ce sl : Nat) : Prop := zZ cX5_leansOn RX5 "leansOn" 2 E (zrm (d + 1) 0 0) X (zQ E (zPi P) X 0 0) pc Lc S M ce sl
set_option maxRecDepth 20000 in
theorem vX5_leansOn_0 {E : zE} {d : Nat} {X : zX} {P : Int → zM → Prop} {M : zM} (hr : (xh X).sig.returnType = (some .boolean)) (a0 : Nat) (a1 : Nat)
    (h : zK M a0 = (6, 16) ∧ zK M a1 = (6, 16) ∧ (((if (0 : Int64) < ((zL M a0 12) &&& (zL M a1 1)) then 1 else if ((zL M a0 12) &&& (zL M a1 1)) = (0 : Int64) then 0 else -1) = 0 → P 0 M) ∧ ((if (0 : Int64) < ((zL M a0 12) &&& (zL M a1 1)) then 1 else if ((zL M a0 12) &&& (zL M a1 1)) = (0 : Int64) then 0 else -1) ≠ 0 → P 1 M))) :
    ZX5_leansOn E d X P 0 [(0, vR (some a0)), (1, vR (some a1))] [] M 0 0 := by
  refine z_aload_n 0 dX5_leansOn_0 rfl ?_
  obtain ⟨q1, h⟩ := h
  refine z_getL fl_X5_49 dX5_leansOn_1 q1 ?_
  refine z_aload_n 1 dX5_leansOn_4 rfl ?_
  obtain ⟨q2, h⟩ := h
  refine z_getL fl_X5_18 dX5_leansOn_5 q2 ?_
  refine z_land dX5_leansOn_8 ?_
  refine z_lconst (v := 0) dX5_leansOn_9 rfl ?_
  refine z_lcmp dX5_leansOn_10 ?_
  refine z_if_eq (tgt := 18) dX5_leansOn_11 (by decide) (fun q3 => ?_) (fun q3 => ?_)
  · have h := h.1 q3
    refine z_iconst dX5_leansOn_18 (by decide) ?_
    exact z_zret hr dX5_leansOn_19 (Nat.le_of_ble_eq_true rfl) (Nat.le_of_ble_eq_true rfl) (by decide) ⟨_, rfl, h⟩
  · have h := h.2 q3
    refine z_iconst dX5_leansOn_14 (by decide) ?_
    refine z_goto (tgt := 19) dX5_leansOn_15 (by decide) ?_
    exact z_zret hr dX5_leansOn_19 (Nat.le_of_ble_eq_true rfl) (Nat.le_of_ble_eq_true rfl) (by decide) ⟨_, rfl, h⟩
theorem sX5_leansOn {E : zE} {d : Nat} {P : Int → zM → Prop} {M : zM} (a0 : Nat) (a1 : Nat) (h : ∀ X : zX, (xh X).sig.returnType = (some .boolean) → ZX5_leansOn E d X P 0 [(0, vR (some a0)), (1, vR (some a1))] [] M 0 0) : zCi E mX5_leansOn (d + 1) 0 0 [vR (some a0), vR (some a1)] M P := z_start (f := mX5_leansOn) rfl (Nat.le_of_ble_eq_true rfl) rfl h
abbrev ZX5_hangsOn (E : zE) (d : Nat) (X : zX) (P : Int → zM → Prop) (pc : Nat) (Lc : List (Nat × zV)) (S : List zV) (M : zM) (ce sl : Nat) : Prop := zZ cX5_hangsOn RX5 "hangsOn" 2 E (zrm (d + 1) 0 0) X (zQ E (zPi P) X 0 0) pc Lc S M ce sl
set_option maxRecDepth 20000 in
theorem vX5_hangsOn_0 {E : zE} {d : Nat} {X : zX} {P : Int → zM → Prop} {M : zM} (hr : (xh X).sig.returnType = (some .boolean)) (a0 : Nat) (a1 : Nat)
    (h : zK M a0 = (6, 16) ∧ zK M a1 = (6, 16) ∧ (((if (0 : Int64) < ((zL M a0 13) &&& (zL M a1 1)) then 1 else if ((zL M a0 13) &&& (zL M a1 1)) = (0 : Int64) then 0 else -1) = 0 → P 0 M) ∧ ((if (0 : Int64) < ((zL M a0 13) &&& (zL M a1 1)) then 1 else if ((zL M a0 13) &&& (zL M a1 1)) = (0 : Int64) then 0 else -1) ≠ 0 → P 1 M))) :
    ZX5_hangsOn E d X P 0 [(0, vR (some a0)), (1, vR (some a1))] [] M 0 0 := by
  refine z_aload_n 0 dX5_hangsOn_0 rfl ?_
  obtain ⟨q1, h⟩ := h
  refine z_getL fl_X5_52 dX5_hangsOn_1 q1 ?_
  refine z_aload_n 1 dX5_hangsOn_4 rfl ?_
  obtain ⟨q2, h⟩ := h
  refine z_getL fl_X5_18 dX5_hangsOn_5 q2 ?_
  refine z_land dX5_hangsOn_8 ?_
  refine z_lconst (v := 0) dX5_hangsOn_9 rfl ?_
  refine z_lcmp dX5_hangsOn_10 ?_
  refine z_if_eq (tgt := 18) dX5_hangsOn_11 (by decide) (fun q3 => ?_) (fun q3 => ?_)
  · have h := h.1 q3
    refine z_iconst dX5_hangsOn_18 (by decide) ?_
    exact z_zret hr dX5_hangsOn_19 (Nat.le_of_ble_eq_true rfl) (Nat.le_of_ble_eq_true rfl) (by decide) ⟨_, rfl, h⟩
  · have h := h.2 q3
    refine z_iconst dX5_hangsOn_14 (by decide) ?_
    refine z_goto (tgt := 19) dX5_hangsOn_15 (by decide) ?_
    exact z_zret hr dX5_hangsOn_19 (Nat.le_of_ble_eq_true rfl) (Nat.le_of_ble_eq_true rfl) (by decide) ⟨_, rfl, h⟩
theorem sX5_hangsOn {E : zE} {d : Nat} {P : Int → zM → Prop} {M : zM} (a0 : Nat) (a1 : Nat) (h : ∀ X : zX, (xh X).sig.returnType = (some .boolean) → ZX5_hangsOn E d X P 0 [(0, vR (some a0)), (1, vR (some a1))] [] M 0 0) : zCi E mX5_hangsOn (d + 1) 0 0 [vR (some a0), vR (some a1)] M P := z_start (f := mX5_hangsOn) rfl (Nat.le_of_ble_eq_true rfl) rfl h
abbrev ZX5_isReady (E : zE) (d : Nat) (X : zX) (P : Int → zM → Prop) (pc : Nat) (Lc : List (Nat × zV)) (S : List zV) (M : zM) (ce sl : Nat) : Prop := zZ cX5_isReady RX5 "isReady" 3 E (zrm (d + 1) 0 0) X (zQ E (zPi P) X 0 0) pc Lc S M ce sl
set_option maxRecDepth 20000 in
theorem vX5_isReady_0 {E : zE} {d : Nat} {X : zX} {P : Int → zM → Prop} {M : zM} (hr : (xh X).sig.returnType = (some .boolean)) (a0 : Nat) (l1 : Int64)
    (h : zK M a0 = (6, 16) ∧ ∃ P1 : Int → zM → Prop, zCi E mX5_isOpen d 0 0 [vR (some a0)] M P1 ∧ ∀ r4 M3, P1 r4 M3 → ((r4 = 0 → P 0 M3) ∧ (r4 ≠ 0 → zK M3 a0 = (6, 16) ∧ (((if (0 : Int64) < ((zL M3 a0 12) &&& (l1 ^^^ (-1 : Int64))) then 1 else if ((zL M3 a0 12) &&& (l1 ^^^ (-1 : Int64))) = (0 : Int64) then 0 else -1) ≠ 0 → P 0 M3) ∧ ((if (0 : Int64) < ((zL M3 a0 12) &&& (l1 ^^^ (-1 : Int64))) then 1 else if ((zL M3 a0 12) &&& (l1 ^^^ (-1 : Int64))) = (0 : Int64) then 0 else -1) = 0 → P 1 M3))))) :
    ZX5_isReady E d X P 0 [(0, vR (some a0)), (1, vL l1)] [] M 0 0 := by
  refine z_aload_n 0 dX5_isReady_0 rfl ?_
  obtain ⟨q6, h⟩ := h
  obtain ⟨P1, c2, h⟩ := h
  refine z_Vi (as := []) mv_X5_41 dX5_isReady_1 c2 q6 rfl rfl (Nat.le_of_ble_eq_true rfl) (Nat.le_of_ble_eq_true rfl) (Nat.le_of_ble_eq_true rfl) (fun r4 M3 p5 => ?_)
  have h := h r4 M3 p5
  refine z_if_eq (tgt := 26) dX5_isReady_4 (by decide) (fun q7 => ?_) (fun q7 => ?_)
  · have h := h.1 q7
    refine z_iconst dX5_isReady_26 (by decide) ?_
    exact z_zret hr dX5_isReady_27 (Nat.le_of_ble_eq_true rfl) (Nat.le_of_ble_eq_true rfl) (by decide) ⟨_, rfl, h⟩
  · have h := h.2 q7
    refine z_aload_n 0 dX5_isReady_7 rfl ?_
    obtain ⟨q8, h⟩ := h
    refine z_getL fl_X5_49 dX5_isReady_8 q8 ?_
    refine z_lload_n 1 dX5_isReady_11 rfl ?_
    refine z_ldc2 dX5_isReady_12 kw_578 ?_
    refine z_lxor dX5_isReady_15 ?_
    refine z_land dX5_isReady_16 ?_
    refine z_lconst (v := 0) dX5_isReady_17 rfl ?_
    refine z_lcmp dX5_isReady_18 ?_
    refine z_if_ne (tgt := 26) dX5_isReady_19 (by decide) (fun q9 => ?_) (fun q9 => ?_)
    · have h := h.1 q9
      refine z_iconst dX5_isReady_26 (by decide) ?_
      exact z_zret hr dX5_isReady_27 (Nat.le_of_ble_eq_true rfl) (Nat.le_of_ble_eq_true rfl) (by decide) ⟨_, rfl, h⟩
    · have h := h.2 q9
      refine z_iconst dX5_isReady_22 (by decide) ?_
      refine z_goto (tgt := 27) dX5_isReady_23 (by decide) ?_
      exact z_zret hr dX5_isReady_27 (Nat.le_of_ble_eq_true rfl) (Nat.le_of_ble_eq_true rfl) (by decide) ⟨_, rfl, h⟩
theorem sX5_isReady {E : zE} {d : Nat} {P : Int → zM → Prop} {M : zM} (a0 : Nat) (l1 : Int64) (h : ∀ X : zX, (xh X).sig.returnType = (some .boolean) → ZX5_isReady E d X P 0 [(0, vR (some a0)), (1, vL l1)] [] M 0 0) : zCi E mX5_isReady (d + 1) 0 0 [vR (some a0), vL l1] M P := z_start (f := mX5_isReady) rfl (Nat.le_of_ble_eq_true rfl) rfl h
abbrev ZX5_wholeWay (E : zE) (d : Nat) (X : zX) (P : Int → zM → Prop) (pc : Nat) (Lc : List (Nat × zV)) (S : List zV) (M : zM) (ce sl : Nat) : Prop := zZ cX5_wholeWay RX5 "wholeWay" 1 E (zrm (d + 1) 0 0) X (zQ E (zPi P) X 0 0) pc Lc S M ce sl
set_option maxRecDepth 20000 in
theorem vX5_wholeWay_0 {E : zE} {d : Nat} {X : zX} {P : Int → zM → Prop} {M : zM} (hr : (xh X).sig.returnType = (some .int)) (a0 : Nat)
    (h : zK M a0 = (6, 16) ∧ zK M a0 = (6, 16) ∧ zin ((zI M a0 10) + (zI M a0 7)) ∧ zK M a0 = (6, 16) ∧ zin (((zI M a0 10) + (zI M a0 7)) + (zI M a0 11)) ∧ P (((zI M a0 10) + (zI M a0 7)) + (zI M a0 11)) M) :
    ZX5_wholeWay E d X P 0 [(0, vR (some a0))] [] M 0 0 := by
  refine z_aload_n 0 dX5_wholeWay_0 rfl ?_
  obtain ⟨q1, h⟩ := h
  refine z_getI fl_X5_57 dX5_wholeWay_1 q1 ?_
  refine z_aload_n 0 dX5_wholeWay_4 rfl ?_
  obtain ⟨q2, h⟩ := h
  refine z_getI fl_X5_38 dX5_wholeWay_5 q2 ?_
  obtain ⟨q3, h⟩ := h
  refine z_iadd dX5_wholeWay_8 q3 ?_
  refine z_aload_n 0 dX5_wholeWay_9 rfl ?_
  obtain ⟨q4, h⟩ := h
  refine z_getI fl_X5_60 dX5_wholeWay_10 q4 ?_
  obtain ⟨q5, h⟩ := h
  refine z_iadd dX5_wholeWay_13 q5 ?_
  exact z_iret hr dX5_wholeWay_14 (Nat.le_of_ble_eq_true rfl) (Nat.le_of_ble_eq_true rfl) ⟨_, rfl, h⟩
theorem sX5_wholeWay {E : zE} {d : Nat} {P : Int → zM → Prop} {M : zM} (a0 : Nat) (h : ∀ X : zX, (xh X).sig.returnType = (some .int) → ZX5_wholeWay E d X P 0 [(0, vR (some a0))] [] M 0 0) : zCi E mX5_wholeWay (d + 1) 0 0 [vR (some a0)] M P := z_start (f := mX5_wholeWay) rfl (Nat.le_of_ble_eq_true rfl) rfl h
