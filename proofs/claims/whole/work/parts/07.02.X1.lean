abbrev ZX1_init (E : zE) (d : Nat) (X : zX) (P : zM → Prop) (pc : Nat) (Lc : List (Nat × zV)) (S : List zV) (M : zM) (ce sl : Nat) : Prop := zZ cX1_init RX1 "<init>" 1 E (zrm (d + 1) 3 55) X (zQ E (zPv P) X 3 55) pc Lc S M ce sl
set_option maxRecDepth 20000 in
theorem vX1_init_0 {E : zE} {d : Nat} {X : zX} {P : zM → Prop} {M : zM} (hr : (xh X).sig.returnType = none) (a0 : Nat)
    (h : ∀ M1, M1 = znew M 9 20 → zK M1 a0 = (2, 5) ∧ ∀ M3, M3 = zsR M1 a0 0 (some (zsz M)) → ∀ M4, M4 = znew M3 9 20 → zK M4 a0 = (2, 5) ∧ ∀ M6, M6 = zsR M4 a0 1 (some (zsz M3)) → ∀ M7, M7 = znew M6 9 15 → zK M7 a0 = (2, 5) ∧ ∀ M9, M9 = zsR M7 a0 2 (some (zsz M6)) → P M9) :
    ZX1_init E d X P 0 [(0, vR (some a0))] [] M 0 0 := by
  refine z_aload_n 0 dX1_init_0 rfl ?_
  refine z_objInit oi_X1_3 dX1_init_1 (Nat.le_of_ble_eq_true rfl) zr3 zr5 ?_
  refine z_aload_n 0 dX1_init_4 rfl ?_
  refine z_bipush dX1_init_5 (by decide) ?_
  refine z_newa (at_ := .int) (tg := 9) (n := 20) (by simp) kw_80 dX1_init_7 rfl (by decide) (Nat.le_of_ble_eq_true rfl) (Nat.le_of_ble_eq_true rfl) ?_
  obtain ⟨M1, hmM1⟩ : ∃ z, z = znew M 9 20 := ⟨_, rfl⟩
  rw [← hmM1]
  have h := h M1 hmM1
  obtain ⟨q2, h⟩ := h
  refine z_putR fl_X1_9 rfl (Or.inr ⟨rfl, rfl⟩) dX1_init_9 q2 ?_
  obtain ⟨M3, hmM3⟩ : ∃ z, z = zsR M1 a0 0 (some (zsz M)) := ⟨_, rfl⟩
  rw [← hmM3]
  have h := h M3 hmM3
  refine z_aload_n 0 dX1_init_12 rfl ?_
  refine z_bipush dX1_init_13 (by decide) ?_
  refine z_newa (at_ := .int) (tg := 9) (n := 20) (by simp) kw_80 dX1_init_15 rfl (by decide) (Nat.le_of_ble_eq_true rfl) (Nat.le_of_ble_eq_true rfl) ?_
  obtain ⟨M4, hmM4⟩ : ∃ z, z = znew M3 9 20 := ⟨_, rfl⟩
  rw [← hmM4]
  have h := h M4 hmM4
  obtain ⟨q5, h⟩ := h
  refine z_putR fl_X1_15 rfl (Or.inr ⟨rfl, rfl⟩) dX1_init_17 q5 ?_
  obtain ⟨M6, hmM6⟩ : ∃ z, z = zsR M4 a0 1 (some (zsz M3)) := ⟨_, rfl⟩
  rw [← hmM6]
  have h := h M6 hmM6
  refine z_aload_n 0 dX1_init_20 rfl ?_
  refine z_bipush dX1_init_21 (by decide) ?_
  refine z_newa (at_ := .int) (tg := 9) (n := 15) (by simp) kw_80 dX1_init_23 rfl (by decide) (Nat.le_of_ble_eq_true rfl) (Nat.le_of_ble_eq_true rfl) ?_
  obtain ⟨M7, hmM7⟩ : ∃ z, z = znew M6 9 15 := ⟨_, rfl⟩
  rw [← hmM7]
  have h := h M7 hmM7
  obtain ⟨q8, h⟩ := h
  refine z_putR fl_X1_18 rfl (Or.inr ⟨rfl, rfl⟩) dX1_init_25 q8 ?_
  obtain ⟨M9, hmM9⟩ : ∃ z, z = zsR M7 a0 2 (some (zsz M6)) := ⟨_, rfl⟩
  rw [← hmM9]
  have h := h M9 hmM9
  exact z_vret hr dX1_init_28 (Nat.le_of_ble_eq_true rfl) (Nat.le_of_ble_eq_true rfl) ⟨rfl, h⟩
theorem sX1_init {E : zE} {d : Nat} {P : zM → Prop} {M : zM} (a0 : Nat) (h : ∀ X : zX, (xh X).sig.returnType = none → ZX1_init E d X P 0 [(0, vR (some a0))] [] M 0 0) : zCv E mX1_init (d + 1) 3 55 [vR (some a0)] M P := z_start (f := mX1_init) rfl (Nat.le_of_ble_eq_true rfl) rfl h
abbrev ZX1_addSpace (E : zE) (d : Nat) (X : zX) (P : Int → zM → Prop) (pc : Nat) (Lc : List (Nat × zV)) (S : List zV) (M : zM) (ce sl : Nat) : Prop := zZ cX1_addSpace RX1 "addSpace" 2 E (zrm (d + 1) 0 0) X (zQ E (zPi P) X 0 0) pc Lc S M ce sl
set_option maxRecDepth 20000 in
theorem vX1_addSpace_0 {E : zE} {d : Nat} {X : zX} {P : Int → zM → Prop} {M : zM} (hr : (xh X).sig.returnType = (some .int)) (a0 : Nat) (x1 : Int)
    (h : zK M a0 = (2, 5) ∧ zK M a0 = (2, 5) ∧ ∃ b3, zR M a0 0 = some b3 ∧ (zK M b3).1 = 9 ∧ 0 ≤ (zI M a0 3) ∧ (zI M a0 3) < ((zK M b3).2 : Int) ∧ ∀ M7, M7 = zsI M b3 (zI M a0 3) x1 → zK M7 a0 = (2, 5) ∧ zin ((zI M7 a0 3) + 1) ∧ zK M7 a0 = (2, 5) ∧ ∀ M11, M11 = zsI M7 a0 3 ((zI M7 a0 3) + 1) → zK M11 a0 = (2, 5) ∧ zin ((zI M11 a0 3) - 1) ∧ P ((zI M11 a0 3) - 1) M11) :
    ZX1_addSpace E d X P 0 [(0, vR (some a0)), (1, vI x1)] [] M 0 0 := by
  refine z_aload_n 0 dX1_addSpace_0 rfl ?_
  obtain ⟨q1, h⟩ := h
  refine z_getR fl_X1_9 rfl dX1_addSpace_1 q1 ?_
  refine z_aload_n 0 dX1_addSpace_4 rfl ?_
  obtain ⟨q2, h⟩ := h
  refine z_getI fl_X1_21 dX1_addSpace_5 q2 ?_
  refine z_iload_n 1 dX1_addSpace_8 rfl ?_
  obtain ⟨b3, eb3, h⟩ := h
  rw [eb3]
  obtain ⟨q4, h⟩ := h
  obtain ⟨q5, h⟩ := h
  obtain ⟨q6, h⟩ := h
  refine z_iast dX1_addSpace_9 (n := (zK M b3).2) (Prod.ext q4 rfl) q5 q6 ?_
  obtain ⟨M7, hmM7⟩ : ∃ z, z = zsI M b3 (zI M a0 3) x1 := ⟨_, rfl⟩
  rw [← hmM7]
  have h := h M7 hmM7
  refine z_aload_n 0 dX1_addSpace_10 rfl ?_
  refine z_dup dX1_addSpace_11 rfl ?_
  obtain ⟨q8, h⟩ := h
  refine z_getI fl_X1_21 dX1_addSpace_12 q8 ?_
  refine z_iconst dX1_addSpace_15 (by decide) ?_
  obtain ⟨q9, h⟩ := h
  refine z_iadd dX1_addSpace_16 q9 ?_
  obtain ⟨q10, h⟩ := h
  refine z_putI fl_X1_21 (Or.inl rfl) dX1_addSpace_17 q10 ?_
  obtain ⟨M11, hmM11⟩ : ∃ z, z = zsI M7 a0 3 ((zI M7 a0 3) + 1) := ⟨_, rfl⟩
  rw [← hmM11]
  have h := h M11 hmM11
  refine z_aload_n 0 dX1_addSpace_20 rfl ?_
  obtain ⟨q12, h⟩ := h
  refine z_getI fl_X1_21 dX1_addSpace_21 q12 ?_
  refine z_iconst dX1_addSpace_24 (by decide) ?_
  obtain ⟨q13, h⟩ := h
  refine z_isub dX1_addSpace_25 q13 ?_
  exact z_iret hr dX1_addSpace_26 (Nat.le_of_ble_eq_true rfl) (Nat.le_of_ble_eq_true rfl) ⟨_, rfl, h⟩
theorem sX1_addSpace {E : zE} {d : Nat} {P : Int → zM → Prop} {M : zM} (a0 : Nat) (x1 : Int) (h : ∀ X : zX, (xh X).sig.returnType = (some .int) → ZX1_addSpace E d X P 0 [(0, vR (some a0)), (1, vI x1)] [] M 0 0) : zCi E mX1_addSpace (d + 1) 0 0 [vR (some a0), vI x1] M P := z_start (f := mX1_addSpace) rfl (Nat.le_of_ble_eq_true rfl) rfl h
abbrev ZX1_hasSpace (E : zE) (d : Nat) (X : zX) (P : Int → zM → Prop) (pc : Nat) (Lc : List (Nat × zV)) (S : List zV) (M : zM) (ce sl : Nat) : Prop := zZ cX1_hasSpace RX1 "hasSpace" 2 E (zrm (d + 1) 0 0) X (zQ E (zPi P) X 0 0) pc Lc S M ce sl
set_option maxRecDepth 20000 in
theorem vX1_hasSpace_0 {E : zE} {d : Nat} {X : zX} {P : Int → zM → Prop} {M : zM} (hr : (xh X).sig.returnType = (some .boolean)) (a0 : Nat) (x1 : Int)
    (h : ((x1 < 0 → P 0 M) ∧ (0 ≤ x1 → zK M a0 = (2, 5) ∧ (((zI M a0 3) ≤ x1 → P 0 M) ∧ (x1 < (zI M a0 3) → P 1 M))))) :
    ZX1_hasSpace E d X P 0 [(0, vR (some a0)), (1, vI x1)] [] M 0 0 := by
  refine z_iload_n 1 dX1_hasSpace_0 rfl ?_
  refine z_if_lt (tgt := 16) dX1_hasSpace_1 (by decide) (fun q1 => ?_) (fun q1 => ?_)
  · have h := h.1 q1
    refine z_iconst dX1_hasSpace_16 (by decide) ?_
    exact z_zret hr dX1_hasSpace_17 (Nat.le_of_ble_eq_true rfl) (Nat.le_of_ble_eq_true rfl) (by decide) ⟨_, rfl, h⟩
  · have h := h.2 q1
    refine z_iload_n 1 dX1_hasSpace_4 rfl ?_
    refine z_aload_n 0 dX1_hasSpace_5 rfl ?_
    obtain ⟨q2, h⟩ := h
    refine z_getI fl_X1_21 dX1_hasSpace_6 q2 ?_
    refine z_icmp_ge (tgt := 16) dX1_hasSpace_9 (by decide) (fun q3 => ?_) (fun q3 => ?_)
    · have h := h.1 q3
      refine z_iconst dX1_hasSpace_16 (by decide) ?_
      exact z_zret hr dX1_hasSpace_17 (Nat.le_of_ble_eq_true rfl) (Nat.le_of_ble_eq_true rfl) (by decide) ⟨_, rfl, h⟩
    · have h := h.2 q3
      refine z_iconst dX1_hasSpace_12 (by decide) ?_
      refine z_goto (tgt := 17) dX1_hasSpace_13 (by decide) ?_
      exact z_zret hr dX1_hasSpace_17 (Nat.le_of_ble_eq_true rfl) (Nat.le_of_ble_eq_true rfl) (by decide) ⟨_, rfl, h⟩
theorem sX1_hasSpace {E : zE} {d : Nat} {P : Int → zM → Prop} {M : zM} (a0 : Nat) (x1 : Int) (h : ∀ X : zX, (xh X).sig.returnType = (some .boolean) → ZX1_hasSpace E d X P 0 [(0, vR (some a0)), (1, vI x1)] [] M 0 0) : zCi E mX1_hasSpace (d + 1) 0 0 [vR (some a0), vI x1] M P := z_start (f := mX1_hasSpace) rfl (Nat.le_of_ble_eq_true rfl) rfl h
abbrev ZX1_areNear (E : zE) (d : Nat) (X : zX) (P : Int → zM → Prop) (pc : Nat) (Lc : List (Nat × zV)) (S : List zV) (M : zM) (ce sl : Nat) : Prop := zZ cX1_areNear RX1 "areNear" 3 E (zrm (d + 1) 0 0) X (zQ E (zPi P) X 0 0) pc Lc S M ce sl
set_option maxRecDepth 20000 in
theorem vX1_areNear_0 {E : zE} {d : Nat} {X : zX} {P : Int → zM → Prop} {M : zM} (hr : (xh X).sig.returnType = (some .boolean)) (a0 : Nat) (x1 : Int) (x2 : Int)
    (h : zK M a0 = (2, 5) ∧ ∃ b2, zR M a0 1 = some b2 ∧ (zK M b2).1 = 9 ∧ 0 ≤ x1 ∧ x1 < ((zK M b2).2 : Int) ∧ (0 : Int) ≤ x2 ∧ x2 < (31 : Int) ∧ (0 : Int) ≤ (zI M b2 x1) ∧ (0 : Int) ≤ (zpw x2) ∧ (((zand (zI M b2 x1) (zpw x2)) = 0 → P 0 M) ∧ ((zand (zI M b2 x1) (zpw x2)) ≠ 0 → P 1 M))) :
    ZX1_areNear E d X P 0 [(0, vR (some a0)), (1, vI x1), (2, vI x2)] [] M 0 0 := by
  refine z_aload_n 0 dX1_areNear_0 rfl ?_
  obtain ⟨q1, h⟩ := h
  refine z_getR fl_X1_15 rfl dX1_areNear_1 q1 ?_
  refine z_iload_n 1 dX1_areNear_4 rfl ?_
  obtain ⟨b2, eb2, h⟩ := h
  rw [eb2]
  obtain ⟨q3, h⟩ := h
  obtain ⟨q4, h⟩ := h
  obtain ⟨q5, h⟩ := h
  refine z_iald dX1_areNear_5 (n := (zK M b2).2) (Prod.ext q3 rfl) q4 q5 ?_
  refine z_iconst dX1_areNear_6 (by decide) ?_
  refine z_iload_n 2 dX1_areNear_7 rfl ?_
  obtain ⟨q6, h⟩ := h
  obtain ⟨q7, h⟩ := h
  refine z_ishl dX1_areNear_8 q6 q7 ?_
  obtain ⟨q8, h⟩ := h
  obtain ⟨q9, h⟩ := h
  refine z_iand dX1_areNear_9 q8 q9 ?_
  refine z_if_eq (tgt := 17) dX1_areNear_10 (by decide) (fun q10 => ?_) (fun q10 => ?_)
  · have h := h.1 q10
    refine z_iconst dX1_areNear_17 (by decide) ?_
    exact z_zret hr dX1_areNear_18 (Nat.le_of_ble_eq_true rfl) (Nat.le_of_ble_eq_true rfl) (by decide) ⟨_, rfl, h⟩
  · have h := h.2 q10
    refine z_iconst dX1_areNear_13 (by decide) ?_
    refine z_goto (tgt := 18) dX1_areNear_14 (by decide) ?_
    exact z_zret hr dX1_areNear_18 (Nat.le_of_ble_eq_true rfl) (Nat.le_of_ble_eq_true rfl) (by decide) ⟨_, rfl, h⟩
theorem sX1_areNear {E : zE} {d : Nat} {P : Int → zM → Prop} {M : zM} (a0 : Nat) (x1 : Int) (x2 : Int) (h : ∀ X : zX, (xh X).sig.returnType = (some .boolean) → ZX1_areNear E d X P 0 [(0, vR (some a0)), (1, vI x1), (2, vI x2)] [] M 0 0) : zCi E mX1_areNear (d + 1) 0 0 [vR (some a0), vI x1, vI x2] M P := z_start (f := mX1_areNear) rfl (Nat.le_of_ble_eq_true rfl) rfl h
abbrev ZX1_join (E : zE) (d : Nat) (X : zX) (P : zM → Prop) (pc : Nat) (Lc : List (Nat × zV)) (S : List zV) (M : zM) (ce sl : Nat) : Prop := zZ cX1_join RX1 "join" 3 E (zrm (d + 1) 0 0) X (zQ E (zPv P) X 0 0) pc Lc S M ce sl
set_option maxRecDepth 20000 in
theorem vX1_join_0 {E : zE} {d : Nat} {X : zX} {P : zM → Prop} {M : zM} (hr : (xh X).sig.returnType = none) (a0 : Nat) (x1 : Int) (x2 : Int)
    (h : zK M a0 = (2, 5) ∧ ∃ b2, zR M a0 1 = some b2 ∧ (zK M b2).1 = 9 ∧ 0 ≤ x1 ∧ x1 < ((zK M b2).2 : Int) ∧ (0 : Int) ≤ x2 ∧ x2 < (31 : Int) ∧ (0 : Int) ≤ (zI M b2 x1) ∧ (0 : Int) ≤ (zpw x2) ∧ (zK M b2).1 = 9 ∧ 0 ≤ x1 ∧ x1 < ((zK M b2).2 : Int) ∧ ∀ M13, M13 = zsI M b2 x1 (zor (zI M b2 x1) (zpw x2)) → zK M13 a0 = (2, 5) ∧ ∃ b15, zR M13 a0 1 = some b15 ∧ (zK M13 b15).1 = 9 ∧ 0 ≤ x2 ∧ x2 < ((zK M13 b15).2 : Int) ∧ (0 : Int) ≤ x1 ∧ x1 < (31 : Int) ∧ (0 : Int) ≤ (zI M13 b15 x2) ∧ (0 : Int) ≤ (zpw x1) ∧ (zK M13 b15).1 = 9 ∧ 0 ≤ x2 ∧ x2 < ((zK M13 b15).2 : Int) ∧ ∀ M26, M26 = zsI M13 b15 x2 (zor (zI M13 b15 x2) (zpw x1)) → P M26) :
    ZX1_join E d X P 0 [(0, vR (some a0)), (1, vI x1), (2, vI x2)] [] M 0 0 := by
  refine z_aload_n 0 dX1_join_0 rfl ?_
  obtain ⟨q1, h⟩ := h
  refine z_getR fl_X1_15 rfl dX1_join_1 q1 ?_
  refine z_iload_n 1 dX1_join_4 rfl ?_
  refine z_dup2 dX1_join_5 rfl rfl ?_
  obtain ⟨b2, eb2, h⟩ := h
  rw [eb2]
  obtain ⟨q3, h⟩ := h
  obtain ⟨q4, h⟩ := h
  obtain ⟨q5, h⟩ := h
  refine z_iald dX1_join_6 (n := (zK M b2).2) (Prod.ext q3 rfl) q4 q5 ?_
  refine z_iconst dX1_join_7 (by decide) ?_
  refine z_iload_n 2 dX1_join_8 rfl ?_
  obtain ⟨q6, h⟩ := h
  obtain ⟨q7, h⟩ := h
  refine z_ishl dX1_join_9 q6 q7 ?_
  obtain ⟨q8, h⟩ := h
  obtain ⟨q9, h⟩ := h
  refine z_ior dX1_join_10 q8 q9 ?_
  obtain ⟨q10, h⟩ := h
  obtain ⟨q11, h⟩ := h
  obtain ⟨q12, h⟩ := h
  refine z_iast dX1_join_11 (n := (zK M b2).2) (Prod.ext q10 rfl) q11 q12 ?_
  obtain ⟨M13, hmM13⟩ : ∃ z, z = zsI M b2 x1 (zor (zI M b2 x1) (zpw x2)) := ⟨_, rfl⟩
  rw [← hmM13]
  have h := h M13 hmM13
  refine z_aload_n 0 dX1_join_12 rfl ?_
  obtain ⟨q14, h⟩ := h
  refine z_getR fl_X1_15 rfl dX1_join_13 q14 ?_
  refine z_iload_n 2 dX1_join_16 rfl ?_
  refine z_dup2 dX1_join_17 rfl rfl ?_
  obtain ⟨b15, eb15, h⟩ := h
  rw [eb15]
  obtain ⟨q16, h⟩ := h
  obtain ⟨q17, h⟩ := h
  obtain ⟨q18, h⟩ := h
  refine z_iald dX1_join_18 (n := (zK M13 b15).2) (Prod.ext q16 rfl) q17 q18 ?_
  refine z_iconst dX1_join_19 (by decide) ?_
  refine z_iload_n 1 dX1_join_20 rfl ?_
  obtain ⟨q19, h⟩ := h
  obtain ⟨q20, h⟩ := h
  refine z_ishl dX1_join_21 q19 q20 ?_
  obtain ⟨q21, h⟩ := h
  obtain ⟨q22, h⟩ := h
  refine z_ior dX1_join_22 q21 q22 ?_
  obtain ⟨q23, h⟩ := h
  obtain ⟨q24, h⟩ := h
  obtain ⟨q25, h⟩ := h
  refine z_iast dX1_join_23 (n := (zK M13 b15).2) (Prod.ext q23 rfl) q24 q25 ?_
  obtain ⟨M26, hmM26⟩ : ∃ z, z = zsI M13 b15 x2 (zor (zI M13 b15 x2) (zpw x1)) := ⟨_, rfl⟩
  rw [← hmM26]
  have h := h M26 hmM26
  exact z_vret hr dX1_join_24 (Nat.le_of_ble_eq_true rfl) (Nat.le_of_ble_eq_true rfl) ⟨rfl, h⟩
theorem sX1_join {E : zE} {d : Nat} {P : zM → Prop} {M : zM} (a0 : Nat) (x1 : Int) (x2 : Int) (h : ∀ X : zX, (xh X).sig.returnType = none → ZX1_join E d X P 0 [(0, vR (some a0)), (1, vI x1), (2, vI x2)] [] M 0 0) : zCv E mX1_join (d + 1) 0 0 [vR (some a0), vI x1, vI x2] M P := z_start (f := mX1_join) rfl (Nat.le_of_ble_eq_true rfl) rfl h
abbrev ZX1_isBarred (E : zE) (d : Nat) (X : zX) (P : Int → zM → Prop) (pc : Nat) (Lc : List (Nat × zV)) (S : List zV) (M : zM) (ce sl : Nat) : Prop := zZ cX1_isBarred RX1 "isBarred" 4 E (zrm (d + 1) 0 0) X (zQ E (zPi P) X 0 0) pc Lc S M ce sl
set_option maxRecDepth 20000 in
theorem vX1_isBarred_0 {E : zE} {d : Nat} {X : zX} {P : Int → zM → Prop} {M : zM} (hr : (xh X).sig.returnType = (some .boolean)) (a0 : Nat) (x1 : Int) (x2 : Int) (x3 : Int)
    (h : zK M a0 = (2, 5) ∧ zin (x3 * 5) ∧ zin ((x3 * 5) + x1) ∧ ∃ b4, zR M a0 2 = some b4 ∧ (zK M b4).1 = 9 ∧ 0 ≤ ((x3 * 5) + x1) ∧ ((x3 * 5) + x1) < ((zK M b4).2 : Int) ∧ (0 : Int) ≤ x2 ∧ x2 < (31 : Int) ∧ (0 : Int) ≤ (zI M b4 ((x3 * 5) + x1)) ∧ (0 : Int) ≤ (zpw x2) ∧ (((zand (zI M b4 ((x3 * 5) + x1)) (zpw x2)) = 0 → P 0 M) ∧ ((zand (zI M b4 ((x3 * 5) + x1)) (zpw x2)) ≠ 0 → P 1 M))) :
    ZX1_isBarred E d X P 0 [(0, vR (some a0)), (1, vI x1), (2, vI x2), (3, vI x3)] [] M 0 0 := by
  refine z_aload_n 0 dX1_isBarred_0 rfl ?_
  obtain ⟨q1, h⟩ := h
  refine z_getR fl_X1_18 rfl dX1_isBarred_1 q1 ?_
  refine z_iload_n 3 dX1_isBarred_4 rfl ?_
  refine z_iconst dX1_isBarred_5 (by decide) ?_
  obtain ⟨q2, h⟩ := h
  refine z_imul dX1_isBarred_6 q2 ?_
  refine z_iload_n 1 dX1_isBarred_7 rfl ?_
  obtain ⟨q3, h⟩ := h
  refine z_iadd dX1_isBarred_8 q3 ?_
  obtain ⟨b4, eb4, h⟩ := h
  rw [eb4]
  obtain ⟨q5, h⟩ := h
  obtain ⟨q6, h⟩ := h
  obtain ⟨q7, h⟩ := h
  refine z_iald dX1_isBarred_9 (n := (zK M b4).2) (Prod.ext q5 rfl) q6 q7 ?_
  refine z_iconst dX1_isBarred_10 (by decide) ?_
  refine z_iload_n 2 dX1_isBarred_11 rfl ?_
  obtain ⟨q8, h⟩ := h
  obtain ⟨q9, h⟩ := h
  refine z_ishl dX1_isBarred_12 q8 q9 ?_
  obtain ⟨q10, h⟩ := h
  obtain ⟨q11, h⟩ := h
  refine z_iand dX1_isBarred_13 q10 q11 ?_
  refine z_if_eq (tgt := 21) dX1_isBarred_14 (by decide) (fun q12 => ?_) (fun q12 => ?_)
  · have h := h.1 q12
    refine z_iconst dX1_isBarred_21 (by decide) ?_
    exact z_zret hr dX1_isBarred_22 (Nat.le_of_ble_eq_true rfl) (Nat.le_of_ble_eq_true rfl) (by decide) ⟨_, rfl, h⟩
  · have h := h.2 q12
    refine z_iconst dX1_isBarred_17 (by decide) ?_
    refine z_goto (tgt := 22) dX1_isBarred_18 (by decide) ?_
    exact z_zret hr dX1_isBarred_22 (Nat.le_of_ble_eq_true rfl) (Nat.le_of_ble_eq_true rfl) (by decide) ⟨_, rfl, h⟩
theorem sX1_isBarred {E : zE} {d : Nat} {P : Int → zM → Prop} {M : zM} (a0 : Nat) (x1 : Int) (x2 : Int) (x3 : Int) (h : ∀ X : zX, (xh X).sig.returnType = (some .boolean) → ZX1_isBarred E d X P 0 [(0, vR (some a0)), (1, vI x1), (2, vI x2), (3, vI x3)] [] M 0 0) : zCi E mX1_isBarred (d + 1) 0 0 [vR (some a0), vI x1, vI x2, vI x3] M P := z_start (f := mX1_isBarred) rfl (Nat.le_of_ble_eq_true rfl) rfl h
abbrev ZX1_forbid (E : zE) (d : Nat) (X : zX) (P : zM → Prop) (pc : Nat) (Lc : List (Nat × zV)) (S : List zV) (M : zM) (ce sl : Nat) : Prop := zZ cX1_forbid RX1 "forbid" 4 E (zrm (d + 1) 0 0) X (zQ E (zPv P) X 0 0) pc Lc S M ce sl
set_option maxRecDepth 20000 in
theorem vX1_forbid_0 {E : zE} {d : Nat} {X : zX} {P : zM → Prop} {M : zM} (hr : (xh X).sig.returnType = none) (a0 : Nat) (x1 : Int) (x2 : Int) (x3 : Int)
    (h : zK M a0 = (2, 5) ∧ zin (x3 * 5) ∧ zin ((x3 * 5) + x1) ∧ ∃ b4, zR M a0 2 = some b4 ∧ (zK M b4).1 = 9 ∧ 0 ≤ ((x3 * 5) + x1) ∧ ((x3 * 5) + x1) < ((zK M b4).2 : Int) ∧ (0 : Int) ≤ x2 ∧ x2 < (31 : Int) ∧ (0 : Int) ≤ (zI M b4 ((x3 * 5) + x1)) ∧ (0 : Int) ≤ (zpw x2) ∧ (zK M b4).1 = 9 ∧ 0 ≤ ((x3 * 5) + x1) ∧ ((x3 * 5) + x1) < ((zK M b4).2 : Int) ∧ ∀ M15, M15 = zsI M b4 ((x3 * 5) + x1) (zor (zI M b4 ((x3 * 5) + x1)) (zpw x2)) → zK M15 a0 = (2, 5) ∧ zin (x3 * 5) ∧ zin ((x3 * 5) + x2) ∧ ∃ b19, zR M15 a0 2 = some b19 ∧ (zK M15 b19).1 = 9 ∧ 0 ≤ ((x3 * 5) + x2) ∧ ((x3 * 5) + x2) < ((zK M15 b19).2 : Int) ∧ (0 : Int) ≤ x1 ∧ x1 < (31 : Int) ∧ (0 : Int) ≤ (zI M15 b19 ((x3 * 5) + x2)) ∧ (0 : Int) ≤ (zpw x1) ∧ (zK M15 b19).1 = 9 ∧ 0 ≤ ((x3 * 5) + x2) ∧ ((x3 * 5) + x2) < ((zK M15 b19).2 : Int) ∧ ∀ M30, M30 = zsI M15 b19 ((x3 * 5) + x2) (zor (zI M15 b19 ((x3 * 5) + x2)) (zpw x1)) → zK M30 a0 = (2, 5) ∧ zin ((zI M30 a0 4) + 1) ∧ zK M30 a0 = (2, 5) ∧ ∀ M34, M34 = zsI M30 a0 4 ((zI M30 a0 4) + 1) → P M34) :
    ZX1_forbid E d X P 0 [(0, vR (some a0)), (1, vI x1), (2, vI x2), (3, vI x3)] [] M 0 0 := by
  refine z_aload_n 0 dX1_forbid_0 rfl ?_
  obtain ⟨q1, h⟩ := h
  refine z_getR fl_X1_18 rfl dX1_forbid_1 q1 ?_
  refine z_iload_n 3 dX1_forbid_4 rfl ?_
  refine z_iconst dX1_forbid_5 (by decide) ?_
  obtain ⟨q2, h⟩ := h
  refine z_imul dX1_forbid_6 q2 ?_
  refine z_iload_n 1 dX1_forbid_7 rfl ?_
  obtain ⟨q3, h⟩ := h
  refine z_iadd dX1_forbid_8 q3 ?_
  refine z_dup2 dX1_forbid_9 rfl rfl ?_
  obtain ⟨b4, eb4, h⟩ := h
  rw [eb4]
  obtain ⟨q5, h⟩ := h
  obtain ⟨q6, h⟩ := h
  obtain ⟨q7, h⟩ := h
  refine z_iald dX1_forbid_10 (n := (zK M b4).2) (Prod.ext q5 rfl) q6 q7 ?_
  refine z_iconst dX1_forbid_11 (by decide) ?_
  refine z_iload_n 2 dX1_forbid_12 rfl ?_
  obtain ⟨q8, h⟩ := h
  obtain ⟨q9, h⟩ := h
  refine z_ishl dX1_forbid_13 q8 q9 ?_
  obtain ⟨q10, h⟩ := h
  obtain ⟨q11, h⟩ := h
  refine z_ior dX1_forbid_14 q10 q11 ?_
  obtain ⟨q12, h⟩ := h
  obtain ⟨q13, h⟩ := h
  obtain ⟨q14, h⟩ := h
  refine z_iast dX1_forbid_15 (n := (zK M b4).2) (Prod.ext q12 rfl) q13 q14 ?_
  obtain ⟨M15, hmM15⟩ : ∃ z, z = zsI M b4 ((x3 * 5) + x1) (zor (zI M b4 ((x3 * 5) + x1)) (zpw x2)) := ⟨_, rfl⟩
  rw [← hmM15]
  have h := h M15 hmM15
  refine z_aload_n 0 dX1_forbid_16 rfl ?_
  obtain ⟨q16, h⟩ := h
  refine z_getR fl_X1_18 rfl dX1_forbid_17 q16 ?_
  refine z_iload_n 3 dX1_forbid_20 rfl ?_
  refine z_iconst dX1_forbid_21 (by decide) ?_
  obtain ⟨q17, h⟩ := h
  refine z_imul dX1_forbid_22 q17 ?_
  refine z_iload_n 2 dX1_forbid_23 rfl ?_
  obtain ⟨q18, h⟩ := h
  refine z_iadd dX1_forbid_24 q18 ?_
  refine z_dup2 dX1_forbid_25 rfl rfl ?_
  obtain ⟨b19, eb19, h⟩ := h
  rw [eb19]
  obtain ⟨q20, h⟩ := h
  obtain ⟨q21, h⟩ := h
  obtain ⟨q22, h⟩ := h
  refine z_iald dX1_forbid_26 (n := (zK M15 b19).2) (Prod.ext q20 rfl) q21 q22 ?_
  refine z_iconst dX1_forbid_27 (by decide) ?_
  refine z_iload_n 1 dX1_forbid_28 rfl ?_
  obtain ⟨q23, h⟩ := h
  obtain ⟨q24, h⟩ := h
  refine z_ishl dX1_forbid_29 q23 q24 ?_
  obtain ⟨q25, h⟩ := h
  obtain ⟨q26, h⟩ := h
  refine z_ior dX1_forbid_30 q25 q26 ?_
  obtain ⟨q27, h⟩ := h
  obtain ⟨q28, h⟩ := h
  obtain ⟨q29, h⟩ := h
  refine z_iast dX1_forbid_31 (n := (zK M15 b19).2) (Prod.ext q27 rfl) q28 q29 ?_
  obtain ⟨M30, hmM30⟩ : ∃ z, z = zsI M15 b19 ((x3 * 5) + x2) (zor (zI M15 b19 ((x3 * 5) + x2)) (zpw x1)) := ⟨_, rfl⟩
  rw [← hmM30]
  have h := h M30 hmM30
  refine z_aload_n 0 dX1_forbid_32 rfl ?_
  refine z_dup dX1_forbid_33 rfl ?_
  obtain ⟨q31, h⟩ := h
  refine z_getI fl_X1_25 dX1_forbid_34 q31 ?_
  refine z_iconst dX1_forbid_37 (by decide) ?_
  obtain ⟨q32, h⟩ := h
  refine z_iadd dX1_forbid_38 q32 ?_
  obtain ⟨q33, h⟩ := h
  refine z_putI fl_X1_25 (Or.inl rfl) dX1_forbid_39 q33 ?_
  obtain ⟨M34, hmM34⟩ : ∃ z, z = zsI M30 a0 4 ((zI M30 a0 4) + 1) := ⟨_, rfl⟩
  rw [← hmM34]
  have h := h M34 hmM34
  exact z_vret hr dX1_forbid_42 (Nat.le_of_ble_eq_true rfl) (Nat.le_of_ble_eq_true rfl) ⟨rfl, h⟩
theorem sX1_forbid {E : zE} {d : Nat} {P : zM → Prop} {M : zM} (a0 : Nat) (x1 : Int) (x2 : Int) (x3 : Int) (h : ∀ X : zX, (xh X).sig.returnType = none → ZX1_forbid E d X P 0 [(0, vR (some a0)), (1, vI x1), (2, vI x2), (3, vI x3)] [] M 0 0) : zCv E mX1_forbid (d + 1) 0 0 [vR (some a0), vI x1, vI x2, vI x3] M P := z_start (f := mX1_forbid) rfl (Nat.le_of_ble_eq_true rfl) rfl h
abbrev ZX1_keepsApart (E : zE) (d : Nat) (X : zX) (P : Int → zM → Prop) (pc : Nat) (Lc : List (Nat × zV)) (S : List zV) (M : zM) (ce sl : Nat) : Prop := zZ cX1_keepsApart RX1 "keepsApart" 3 E (zrm (d + 1) 0 0) X (zQ E (zPi P) X 0 0) pc Lc S M ce sl
set_option maxRecDepth 20000 in
theorem vX1_keepsApart_0 {E : zE} {d : Nat} {X : zX} {P : Int → zM → Prop} {M : zM} (hr : (xh X).sig.returnType = (some .boolean)) (a0 : Nat) (a1 : Nat) (a2 : Nat)
    (h : zK M a1 = (6, 16) ∧ zK M a2 = (6, 16) ∧ zK M a0 = (2, 5) ∧ ∃ P3 : Int → zM → Prop, zCi E mX1_isBarred d 0 0 [vR (some a0), vI (zI M a1 5), vI (zI M a2 5), vI 2] M P3 ∧ ∀ r6 M5, P3 r6 M5 → ((r6 = 0 → zK M5 a1 = (6, 16) ∧ zK M5 a2 = (6, 16) ∧ (((zI M5 a1 4) ≠ (zI M5 a2 4) → zK M5 a1 = (6, 16) ∧ zK M5 a2 = (6, 16) ∧ zK M5 a0 = (2, 5) ∧ ∃ P15 : Int → zM → Prop, zCi E mX1_areNear d 0 0 [vR (some a0), vI (zI M5 a1 4), vI (zI M5 a2 4)] M5 P15 ∧ ∀ r18 M17, P15 r18 M17 → ((r18 = 0 → P 0 M17) ∧ (r18 ≠ 0 → zK M17 a1 = (6, 16) ∧ zK M17 a2 = (6, 16) ∧ zK M17 a0 = (2, 5) ∧ ∃ P24 : Int → zM → Prop, zCi E mX1_isBarred d 0 0 [vR (some a0), vI (zI M17 a1 5), vI (zI M17 a2 5), vI 1] M17 P24 ∧ ∀ r27 M26, P24 r27 M26 → ((r27 = 0 → P 0 M26) ∧ (r27 ≠ 0 → P 1 M26))))) ∧ ((zI M5 a1 4) = (zI M5 a2 4) → zK M5 a1 = (6, 16) ∧ zK M5 a2 = (6, 16) ∧ zK M5 a0 = (2, 5) ∧ ∃ P33 : Int → zM → Prop, zCi E mX1_isBarred d 0 0 [vR (some a0), vI (zI M5 a1 5), vI (zI M5 a2 5), vI 0] M5 P33 ∧ ∀ r36 M35, P33 r36 M35 → ((r36 ≠ 0 → P 1 M35) ∧ (r36 = 0 → zK M35 a1 = (6, 16) ∧ zK M35 a2 = (6, 16) ∧ zK M35 a0 = (2, 5) ∧ ∃ P42 : Int → zM → Prop, zCi E mX1_isBarred d 0 0 [vR (some a0), vI (zI M35 a1 5), vI (zI M35 a2 5), vI 1] M35 P42 ∧ ∀ r45 M44, P42 r45 M44 → ((r45 = 0 → P 0 M44) ∧ (r45 ≠ 0 → P 1 M44))))))) ∧ (r6 ≠ 0 → P 1 M5))) :
    ZX1_keepsApart E d X P 0 [(0, vR (some a0)), (1, vR (some a1)), (2, vR (some a2))] [] M 0 0 := by
  refine z_aload_n 0 dX1_keepsApart_0 rfl ?_
  refine z_aload_n 1 dX1_keepsApart_1 rfl ?_
  obtain ⟨q1, h⟩ := h
  refine z_getI fl_X1_28 dX1_keepsApart_2 q1 ?_
  refine z_aload_n 2 dX1_keepsApart_5 rfl ?_
  obtain ⟨q2, h⟩ := h
  refine z_getI fl_X1_28 dX1_keepsApart_6 q2 ?_
  refine z_iconst dX1_keepsApart_9 (by decide) ?_
  obtain ⟨q8, h⟩ := h
  obtain ⟨P3, c4, h⟩ := h
  refine z_Vi (as := [vI (zI M a1 5), vI (zI M a2 5), vI 2]) mv_X1_33 dX1_keepsApart_10 c4 q8 rfl rfl (Nat.le_of_ble_eq_true rfl) (Nat.le_of_ble_eq_true rfl) (Nat.le_of_ble_eq_true rfl) (fun r6 M5 p7 => ?_)
  have h := h r6 M5 p7
  refine z_if_eq (tgt := 18) dX1_keepsApart_13 (by decide) (fun q9 => ?_) (fun q9 => ?_)
  · have h := h.1 q9
    refine z_aload_n 1 dX1_keepsApart_18 rfl ?_
    obtain ⟨q10, h⟩ := h
    refine z_getI fl_X1_37 dX1_keepsApart_19 q10 ?_
    refine z_aload_n 2 dX1_keepsApart_22 rfl ?_
    obtain ⟨q11, h⟩ := h
    refine z_getI fl_X1_37 dX1_keepsApart_23 q11 ?_
    refine z_icmp_ne (tgt := 67) dX1_keepsApart_26 (by decide) (fun q12 => ?_) (fun q12 => ?_)
    · have h := h.1 q12
      refine z_aload_n 0 dX1_keepsApart_67 rfl ?_
      refine z_aload_n 1 dX1_keepsApart_68 rfl ?_
      obtain ⟨q13, h⟩ := h
      refine z_getI fl_X1_37 dX1_keepsApart_69 q13 ?_
      refine z_aload_n 2 dX1_keepsApart_72 rfl ?_
      obtain ⟨q14, h⟩ := h
      refine z_getI fl_X1_37 dX1_keepsApart_73 q14 ?_
      obtain ⟨q20, h⟩ := h
      obtain ⟨P15, c16, h⟩ := h
      refine z_Vi (as := [vI (zI M5 a1 4), vI (zI M5 a2 4)]) mv_X1_40 dX1_keepsApart_76 c16 q20 rfl rfl (Nat.le_of_ble_eq_true rfl) (Nat.le_of_ble_eq_true rfl) (Nat.le_of_ble_eq_true rfl) (fun r18 M17 p19 => ?_)
      have h := h r18 M17 p19
      refine z_if_eq (tgt := 102) dX1_keepsApart_79 (by decide) (fun q21 => ?_) (fun q21 => ?_)
      · have h := h.1 q21
        refine z_iconst dX1_keepsApart_102 (by decide) ?_
        exact z_zret hr dX1_keepsApart_103 (Nat.le_of_ble_eq_true rfl) (Nat.le_of_ble_eq_true rfl) (by decide) ⟨_, rfl, h⟩
      · have h := h.2 q21
        refine z_aload_n 0 dX1_keepsApart_82 rfl ?_
        refine z_aload_n 1 dX1_keepsApart_83 rfl ?_
        obtain ⟨q22, h⟩ := h
        refine z_getI fl_X1_28 dX1_keepsApart_84 q22 ?_
        refine z_aload_n 2 dX1_keepsApart_87 rfl ?_
        obtain ⟨q23, h⟩ := h
        refine z_getI fl_X1_28 dX1_keepsApart_88 q23 ?_
        refine z_iconst dX1_keepsApart_91 (by decide) ?_
        obtain ⟨q29, h⟩ := h
        obtain ⟨P24, c25, h⟩ := h
        refine z_Vi (as := [vI (zI M17 a1 5), vI (zI M17 a2 5), vI 1]) mv_X1_33 dX1_keepsApart_92 c25 q29 rfl rfl (Nat.le_of_ble_eq_true rfl) (Nat.le_of_ble_eq_true rfl) (Nat.le_of_ble_eq_true rfl) (fun r27 M26 p28 => ?_)
        have h := h r27 M26 p28
        refine z_if_eq (tgt := 102) dX1_keepsApart_95 (by decide) (fun q30 => ?_) (fun q30 => ?_)
        · have h := h.1 q30
          refine z_iconst dX1_keepsApart_102 (by decide) ?_
          exact z_zret hr dX1_keepsApart_103 (Nat.le_of_ble_eq_true rfl) (Nat.le_of_ble_eq_true rfl) (by decide) ⟨_, rfl, h⟩
        · have h := h.2 q30
          refine z_iconst dX1_keepsApart_98 (by decide) ?_
          refine z_goto (tgt := 103) dX1_keepsApart_99 (by decide) ?_
          exact z_zret hr dX1_keepsApart_103 (Nat.le_of_ble_eq_true rfl) (Nat.le_of_ble_eq_true rfl) (by decide) ⟨_, rfl, h⟩
    · have h := h.2 q12
      refine z_aload_n 0 dX1_keepsApart_29 rfl ?_
      refine z_aload_n 1 dX1_keepsApart_30 rfl ?_
      obtain ⟨q31, h⟩ := h
      refine z_getI fl_X1_28 dX1_keepsApart_31 q31 ?_
      refine z_aload_n 2 dX1_keepsApart_34 rfl ?_
      obtain ⟨q32, h⟩ := h
      refine z_getI fl_X1_28 dX1_keepsApart_35 q32 ?_
      refine z_iconst dX1_keepsApart_38 (by decide) ?_
      obtain ⟨q38, h⟩ := h
      obtain ⟨P33, c34, h⟩ := h
      refine z_Vi (as := [vI (zI M5 a1 5), vI (zI M5 a2 5), vI 0]) mv_X1_33 dX1_keepsApart_39 c34 q38 rfl rfl (Nat.le_of_ble_eq_true rfl) (Nat.le_of_ble_eq_true rfl) (Nat.le_of_ble_eq_true rfl) (fun r36 M35 p37 => ?_)
      have h := h r36 M35 p37
      refine z_if_ne (tgt := 61) dX1_keepsApart_42 (by decide) (fun q39 => ?_) (fun q39 => ?_)
      · have h := h.1 q39
        refine z_iconst dX1_keepsApart_61 (by decide) ?_
        refine z_goto (tgt := 66) dX1_keepsApart_62 (by decide) ?_
        exact z_zret hr dX1_keepsApart_66 (Nat.le_of_ble_eq_true rfl) (Nat.le_of_ble_eq_true rfl) (by decide) ⟨_, rfl, h⟩
      · have h := h.2 q39
        refine z_aload_n 0 dX1_keepsApart_45 rfl ?_
        refine z_aload_n 1 dX1_keepsApart_46 rfl ?_
        obtain ⟨q40, h⟩ := h
        refine z_getI fl_X1_28 dX1_keepsApart_47 q40 ?_
        refine z_aload_n 2 dX1_keepsApart_50 rfl ?_
        obtain ⟨q41, h⟩ := h
        refine z_getI fl_X1_28 dX1_keepsApart_51 q41 ?_
        refine z_iconst dX1_keepsApart_54 (by decide) ?_
        obtain ⟨q47, h⟩ := h
        obtain ⟨P42, c43, h⟩ := h
        refine z_Vi (as := [vI (zI M35 a1 5), vI (zI M35 a2 5), vI 1]) mv_X1_33 dX1_keepsApart_55 c43 q47 rfl rfl (Nat.le_of_ble_eq_true rfl) (Nat.le_of_ble_eq_true rfl) (Nat.le_of_ble_eq_true rfl) (fun r45 M44 p46 => ?_)
        have h := h r45 M44 p46
        refine z_if_eq (tgt := 65) dX1_keepsApart_58 (by decide) (fun q48 => ?_) (fun q48 => ?_)
        · have h := h.1 q48
          refine z_iconst dX1_keepsApart_65 (by decide) ?_
          exact z_zret hr dX1_keepsApart_66 (Nat.le_of_ble_eq_true rfl) (Nat.le_of_ble_eq_true rfl) (by decide) ⟨_, rfl, h⟩
        · have h := h.2 q48
          refine z_iconst dX1_keepsApart_61 (by decide) ?_
          refine z_goto (tgt := 66) dX1_keepsApart_62 (by decide) ?_
          exact z_zret hr dX1_keepsApart_66 (Nat.le_of_ble_eq_true rfl) (Nat.le_of_ble_eq_true rfl) (by decide) ⟨_, rfl, h⟩
  · have h := h.2 q9
    refine z_iconst dX1_keepsApart_16 (by decide) ?_
    exact z_zret hr dX1_keepsApart_17 (Nat.le_of_ble_eq_true rfl) (Nat.le_of_ble_eq_true rfl) (by decide) ⟨_, rfl, h⟩
theorem sX1_keepsApart {E : zE} {d : Nat} {P : Int → zM → Prop} {M : zM} (a0 : Nat) (a1 : Nat) (a2 : Nat) (h : ∀ X : zX, (xh X).sig.returnType = (some .boolean) → ZX1_keepsApart E d X P 0 [(0, vR (some a0)), (1, vR (some a1)), (2, vR (some a2))] [] M 0 0) : zCi E mX1_keepsApart (d + 1) 0 0 [vR (some a0), vR (some a1), vR (some a2)] M P := z_start (f := mX1_keepsApart) rfl (Nat.le_of_ble_eq_true rfl) rfl h
