abbrev ZX2_init (E : zE) (d : Nat) (X : zX) (P : zM → Prop) (pc : Nat) (Lc : List (Nat × zV)) (S : List zV) (M : zM) (ce sl : Nat) : Prop := zZ cX2_init RX2 "<init>" 1 E (zrm (d + 1) 4 104) X (zQ E (zPv P) X 4 104) pc Lc S M ce sl
set_option maxRecDepth 20000 in
theorem vX2_init_0 {E : zE} {d : Nat} {X : zX} {P : zM → Prop} {M : zM} (hr : (xh X).sig.returnType = none) (a0 : Nat)
    (h : ∀ M1, M1 = znew M 12 40 → zK M1 a0 = (3, 6) ∧ ∀ M3, M3 = zsR M1 a0 0 (some (zsz M)) → ∀ M4, M4 = znew M3 9 40 → zK M4 a0 = (3, 6) ∧ ∀ M6, M6 = zsR M4 a0 1 (some (zsz M3)) → ∀ M7, M7 = znew M6 11 4 → zK M7 a0 = (3, 6) ∧ ∀ M9, M9 = zsR M7 a0 2 (some (zsz M6)) → ∀ M10, M10 = znew M9 11 20 → zK M10 a0 = (3, 6) ∧ ∀ M12, M12 = zsR M10 a0 3 (some (zsz M9)) → P M12) :
    ZX2_init E d X P 0 [(0, vR (some a0))] [] M 0 0 := by
  refine z_aload_n 0 dX2_init_0 rfl ?_
  refine z_objInit oi_X2_3 dX2_init_1 (Nat.le_of_ble_eq_true rfl) zr3 zr5 ?_
  refine z_aload_n 0 dX2_init_4 rfl ?_
  refine z_bipush dX2_init_5 (by decide) ?_
  refine z_anew (n := 40) kw_87 dX2_init_7 rfl (by decide) (Nat.le_of_ble_eq_true rfl) (Nat.le_of_ble_eq_true rfl) ?_
  obtain ⟨M1, hmM1⟩ : ∃ z, z = znew M 12 40 := ⟨_, rfl⟩
  rw [← hmM1]
  have h := h M1 hmM1
  obtain ⟨q2, h⟩ := h
  refine z_putR fl_X2_11 rfl (Or.inr ⟨rfl, rfl⟩) dX2_init_10 q2 ?_
  obtain ⟨M3, hmM3⟩ : ∃ z, z = zsR M1 a0 0 (some (zsz M)) := ⟨_, rfl⟩
  rw [← hmM3]
  have h := h M3 hmM3
  refine z_aload_n 0 dX2_init_13 rfl ?_
  refine z_bipush dX2_init_14 (by decide) ?_
  refine z_newa (at_ := .int) (tg := 9) (n := 40) (by simp) kw_80 dX2_init_16 rfl (by decide) (Nat.le_of_ble_eq_true rfl) (Nat.le_of_ble_eq_true rfl) ?_
  obtain ⟨M4, hmM4⟩ : ∃ z, z = znew M3 9 40 := ⟨_, rfl⟩
  rw [← hmM4]
  have h := h M4 hmM4
  obtain ⟨q5, h⟩ := h
  refine z_putR fl_X2_17 rfl (Or.inr ⟨rfl, rfl⟩) dX2_init_18 q5 ?_
  obtain ⟨M6, hmM6⟩ : ∃ z, z = zsR M4 a0 1 (some (zsz M3)) := ⟨_, rfl⟩
  rw [← hmM6]
  have h := h M6 hmM6
  refine z_aload_n 0 dX2_init_21 rfl ?_
  refine z_iconst dX2_init_22 (by decide) ?_
  refine z_newa (at_ := .long) (tg := 11) (n := 4) (by simp) kw_118 dX2_init_23 rfl (by decide) (Nat.le_of_ble_eq_true rfl) (Nat.le_of_ble_eq_true rfl) ?_
  obtain ⟨M7, hmM7⟩ : ∃ z, z = znew M6 11 4 := ⟨_, rfl⟩
  rw [← hmM7]
  have h := h M7 hmM7
  obtain ⟨q8, h⟩ := h
  refine z_putR fl_X2_21 rfl (Or.inr ⟨rfl, rfl⟩) dX2_init_25 q8 ?_
  obtain ⟨M9, hmM9⟩ : ∃ z, z = zsR M7 a0 2 (some (zsz M6)) := ⟨_, rfl⟩
  rw [← hmM9]
  have h := h M9 hmM9
  refine z_aload_n 0 dX2_init_28 rfl ?_
  refine z_bipush dX2_init_29 (by decide) ?_
  refine z_newa (at_ := .long) (tg := 11) (n := 20) (by simp) kw_118 dX2_init_31 rfl (by decide) (Nat.le_of_ble_eq_true rfl) (Nat.le_of_ble_eq_true rfl) ?_
  obtain ⟨M10, hmM10⟩ : ∃ z, z = znew M9 11 20 := ⟨_, rfl⟩
  rw [← hmM10]
  have h := h M10 hmM10
  obtain ⟨q11, h⟩ := h
  refine z_putR fl_X2_25 rfl (Or.inr ⟨rfl, rfl⟩) dX2_init_33 q11 ?_
  obtain ⟨M12, hmM12⟩ : ∃ z, z = zsR M10 a0 3 (some (zsz M9)) := ⟨_, rfl⟩
  rw [← hmM12]
  have h := h M12 hmM12
  exact z_vret hr dX2_init_36 (Nat.le_of_ble_eq_true rfl) (Nat.le_of_ble_eq_true rfl) ⟨rfl, h⟩
theorem sX2_init {E : zE} {d : Nat} {P : zM → Prop} {M : zM} (a0 : Nat) (h : ∀ X : zX, (xh X).sig.returnType = none → ZX2_init E d X P 0 [(0, vR (some a0))] [] M 0 0) : zCv E mX2_init (d + 1) 4 104 [vR (some a0)] M P := z_start (f := mX2_init) rfl (Nat.le_of_ble_eq_true rfl) rfl h
abbrev ZX2_find (E : zE) (d : Nat) (X : zX) (P : Option Nat → zM → Prop) (pc : Nat) (Lc : List (Nat × zV)) (S : List zV) (M : zM) (ce sl : Nat) : Prop := zZ cX2_find RX2 "find" 2 E (zrm (d + 1) 0 0) X (zQ E (zPr P) X 0 0) pc Lc S M ce sl
set_option maxRecDepth 20000 in
theorem vX2_find_0 {E : zE} {d : Nat} {X : zX} {P : Option Nat → zM → Prop} {M : zM} (hr : (xh X).sig.returnType = (some (.object "RefitYard$Work"))) (a0 : Nat) (x1 : Int)
    (h : ((x1 < 0 → P none M) ∧ (0 ≤ x1 → zK M a0 = (3, 6) ∧ (((zI M a0 4) ≤ x1 → P none M) ∧ (x1 < (zI M a0 4) → zK M a0 = (3, 6) ∧ ∃ b5, zR M a0 0 = some b5 ∧ ((zK M b5).1 = 12 ∨ (zK M b5).1 = 13) ∧ 0 ≤ x1 ∧ x1 < ((zK M b5).2 : Int) ∧ P (zR M b5 x1) M))))) :
    ZX2_find E d X P 0 [(0, vR (some a0)), (1, vI x1)] [] M 0 0 := by
  refine z_iload_n 1 dX2_find_0 rfl ?_
  refine z_if_lt (tgt := 21) dX2_find_1 (by decide) (fun q1 => ?_) (fun q1 => ?_)
  · have h := h.1 q1
    refine z_null dX2_find_21 ?_
    exact z_aret hr dX2_find_22 (Nat.le_of_ble_eq_true rfl) (Nat.le_of_ble_eq_true rfl) ⟨_, rfl, h⟩
  · have h := h.2 q1
    refine z_iload_n 1 dX2_find_4 rfl ?_
    refine z_aload_n 0 dX2_find_5 rfl ?_
    obtain ⟨q2, h⟩ := h
    refine z_getI fl_X2_28 dX2_find_6 q2 ?_
    refine z_icmp_ge (tgt := 21) dX2_find_9 (by decide) (fun q3 => ?_) (fun q3 => ?_)
    · have h := h.1 q3
      refine z_null dX2_find_21 ?_
      exact z_aret hr dX2_find_22 (Nat.le_of_ble_eq_true rfl) (Nat.le_of_ble_eq_true rfl) ⟨_, rfl, h⟩
    · have h := h.2 q3
      refine z_aload_n 0 dX2_find_12 rfl ?_
      obtain ⟨q4, h⟩ := h
      refine z_getR fl_X2_11 rfl dX2_find_13 q4 ?_
      refine z_iload_n 1 dX2_find_16 rfl ?_
      obtain ⟨b5, eb5, h⟩ := h
      rw [eb5]
      obtain ⟨q6, h⟩ := h
      obtain ⟨q7, h⟩ := h
      obtain ⟨q8, h⟩ := h
      refine z_aald dX2_find_17 (n := (zK M b5).2) rfl q6 q7 q8 ?_
      refine z_goto (tgt := 22) dX2_find_18 (by decide) ?_
      exact z_aret hr dX2_find_22 (Nat.le_of_ble_eq_true rfl) (Nat.le_of_ble_eq_true rfl) ⟨_, rfl, h⟩
theorem sX2_find {E : zE} {d : Nat} {P : Option Nat → zM → Prop} {M : zM} (a0 : Nat) (x1 : Int) (h : ∀ X : zX, (xh X).sig.returnType = (some (.object "RefitYard$Work")) → ZX2_find E d X P 0 [(0, vR (some a0)), (1, vI x1)] [] M 0 0) : zCr E mX2_find (d + 1) 0 0 [vR (some a0), vI x1] M P := z_start (f := mX2_find) rfl (Nat.le_of_ble_eq_true rfl) rfl h
abbrev ZX2_addWork (E : zE) (d : Nat) (X : zX) (P : zM → Prop) (pc : Nat) (Lc : List (Nat × zV)) (S : List zV) (M : zM) (ce sl : Nat) : Prop := zZ cX2_addWork RX2 "addWork" 2 E (zrm (d + 1) 0 0) X (zQ E (zPv P) X 0 0) pc Lc S M ce sl
set_option maxRecDepth 20000 in
theorem vX2_addWork_0 {E : zE} {d : Nat} {X : zX} {P : zM → Prop} {M : zM} (hr : (xh X).sig.returnType = none) (a0 : Nat) (a1 : Nat)
    (h : zK M a0 = (3, 6) ∧ zK M a0 = (3, 6) ∧ ∃ b3, zR M a0 0 = some b3 ∧ (zK M b3).1 = 12 ∧ zK M a1 = (6, 16) ∧ 0 ≤ (zI M a0 4) ∧ (zI M a0 4) < ((zK M b3).2 : Int) ∧ ∀ M8, M8 = zsR M b3 (zI M a0 4) (some a1) → zK M8 a0 = (3, 6) ∧ zin ((zI M8 a0 4) + 1) ∧ zK M8 a0 = (3, 6) ∧ ∀ M12, M12 = zsI M8 a0 4 ((zI M8 a0 4) + 1) → zK M12 a0 = (3, 6) ∧ zK M12 a1 = (6, 16) ∧ ∃ b15, zR M12 a0 3 = some b15 ∧ (zK M12 b15).1 = 11 ∧ 0 ≤ (zI M12 a1 4) ∧ (zI M12 a1 4) < ((zK M12 b15).2 : Int) ∧ zK M12 a1 = (6, 16) ∧ (zK M12 b15).1 = 11 ∧ 0 ≤ (zI M12 a1 4) ∧ (zI M12 a1 4) < ((zK M12 b15).2 : Int) ∧ ∀ M23, M23 = zsL M12 b15 (zI M12 a1 4) ((zL M12 b15 (zI M12 a1 4)) ||| (zL M12 a1 1)) → zK M23 a1 = (6, 16) ∧ (((zI M23 a1 6) = (-1) → zK M23 a0 = (3, 6) ∧ ∃ P26 : zM → Prop, zCv E mX2_weigh d 0 0 [vR (some a0)] M23 P26 ∧ ∀ M28, P26 M28 → P M28) ∧ ((zI M23 a1 6) ≠ (-1) → zK M23 a0 = (3, 6) ∧ zK M23 a1 = (6, 16) ∧ ∃ b34, zR M23 a0 2 = some b34 ∧ (zK M23 b34).1 = 11 ∧ 0 ≤ (zI M23 a1 6) ∧ (zI M23 a1 6) < ((zK M23 b34).2 : Int) ∧ zK M23 a1 = (6, 16) ∧ (zK M23 b34).1 = 11 ∧ 0 ≤ (zI M23 a1 6) ∧ (zI M23 a1 6) < ((zK M23 b34).2 : Int) ∧ ∀ M42, M42 = zsL M23 b34 (zI M23 a1 6) ((zL M23 b34 (zI M23 a1 6)) ||| (zL M23 a1 1)) → zK M42 a0 = (3, 6) ∧ ∃ P43 : zM → Prop, zCv E mX2_weigh d 0 0 [vR (some a0)] M42 P43 ∧ ∀ M45, P43 M45 → P M45))) :
    ZX2_addWork E d X P 0 [(0, vR (some a0)), (1, vR (some a1))] [] M 0 0 := by
  refine z_aload_n 0 dX2_addWork_0 rfl ?_
  obtain ⟨q1, h⟩ := h
  refine z_getR fl_X2_11 rfl dX2_addWork_1 q1 ?_
  refine z_aload_n 0 dX2_addWork_4 rfl ?_
  obtain ⟨q2, h⟩ := h
  refine z_getI fl_X2_28 dX2_addWork_5 q2 ?_
  refine z_aload_n 1 dX2_addWork_8 rfl ?_
  obtain ⟨b3, eb3, h⟩ := h
  rw [eb3]
  obtain ⟨q4, h⟩ := h
  obtain ⟨q5, h⟩ := h
  obtain ⟨q6, h⟩ := h
  obtain ⟨q7, h⟩ := h
  refine z_aast dX2_addWork_9 (n := (zK M b3).2) (Prod.ext q4 rfl) q5 q6 q7 ?_
  obtain ⟨M8, hmM8⟩ : ∃ z, z = zsR M b3 (zI M a0 4) (some a1) := ⟨_, rfl⟩
  rw [← hmM8]
  have h := h M8 hmM8
  refine z_aload_n 0 dX2_addWork_10 rfl ?_
  refine z_dup dX2_addWork_11 rfl ?_
  obtain ⟨q9, h⟩ := h
  refine z_getI fl_X2_28 dX2_addWork_12 q9 ?_
  refine z_iconst dX2_addWork_15 (by decide) ?_
  obtain ⟨q10, h⟩ := h
  refine z_iadd dX2_addWork_16 q10 ?_
  obtain ⟨q11, h⟩ := h
  refine z_putI fl_X2_28 (Or.inl rfl) dX2_addWork_17 q11 ?_
  obtain ⟨M12, hmM12⟩ : ∃ z, z = zsI M8 a0 4 ((zI M8 a0 4) + 1) := ⟨_, rfl⟩
  rw [← hmM12]
  have h := h M12 hmM12
  refine z_aload_n 0 dX2_addWork_20 rfl ?_
  obtain ⟨q13, h⟩ := h
  refine z_getR fl_X2_25 rfl dX2_addWork_21 q13 ?_
  refine z_aload_n 1 dX2_addWork_24 rfl ?_
  obtain ⟨q14, h⟩ := h
  refine z_getI fl_X2_32 dX2_addWork_25 q14 ?_
  refine z_dup2 dX2_addWork_28 rfl rfl ?_
  obtain ⟨b15, eb15, h⟩ := h
  rw [eb15]
  obtain ⟨q16, h⟩ := h
  obtain ⟨q17, h⟩ := h
  obtain ⟨q18, h⟩ := h
  refine z_lald dX2_addWork_29 (n := (zK M12 b15).2) (Prod.ext q16 rfl) q17 q18 ?_
  refine z_aload_n 1 dX2_addWork_30 rfl ?_
  obtain ⟨q19, h⟩ := h
  refine z_getL fl_X2_35 dX2_addWork_31 q19 ?_
  refine z_lor dX2_addWork_34 ?_
  obtain ⟨q20, h⟩ := h
  obtain ⟨q21, h⟩ := h
  obtain ⟨q22, h⟩ := h
  refine z_last dX2_addWork_35 (n := (zK M12 b15).2) (Prod.ext q20 rfl) q21 q22 ?_
  obtain ⟨M23, hmM23⟩ : ∃ z, z = zsL M12 b15 (zI M12 a1 4) ((zL M12 b15 (zI M12 a1 4)) ||| (zL M12 a1 1)) := ⟨_, rfl⟩
  rw [← hmM23]
  have h := h M23 hmM23
  refine z_aload_n 1 dX2_addWork_36 rfl ?_
  obtain ⟨q24, h⟩ := h
  refine z_getI fl_X2_39 dX2_addWork_37 q24 ?_
  refine z_iconst dX2_addWork_40 (by decide) ?_
  refine z_icmp_eq (tgt := 60) dX2_addWork_41 (by decide) (fun q25 => ?_) (fun q25 => ?_)
  · have h := h.1 q25
    refine z_aload_n 0 dX2_addWork_60 rfl ?_
    obtain ⟨q31, h⟩ := h
    obtain ⟨P26, c27, h⟩ := h
    refine z_Vv (as := []) mv_X2_42 dX2_addWork_61 c27 q31 rfl rfl (Nat.le_of_ble_eq_true rfl) (Nat.le_of_ble_eq_true rfl) (Nat.le_of_ble_eq_true rfl) (fun M28 p30 => ?_)
    have h := h M28 p30
    exact z_vret hr dX2_addWork_64 (Nat.le_of_ble_eq_true rfl) (Nat.le_of_ble_eq_true rfl) ⟨rfl, h⟩
  · have h := h.2 q25
    refine z_aload_n 0 dX2_addWork_44 rfl ?_
    obtain ⟨q32, h⟩ := h
    refine z_getR fl_X2_21 rfl dX2_addWork_45 q32 ?_
    refine z_aload_n 1 dX2_addWork_48 rfl ?_
    obtain ⟨q33, h⟩ := h
    refine z_getI fl_X2_39 dX2_addWork_49 q33 ?_
    refine z_dup2 dX2_addWork_52 rfl rfl ?_
    obtain ⟨b34, eb34, h⟩ := h
    rw [eb34]
    obtain ⟨q35, h⟩ := h
    obtain ⟨q36, h⟩ := h
    obtain ⟨q37, h⟩ := h
    refine z_lald dX2_addWork_53 (n := (zK M23 b34).2) (Prod.ext q35 rfl) q36 q37 ?_
    refine z_aload_n 1 dX2_addWork_54 rfl ?_
    obtain ⟨q38, h⟩ := h
    refine z_getL fl_X2_35 dX2_addWork_55 q38 ?_
    refine z_lor dX2_addWork_58 ?_
    obtain ⟨q39, h⟩ := h
    obtain ⟨q40, h⟩ := h
    obtain ⟨q41, h⟩ := h
    refine z_last dX2_addWork_59 (n := (zK M23 b34).2) (Prod.ext q39 rfl) q40 q41 ?_
    obtain ⟨M42, hmM42⟩ : ∃ z, z = zsL M23 b34 (zI M23 a1 6) ((zL M23 b34 (zI M23 a1 6)) ||| (zL M23 a1 1)) := ⟨_, rfl⟩
    rw [← hmM42]
    have h := h M42 hmM42
    refine z_aload_n 0 dX2_addWork_60 rfl ?_
    obtain ⟨q48, h⟩ := h
    obtain ⟨P43, c44, h⟩ := h
    refine z_Vv (as := []) mv_X2_42 dX2_addWork_61 c44 q48 rfl rfl (Nat.le_of_ble_eq_true rfl) (Nat.le_of_ble_eq_true rfl) (Nat.le_of_ble_eq_true rfl) (fun M45 p47 => ?_)
    have h := h M45 p47
    exact z_vret hr dX2_addWork_64 (Nat.le_of_ble_eq_true rfl) (Nat.le_of_ble_eq_true rfl) ⟨rfl, h⟩
theorem sX2_addWork {E : zE} {d : Nat} {P : zM → Prop} {M : zM} (a0 : Nat) (a1 : Nat) (h : ∀ X : zX, (xh X).sig.returnType = none → ZX2_addWork E d X P 0 [(0, vR (some a0)), (1, vR (some a1))] [] M 0 0) : zCv E mX2_addWork (d + 1) 0 0 [vR (some a0), vR (some a1)] M P := z_start (f := mX2_addWork) rfl (Nat.le_of_ble_eq_true rfl) rfl h
abbrev ZX2_link (E : zE) (d : Nat) (X : zX) (P : zM → Prop) (pc : Nat) (Lc : List (Nat × zV)) (S : List zV) (M : zM) (ce sl : Nat) : Prop := zZ cX2_link RX2 "link" 7 E (zrm (d + 1) 0 0) X (zQ E (zPv P) X 0 0) pc Lc S M ce sl
set_option maxRecDepth 20000 in
theorem vX2_link_0 {E : zE} {d : Nat} {X : zX} {P : zM → Prop} {M : zM} (hr : (xh X).sig.returnType = none) (a0 : Nat) (a1 : Nat) (a2 : Nat)
    (h : zK M a1 = (6, 16) ∧ zK M a2 = (6, 16) ∧ zK M a1 = (6, 16) ∧ ∀ M4, M4 = zsL M a1 12 ((zL M a1 12) ||| (zL M a2 1)) → zK M4 a2 = (6, 16) ∧ zK M4 a2 = (6, 16) ∧ ZX2_link E d X P 26 [(0, vR (some a0)), (1, vR (some a1)), (2, vR (some a2)), (3, vL ((zL M4 a2 13) ||| (zL M4 a2 1))), (5, vI 0)] [] M4 0 0) :
    ZX2_link E d X P 0 [(0, vR (some a0)), (1, vR (some a1)), (2, vR (some a2))] [] M 0 0 := by
  refine z_aload_n 1 dX2_link_0 rfl ?_
  refine z_dup dX2_link_1 rfl ?_
  obtain ⟨q1, h⟩ := h
  refine z_getL fl_X2_45 dX2_link_2 q1 ?_
  refine z_aload_n 2 dX2_link_5 rfl ?_
  obtain ⟨q2, h⟩ := h
  refine z_getL fl_X2_35 dX2_link_6 q2 ?_
  refine z_lor dX2_link_9 ?_
  obtain ⟨q3, h⟩ := h
  refine z_putL fl_X2_45 (Or.inl rfl) dX2_link_10 q3 ?_
  obtain ⟨M4, hmM4⟩ : ∃ z, z = zsL M a1 12 ((zL M a1 12) ||| (zL M a2 1)) := ⟨_, rfl⟩
  rw [← hmM4]
  have h := h M4 hmM4
  refine z_aload_n 2 dX2_link_13 rfl ?_
  obtain ⟨q5, h⟩ := h
  refine z_getL fl_X2_48 dX2_link_14 q5 ?_
  refine z_aload_n 2 dX2_link_17 rfl ?_
  obtain ⟨q6, h⟩ := h
  refine z_getL fl_X2_35 dX2_link_18 q6 ?_
  refine z_lor dX2_link_21 ?_
  refine z_lstore_n dX2_link_22 (by decide) rfl ?_
  refine z_iconst dX2_link_23 (by decide) ?_
  refine z_istore dX2_link_24 (by decide) rfl ?_
  exact z_sub [2, 3, 4, 1, 0] rfl h
set_option maxRecDepth 20000 in
theorem vX2_link_26 {E : zE} {d : Nat} {X : zX} {P : zM → Prop} {M : zM} (hr : (xh X).sig.returnType = none) (a0 : Nat) (a1 : Nat) (a2 : Nat) (l3 : Int64) (x5 : Int)
    (h : zK M a0 = (3, 6) ∧ (((zI M a0 4) ≤ x5 → zK M a0 = (3, 6) ∧ ∃ P3 : zM → Prop, zCv E mX2_weigh d 0 0 [vR (some a0)] M P3 ∧ ∀ M5, P3 M5 → P M5) ∧ (x5 < (zI M a0 4) → zK M a0 = (3, 6) ∧ ∃ b10, zR M a0 0 = some b10 ∧ ((zK M b10).1 = 12 ∨ (zK M b10).1 = 13) ∧ 0 ≤ x5 ∧ x5 < ((zK M b10).2 : Int) ∧ ((zR M b10 x5 = some a1 → ∃ b15, zR M b10 x5 = some b15 ∧ zK M b15 = (6, 16) ∧ zK M b15 = (6, 16) ∧ ∀ M18, M18 = zsL M b15 13 ((zL M b15 13) ||| l3) → zin (x5 + 1) ∧ ZX2_link E d X P 26 [(0, vR (some a0)), (1, vR (some a1)), (2, vR (some a2)), (3, vL l3), (5, vI (x5 + 1))] [] M18 0 0) ∧ (zR M b10 x5 ≠ some a1 → ∃ b20, zR M b10 x5 = some b20 ∧ zK M b20 = (6, 16) ∧ ∃ P21 : Int → zM → Prop, zCi E mX5_hangsOn d 0 0 [vR (some b20), vR (some a1)] M P21 ∧ ∀ r24 M23, P21 r24 M23 → ((r24 = 0 → zin (x5 + 1) ∧ ZX2_link E d X P 26 [(0, vR (some a0)), (1, vR (some a1)), (2, vR (some a2)), (3, vL l3), (5, vI (x5 + 1))] [] M23 0 0) ∧ (r24 ≠ 0 → zK M23 b20 = (6, 16) ∧ zK M23 b20 = (6, 16) ∧ ∀ M31, M31 = zsL M23 b20 13 ((zL M23 b20 13) ||| l3) → zin (x5 + 1) ∧ ZX2_link E d X P 26 [(0, vR (some a0)), (1, vR (some a1)), (2, vR (some a2)), (3, vL l3), (5, vI (x5 + 1))] [] M31 0 0))))))) :
    ZX2_link E d X P 26 [(0, vR (some a0)), (1, vR (some a1)), (2, vR (some a2)), (3, vL l3), (5, vI x5)] [] M 0 0 := by
  refine z_iload 4 dX2_link_26 rfl ?_
  refine z_aload_n 0 dX2_link_28 rfl ?_
  obtain ⟨q1, h⟩ := h
  refine z_getI fl_X2_28 dX2_link_29 q1 ?_
  refine z_icmp_ge (tgt := 76) dX2_link_32 (by decide) (fun q2 => ?_) (fun q2 => ?_)
  · have h := h.1 q2
    refine z_aload_n 0 dX2_link_76 rfl ?_
    obtain ⟨q8, h⟩ := h
    obtain ⟨P3, c4, h⟩ := h
    refine z_Vv (as := []) mv_X2_42 dX2_link_77 c4 q8 rfl rfl (Nat.le_of_ble_eq_true rfl) (Nat.le_of_ble_eq_true rfl) (Nat.le_of_ble_eq_true rfl) (fun M5 p7 => ?_)
    have h := h M5 p7
    exact z_vret hr dX2_link_80 (Nat.le_of_ble_eq_true rfl) (Nat.le_of_ble_eq_true rfl) ⟨rfl, h⟩
  · have h := h.2 q2
    refine z_aload_n 0 dX2_link_35 rfl ?_
    obtain ⟨q9, h⟩ := h
    refine z_getR fl_X2_11 rfl dX2_link_36 q9 ?_
    refine z_iload 4 dX2_link_39 rfl ?_
    obtain ⟨b10, eb10, h⟩ := h
    rw [eb10]
    obtain ⟨q11, h⟩ := h
    obtain ⟨q12, h⟩ := h
    obtain ⟨q13, h⟩ := h
    refine z_aald dX2_link_41 (n := (zK M b10).2) rfl q11 q12 q13 ?_
    refine z_astore dX2_link_42 (by decide) rfl ?_
    refine z_aload 0 dX2_link_44 rfl ?_
    refine z_aload_n 2 dX2_link_46 rfl ?_
    refine z_acmp_eq (tgt := 59) dX2_link_47 (by decide) (fun q14 => ?_) (fun q14 => ?_)
    · have h := h.1 q14
      refine z_aload 0 dX2_link_59 rfl ?_
      refine z_dup dX2_link_61 rfl ?_
      obtain ⟨b15, eb15, h⟩ := h
      rw [eb15]
      obtain ⟨q16, h⟩ := h
      refine z_getL fl_X2_48 dX2_link_62 q16 ?_
      refine z_lload_n 4 dX2_link_65 rfl ?_
      refine z_lor dX2_link_66 ?_
      obtain ⟨q17, h⟩ := h
      refine z_putL fl_X2_48 (Or.inl rfl) dX2_link_67 q17 ?_
      obtain ⟨M18, hmM18⟩ : ∃ z, z = zsL M b15 13 ((zL M b15 13) ||| l3) := ⟨_, rfl⟩
      rw [← hmM18]
      have h := h M18 hmM18
      obtain ⟨q19, h⟩ := h
      refine z_iinc 5 dX2_link_70 rfl (by decide) q19 rfl ?_
      refine z_goto (tgt := 26) dX2_link_73 (by decide) ?_
      exact z_sub [2, 3, 4, 5, 0] rfl h
    · have h := h.2 q14
      refine z_aload 0 dX2_link_50 rfl ?_
      refine z_aload_n 2 dX2_link_52 rfl ?_
      obtain ⟨b20, eb20, h⟩ := h
      rw [eb20]
      obtain ⟨q26, h⟩ := h
      obtain ⟨P21, c22, h⟩ := h
      refine z_Vi (as := [vR (some a1)]) mv_X2_51 dX2_link_53 c22 q26 rfl rfl (Nat.le_of_ble_eq_true rfl) (Nat.le_of_ble_eq_true rfl) (Nat.le_of_ble_eq_true rfl) (fun r24 M23 p25 => ?_)
      have h := h r24 M23 p25
      refine z_if_eq (tgt := 70) dX2_link_56 (by decide) (fun q27 => ?_) (fun q27 => ?_)
      · have h := h.1 q27
        obtain ⟨q28, h⟩ := h
        refine z_iinc 5 dX2_link_70 rfl (by decide) q28 rfl ?_
        refine z_goto (tgt := 26) dX2_link_73 (by decide) ?_
        exact z_sub [2, 3, 4, 5, 0] rfl h
      · have h := h.2 q27
        refine z_aload 0 dX2_link_59 rfl ?_
        refine z_dup dX2_link_61 rfl ?_
        obtain ⟨q29, h⟩ := h
        refine z_getL fl_X2_48 dX2_link_62 q29 ?_
        refine z_lload_n 4 dX2_link_65 rfl ?_
        refine z_lor dX2_link_66 ?_
        obtain ⟨q30, h⟩ := h
        refine z_putL fl_X2_48 (Or.inl rfl) dX2_link_67 q30 ?_
        obtain ⟨M31, hmM31⟩ : ∃ z, z = zsL M23 b20 13 ((zL M23 b20 13) ||| l3) := ⟨_, rfl⟩
        rw [← hmM31]
        have h := h M31 hmM31
        obtain ⟨q32, h⟩ := h
        refine z_iinc 5 dX2_link_70 rfl (by decide) q32 rfl ?_
        refine z_goto (tgt := 26) dX2_link_73 (by decide) ?_
        exact z_sub [2, 3, 4, 5, 0] rfl h
theorem sX2_link {E : zE} {d : Nat} {P : zM → Prop} {M : zM} (a0 : Nat) (a1 : Nat) (a2 : Nat) (h : ∀ X : zX, (xh X).sig.returnType = none → ZX2_link E d X P 0 [(0, vR (some a0)), (1, vR (some a1)), (2, vR (some a2))] [] M 0 0) : zCv E mX2_link (d + 1) 0 0 [vR (some a0), vR (some a1), vR (some a2)] M P := z_start (f := mX2_link) rfl (Nat.le_of_ble_eq_true rfl) rfl h
abbrev ZX2_weigh (E : zE) (d : Nat) (X : zX) (P : zM → Prop) (pc : Nat) (Lc : List (Nat × zV)) (S : List zV) (M : zM) (ce sl : Nat) : Prop := zZ cX2_weigh RX2 "weigh" 2 E (zrm (d + 1) 0 0) X (zQ E (zPv P) X 0 0) pc Lc S M ce sl
set_option maxRecDepth 20000 in
theorem vX2_weigh_0 {E : zE} {d : Nat} {X : zX} {P : zM → Prop} {M : zM} (hr : (xh X).sig.returnType = none) (a0 : Nat)
    (h : zK M a0 = (3, 6) ∧ ∃ P1 : zM → Prop, zCv E mX2_rank d 0 0 [vR (some a0)] M P1 ∧ ∀ M3, P1 M3 → ZX2_weigh E d X P 6 [(0, vR (some a0)), (1, vI 0)] [] M3 0 0) :
    ZX2_weigh E d X P 0 [(0, vR (some a0))] [] M 0 0 := by
  refine z_aload_n 0 dX2_weigh_0 rfl ?_
  obtain ⟨q6, h⟩ := h
  obtain ⟨P1, c2, h⟩ := h
  refine z_Vv (as := []) mv_X2_55 dX2_weigh_1 c2 q6 rfl rfl (Nat.le_of_ble_eq_true rfl) (Nat.le_of_ble_eq_true rfl) (Nat.le_of_ble_eq_true rfl) (fun M3 p5 => ?_)
  have h := h M3 p5
  refine z_iconst dX2_weigh_4 (by decide) ?_
  refine z_istore_n dX2_weigh_5 (by decide) rfl ?_
  exact z_sub [1, 0] rfl h
set_option maxRecDepth 20000 in
theorem vX2_weigh_6 {E : zE} {d : Nat} {X : zX} {P : zM → Prop} {M : zM} (hr : (xh X).sig.returnType = none) (a0 : Nat) (x1 : Int)
    (h : zK M a0 = (3, 6) ∧ (((zI M a0 4) ≤ x1 → ZX2_weigh E d X P 42 [(0, vR (some a0)), (1, vI 0)] [] M 0 0) ∧ (x1 < (zI M a0 4) → zK M a0 = (3, 6) ∧ ∃ b4, zR M a0 0 = some b4 ∧ ((zK M b4).1 = 12 ∨ (zK M b4).1 = 13) ∧ 0 ≤ x1 ∧ x1 < ((zK M b4).2 : Int) ∧ ∃ b8, zR M b4 x1 = some b8 ∧ zK M b8 = (6, 16) ∧ ∀ M10, M10 = zsI M b8 10 0 → zK M10 a0 = (3, 6) ∧ ∃ b12, zR M10 a0 0 = some b12 ∧ ((zK M10 b12).1 = 12 ∨ (zK M10 b12).1 = 13) ∧ 0 ≤ x1 ∧ x1 < ((zK M10 b12).2 : Int) ∧ ∃ b16, zR M10 b12 x1 = some b16 ∧ zK M10 b16 = (6, 16) ∧ ∀ M18, M18 = zsI M10 b16 11 0 → zin (x1 + 1) ∧ ZX2_weigh E d X P 6 [(0, vR (some a0)), (1, vI (x1 + 1))] [] M18 0 0))) :
    ZX2_weigh E d X P 6 [(0, vR (some a0)), (1, vI x1)] [] M 0 0 := by
  refine z_iload_n 1 dX2_weigh_6 rfl ?_
  refine z_aload_n 0 dX2_weigh_7 rfl ?_
  obtain ⟨q1, h⟩ := h
  refine z_getI fl_X2_28 dX2_weigh_8 q1 ?_
  refine z_icmp_ge (tgt := 40) dX2_weigh_11 (by decide) (fun q2 => ?_) (fun q2 => ?_)
  · have h := h.1 q2
    refine z_iconst dX2_weigh_40 (by decide) ?_
    refine z_istore_n dX2_weigh_41 (by decide) rfl ?_
    exact z_sub [1, 0] rfl h
  · have h := h.2 q2
    refine z_aload_n 0 dX2_weigh_14 rfl ?_
    obtain ⟨q3, h⟩ := h
    refine z_getR fl_X2_11 rfl dX2_weigh_15 q3 ?_
    refine z_iload_n 1 dX2_weigh_18 rfl ?_
    obtain ⟨b4, eb4, h⟩ := h
    rw [eb4]
    obtain ⟨q5, h⟩ := h
    obtain ⟨q6, h⟩ := h
    obtain ⟨q7, h⟩ := h
    refine z_aald dX2_weigh_19 (n := (zK M b4).2) rfl q5 q6 q7 ?_
    refine z_iconst dX2_weigh_20 (by decide) ?_
    obtain ⟨b8, eb8, h⟩ := h
    rw [eb8]
    obtain ⟨q9, h⟩ := h
    refine z_putI fl_X2_58 (Or.inl rfl) dX2_weigh_21 q9 ?_
    obtain ⟨M10, hmM10⟩ : ∃ z, z = zsI M b8 10 0 := ⟨_, rfl⟩
    rw [← hmM10]
    have h := h M10 hmM10
    refine z_aload_n 0 dX2_weigh_24 rfl ?_
    obtain ⟨q11, h⟩ := h
    refine z_getR fl_X2_11 rfl dX2_weigh_25 q11 ?_
    refine z_iload_n 1 dX2_weigh_28 rfl ?_
    obtain ⟨b12, eb12, h⟩ := h
    rw [eb12]
    obtain ⟨q13, h⟩ := h
    obtain ⟨q14, h⟩ := h
    obtain ⟨q15, h⟩ := h
    refine z_aald dX2_weigh_29 (n := (zK M10 b12).2) rfl q13 q14 q15 ?_
    refine z_iconst dX2_weigh_30 (by decide) ?_
    obtain ⟨b16, eb16, h⟩ := h
    rw [eb16]
    obtain ⟨q17, h⟩ := h
    refine z_putI fl_X2_61 (Or.inl rfl) dX2_weigh_31 q17 ?_
    obtain ⟨M18, hmM18⟩ : ∃ z, z = zsI M10 b16 11 0 := ⟨_, rfl⟩
    rw [← hmM18]
    have h := h M18 hmM18
    obtain ⟨q19, h⟩ := h
    refine z_iinc 1 dX2_weigh_34 rfl (by decide) q19 rfl ?_
    refine z_goto (tgt := 6) dX2_weigh_37 (by decide) ?_
    exact z_sub [1, 0] rfl h
set_option maxRecDepth 20000 in
theorem vX2_weigh_42 {E : zE} {d : Nat} {X : zX} {P : zM → Prop} {M : zM} (hr : (xh X).sig.returnType = none) (a0 : Nat) (x1 : Int)
    (h : zK M a0 = (3, 6) ∧ (((zI M a0 4) ≤ x1 → zK M a0 = (3, 6) ∧ zin ((zI M a0 4) - 1) ∧ ZX2_weigh E d X P 78 [(0, vR (some a0)), (1, vI ((zI M a0 4) - 1))] [] M 0 0) ∧ (x1 < (zI M a0 4) → zK M a0 = (3, 6) ∧ zK M a0 = (3, 6) ∧ ∃ b7, zR M a0 1 = some b7 ∧ (zK M b7).1 = 9 ∧ 0 ≤ x1 ∧ x1 < ((zK M b7).2 : Int) ∧ ∃ b11, zR M a0 0 = some b11 ∧ ((zK M b11).1 = 12 ∨ (zK M b11).1 = 13) ∧ 0 ≤ (zI M b7 x1) ∧ (zI M b7 x1) < ((zK M b11).2 : Int) ∧ ∃ b15, zR M b11 (zI M b7 x1) = some b15 ∧ zK M a0 = (3, 6) ∧ ∃ P16 : zM → Prop, zCv E mX2_pushEarly d 0 0 [vR (some a0), vR (some b15)] M P16 ∧ ∀ M18, P16 M18 → zin (x1 + 1) ∧ ZX2_weigh E d X P 42 [(0, vR (some a0)), (1, vI (x1 + 1))] [] M18 0 0))) :
    ZX2_weigh E d X P 42 [(0, vR (some a0)), (1, vI x1)] [] M 0 0 := by
  refine z_iload_n 1 dX2_weigh_42 rfl ?_
  refine z_aload_n 0 dX2_weigh_43 rfl ?_
  obtain ⟨q1, h⟩ := h
  refine z_getI fl_X2_28 dX2_weigh_44 q1 ?_
  refine z_icmp_ge (tgt := 71) dX2_weigh_47 (by decide) (fun q2 => ?_) (fun q2 => ?_)
  · have h := h.1 q2
    refine z_aload_n 0 dX2_weigh_71 rfl ?_
    obtain ⟨q3, h⟩ := h
    refine z_getI fl_X2_28 dX2_weigh_72 q3 ?_
    refine z_iconst dX2_weigh_75 (by decide) ?_
    obtain ⟨q4, h⟩ := h
    refine z_isub dX2_weigh_76 q4 ?_
    refine z_istore_n dX2_weigh_77 (by decide) rfl ?_
    exact z_sub [1, 0] rfl h
  · have h := h.2 q2
    refine z_aload_n 0 dX2_weigh_50 rfl ?_
    refine z_aload_n 0 dX2_weigh_51 rfl ?_
    obtain ⟨q5, h⟩ := h
    refine z_getR fl_X2_11 rfl dX2_weigh_52 q5 ?_
    refine z_aload_n 0 dX2_weigh_55 rfl ?_
    obtain ⟨q6, h⟩ := h
    refine z_getR fl_X2_17 rfl dX2_weigh_56 q6 ?_
    refine z_iload_n 1 dX2_weigh_59 rfl ?_
    obtain ⟨b7, eb7, h⟩ := h
    rw [eb7]
    obtain ⟨q8, h⟩ := h
    obtain ⟨q9, h⟩ := h
    obtain ⟨q10, h⟩ := h
    refine z_iald dX2_weigh_60 (n := (zK M b7).2) (Prod.ext q8 rfl) q9 q10 ?_
    obtain ⟨b11, eb11, h⟩ := h
    rw [eb11]
    obtain ⟨q12, h⟩ := h
    obtain ⟨q13, h⟩ := h
    obtain ⟨q14, h⟩ := h
    refine z_aald dX2_weigh_61 (n := (zK M b11).2) rfl q12 q13 q14 ?_
    obtain ⟨b15, eb15, h⟩ := h
    rw [eb15]
    obtain ⟨q21, h⟩ := h
    obtain ⟨P16, c17, h⟩ := h
    refine z_Vv (as := [vR (some b15)]) mv_X2_64 dX2_weigh_62 c17 q21 rfl rfl (Nat.le_of_ble_eq_true rfl) (Nat.le_of_ble_eq_true rfl) (Nat.le_of_ble_eq_true rfl) (fun M18 p20 => ?_)
    have h := h M18 p20
    obtain ⟨q22, h⟩ := h
    refine z_iinc 1 dX2_weigh_65 rfl (by decide) q22 rfl ?_
    refine z_goto (tgt := 42) dX2_weigh_68 (by decide) ?_
    exact z_sub [1, 0] rfl h
set_option maxRecDepth 20000 in
theorem vX2_weigh_78 {E : zE} {d : Nat} {X : zX} {P : zM → Prop} {M : zM} (hr : (xh X).sig.returnType = none) (a0 : Nat) (x1 : Int)
    (h : ((x1 < 0 → zK M a0 = (3, 6) ∧ ∀ M3, M3 = zsI M a0 5 0 → ZX2_weigh E d X P 110 [(0, vR (some a0)), (1, vI 0)] [] M3 0 0) ∧ (0 ≤ x1 → zK M a0 = (3, 6) ∧ zK M a0 = (3, 6) ∧ ∃ b6, zR M a0 1 = some b6 ∧ (zK M b6).1 = 9 ∧ 0 ≤ x1 ∧ x1 < ((zK M b6).2 : Int) ∧ ∃ b10, zR M a0 0 = some b10 ∧ ((zK M b10).1 = 12 ∨ (zK M b10).1 = 13) ∧ 0 ≤ (zI M b6 x1) ∧ (zI M b6 x1) < ((zK M b10).2 : Int) ∧ ∃ b14, zR M b10 (zI M b6 x1) = some b14 ∧ zK M a0 = (3, 6) ∧ ∃ P15 : zM → Prop, zCv E mX2_pushTail d 0 0 [vR (some a0), vR (some b14)] M P15 ∧ ∀ M17, P15 M17 → zin (x1 + (-1)) ∧ ZX2_weigh E d X P 78 [(0, vR (some a0)), (1, vI (x1 + (-1)))] [] M17 0 0))) :
    ZX2_weigh E d X P 78 [(0, vR (some a0)), (1, vI x1)] [] M 0 0 := by
  refine z_iload_n 1 dX2_weigh_78 rfl ?_
  refine z_if_lt (tgt := 103) dX2_weigh_79 (by decide) (fun q1 => ?_) (fun q1 => ?_)
  · have h := h.1 q1
    refine z_aload_n 0 dX2_weigh_103 rfl ?_
    refine z_iconst dX2_weigh_104 (by decide) ?_
    obtain ⟨q2, h⟩ := h
    refine z_putI fl_X2_71 (Or.inl rfl) dX2_weigh_105 q2 ?_
    obtain ⟨M3, hmM3⟩ : ∃ z, z = zsI M a0 5 0 := ⟨_, rfl⟩
    rw [← hmM3]
    have h := h M3 hmM3
    refine z_iconst dX2_weigh_108 (by decide) ?_
    refine z_istore_n dX2_weigh_109 (by decide) rfl ?_
    exact z_sub [1, 0] rfl h
  · have h := h.2 q1
    refine z_aload_n 0 dX2_weigh_82 rfl ?_
    refine z_aload_n 0 dX2_weigh_83 rfl ?_
    obtain ⟨q4, h⟩ := h
    refine z_getR fl_X2_11 rfl dX2_weigh_84 q4 ?_
    refine z_aload_n 0 dX2_weigh_87 rfl ?_
    obtain ⟨q5, h⟩ := h
    refine z_getR fl_X2_17 rfl dX2_weigh_88 q5 ?_
    refine z_iload_n 1 dX2_weigh_91 rfl ?_
    obtain ⟨b6, eb6, h⟩ := h
    rw [eb6]
    obtain ⟨q7, h⟩ := h
    obtain ⟨q8, h⟩ := h
    obtain ⟨q9, h⟩ := h
    refine z_iald dX2_weigh_92 (n := (zK M b6).2) (Prod.ext q7 rfl) q8 q9 ?_
    obtain ⟨b10, eb10, h⟩ := h
    rw [eb10]
    obtain ⟨q11, h⟩ := h
    obtain ⟨q12, h⟩ := h
    obtain ⟨q13, h⟩ := h
    refine z_aald dX2_weigh_93 (n := (zK M b10).2) rfl q11 q12 q13 ?_
    obtain ⟨b14, eb14, h⟩ := h
    rw [eb14]
    obtain ⟨q20, h⟩ := h
    obtain ⟨P15, c16, h⟩ := h
    refine z_Vv (as := [vR (some b14)]) mv_X2_68 dX2_weigh_94 c16 q20 rfl rfl (Nat.le_of_ble_eq_true rfl) (Nat.le_of_ble_eq_true rfl) (Nat.le_of_ble_eq_true rfl) (fun M17 p19 => ?_)
    have h := h M17 p19
    obtain ⟨q21, h⟩ := h
    refine z_iinc 1 dX2_weigh_97 rfl (by decide) q21 rfl ?_
    refine z_goto (tgt := 78) dX2_weigh_100 (by decide) ?_
    exact z_sub [1, 0] rfl h
set_option maxRecDepth 20000 in
theorem vX2_weigh_110 {E : zE} {d : Nat} {X : zX} {P : zM → Prop} {M : zM} (hr : (xh X).sig.returnType = none) (a0 : Nat) (x1 : Int)
    (h : zK M a0 = (3, 6) ∧ (((zI M a0 4) ≤ x1 → P M) ∧ (x1 < (zI M a0 4) → zK M a0 = (3, 6) ∧ zK M a0 = (3, 6) ∧ ∃ b5, zR M a0 0 = some b5 ∧ ((zK M b5).1 = 12 ∨ (zK M b5).1 = 13) ∧ 0 ≤ x1 ∧ x1 < ((zK M b5).2 : Int) ∧ ∃ b9, zR M b5 x1 = some b9 ∧ zK M b9 = (6, 16) ∧ ∃ P10 : Int → zM → Prop, zCi E mX5_wholeWay d 0 0 [vR (some b9)] M P10 ∧ ∀ r13 M12, P10 r13 M12 → zK M12 a0 = (3, 6) ∧ ∀ M17, M17 = zsI M12 a0 5 (max (zI M a0 5) r13) → zin (x1 + 1) ∧ ZX2_weigh E d X P 110 [(0, vR (some a0)), (1, vI (x1 + 1))] [] M17 0 0))) :
    ZX2_weigh E d X P 110 [(0, vR (some a0)), (1, vI x1)] [] M 0 0 := by
  refine z_iload_n 1 dX2_weigh_110 rfl ?_
  refine z_aload_n 0 dX2_weigh_111 rfl ?_
  obtain ⟨q1, h⟩ := h
  refine z_getI fl_X2_28 dX2_weigh_112 q1 ?_
  refine z_icmp_ge (tgt := 144) dX2_weigh_115 (by decide) (fun q2 => ?_) (fun q2 => ?_)
  · have h := h.1 q2
    exact z_vret hr dX2_weigh_144 (Nat.le_of_ble_eq_true rfl) (Nat.le_of_ble_eq_true rfl) ⟨rfl, h⟩
  · have h := h.2 q2
    refine z_aload_n 0 dX2_weigh_118 rfl ?_
    refine z_aload_n 0 dX2_weigh_119 rfl ?_
    obtain ⟨q3, h⟩ := h
    refine z_getI fl_X2_71 dX2_weigh_120 q3 ?_
    refine z_aload_n 0 dX2_weigh_123 rfl ?_
    obtain ⟨q4, h⟩ := h
    refine z_getR fl_X2_11 rfl dX2_weigh_124 q4 ?_
    refine z_iload_n 1 dX2_weigh_127 rfl ?_
    obtain ⟨b5, eb5, h⟩ := h
    rw [eb5]
    obtain ⟨q6, h⟩ := h
    obtain ⟨q7, h⟩ := h
    obtain ⟨q8, h⟩ := h
    refine z_aald dX2_weigh_128 (n := (zK M b5).2) rfl q6 q7 q8 ?_
    obtain ⟨b9, eb9, h⟩ := h
    rw [eb9]
    obtain ⟨q15, h⟩ := h
    obtain ⟨P10, c11, h⟩ := h
    refine z_Vi (as := []) mv_X2_74 dX2_weigh_129 c11 q15 rfl rfl (Nat.le_of_ble_eq_true rfl) (Nat.le_of_ble_eq_true rfl) (Nat.le_of_ble_eq_true rfl) (fun r13 M12 p14 => ?_)
    have h := h r13 M12 p14
    refine z_max mm_X2_78 dX2_weigh_132 (Nat.le_of_ble_eq_true rfl) zr3 zr4 (Nat.le_of_ble_eq_true rfl) (Nat.le_of_ble_eq_true rfl) ?_
    obtain ⟨q16, h⟩ := h
    refine z_putI fl_X2_71 (Or.inl rfl) dX2_weigh_135 q16 ?_
    obtain ⟨M17, hmM17⟩ : ∃ z, z = zsI M12 a0 5 (max (zI M a0 5) r13) := ⟨_, rfl⟩
    rw [← hmM17]
    have h := h M17 hmM17
    obtain ⟨q18, h⟩ := h
    refine z_iinc 1 dX2_weigh_138 rfl (by decide) q18 rfl ?_
    refine z_goto (tgt := 110) dX2_weigh_141 (by decide) ?_
    exact z_sub [1, 0] rfl h
theorem sX2_weigh {E : zE} {d : Nat} {P : zM → Prop} {M : zM} (a0 : Nat) (h : ∀ X : zX, (xh X).sig.returnType = none → ZX2_weigh E d X P 0 [(0, vR (some a0))] [] M 0 0) : zCv E mX2_weigh (d + 1) 0 0 [vR (some a0)] M P := z_start (f := mX2_weigh) rfl (Nat.le_of_ble_eq_true rfl) rfl h
abbrev ZX2_rank (E : zE) (d : Nat) (X : zX) (P : zM → Prop) (pc : Nat) (Lc : List (Nat × zV)) (S : List zV) (M : zM) (ce sl : Nat) : Prop := zZ cX2_rank RX2 "rank" 4 E (zrm (d + 1) 0 0) X (zQ E (zPv P) X 0 0) pc Lc S M ce sl
set_option maxRecDepth 20000 in
theorem vX2_rank_0 {E : zE} {d : Nat} {X : zX} {P : zM → Prop} {M : zM} (hr : (xh X).sig.returnType = none) (a0 : Nat)
    (h : ZX2_rank E d X P 4 [(0, vR (some a0)), (1, vI 0), (2, vI 0)] [] M 0 0) :
    ZX2_rank E d X P 0 [(0, vR (some a0))] [] M 0 0 := by
  refine z_iconst dX2_rank_0 (by decide) ?_
  refine z_istore_n dX2_rank_1 (by decide) rfl ?_
  refine z_iconst dX2_rank_2 (by decide) ?_
  refine z_istore_n dX2_rank_3 (by decide) rfl ?_
  exact z_sub [2, 1, 0] rfl h
set_option maxRecDepth 20000 in
theorem vX2_rank_4 {E : zE} {d : Nat} {X : zX} {P : zM → Prop} {M : zM} (hr : (xh X).sig.returnType = none) (a0 : Nat) (x1 : Int) (x2 : Int)
    (h : zK M a0 = (3, 6) ∧ (((zI M a0 4) ≤ x2 → P M) ∧ (x2 < (zI M a0 4) → ZX2_rank E d X P 14 [(0, vR (some a0)), (1, vI x1), (2, vI x2), (3, vI 0)] [] M 0 0))) :
    ZX2_rank E d X P 4 [(0, vR (some a0)), (1, vI x1), (2, vI x2)] [] M 0 0 := by
  refine z_iload_n 2 dX2_rank_4 rfl ?_
  refine z_aload_n 0 dX2_rank_5 rfl ?_
  obtain ⟨q1, h⟩ := h
  refine z_getI fl_X2_28 dX2_rank_6 q1 ?_
  refine z_icmp_ge (tgt := 60) dX2_rank_9 (by decide) (fun q2 => ?_) (fun q2 => ?_)
  · have h := h.1 q2
    exact z_vret hr dX2_rank_60 (Nat.le_of_ble_eq_true rfl) (Nat.le_of_ble_eq_true rfl) ⟨rfl, h⟩
  · have h := h.2 q2
    refine z_iconst dX2_rank_12 (by decide) ?_
    refine z_istore_n dX2_rank_13 (by decide) rfl ?_
    exact z_sub [1, 2, 3, 0] rfl h
set_option maxRecDepth 20000 in
theorem vX2_rank_14 {E : zE} {d : Nat} {X : zX} {P : zM → Prop} {M : zM} (hr : (xh X).sig.returnType = none) (a0 : Nat) (x1 : Int) (x2 : Int) (x3 : Int)
    (h : zK M a0 = (3, 6) ∧ (((zI M a0 4) ≤ x3 → zin (x2 + 1) ∧ ZX2_rank E d X P 4 [(0, vR (some a0)), (1, vI x1), (2, vI (x2 + 1))] [] M 0 0) ∧ (x3 < (zI M a0 4) → zK M a0 = (3, 6) ∧ ∃ b5, zR M a0 0 = some b5 ∧ ((zK M b5).1 = 12 ∨ (zK M b5).1 = 13) ∧ 0 ≤ x3 ∧ x3 < ((zK M b5).2 : Int) ∧ ∃ b9, zR M b5 x3 = some b9 ∧ zK M b9 = (6, 16) ∧ ∃ P11 : Int → zM → Prop, zCi E mJ13_bitCount_95d88 d 0 0 [vL (zL M b9 13)] M P11 ∧ ∀ r14 M13, P11 r14 M13 → ((r14 ≠ x2 → zin (x3 + 1) ∧ ZX2_rank E d X P 14 [(0, vR (some a0)), (1, vI x1), (2, vI x2), (3, vI (x3 + 1))] [] M13 0 0) ∧ (r14 = x2 → zK M13 a0 = (3, 6) ∧ ∃ b19, zR M13 a0 1 = some b19 ∧ (zK M13 b19).1 = 9 ∧ 0 ≤ x1 ∧ x1 < ((zK M13 b19).2 : Int) ∧ ∀ M23, M23 = zsI M13 b19 x1 x3 → zin (x1 + 1) ∧ zin (x3 + 1) ∧ ZX2_rank E d X P 14 [(0, vR (some a0)), (1, vI (x1 + 1)), (2, vI x2), (3, vI (x3 + 1))] [] M23 0 0))))) :
    ZX2_rank E d X P 14 [(0, vR (some a0)), (1, vI x1), (2, vI x2), (3, vI x3)] [] M 0 0 := by
  refine z_iload_n 3 dX2_rank_14 rfl ?_
  refine z_aload_n 0 dX2_rank_15 rfl ?_
  obtain ⟨q1, h⟩ := h
  refine z_getI fl_X2_28 dX2_rank_16 q1 ?_
  refine z_icmp_ge (tgt := 54) dX2_rank_19 (by decide) (fun q2 => ?_) (fun q2 => ?_)
  · have h := h.1 q2
    obtain ⟨q3, h⟩ := h
    refine z_iinc 2 dX2_rank_54 rfl (by decide) q3 rfl ?_
    refine z_goto (tgt := 4) dX2_rank_57 (by decide) ?_
    exact z_sub [1, 2, 0] rfl h
  · have h := h.2 q2
    refine z_aload_n 0 dX2_rank_22 rfl ?_
    obtain ⟨q4, h⟩ := h
    refine z_getR fl_X2_11 rfl dX2_rank_23 q4 ?_
    refine z_iload_n 3 dX2_rank_26 rfl ?_
    obtain ⟨b5, eb5, h⟩ := h
    rw [eb5]
    obtain ⟨q6, h⟩ := h
    obtain ⟨q7, h⟩ := h
    obtain ⟨q8, h⟩ := h
    refine z_aald dX2_rank_27 (n := (zK M b5).2) rfl q6 q7 q8 ?_
    obtain ⟨b9, eb9, h⟩ := h
    rw [eb9]
    obtain ⟨q10, h⟩ := h
    refine z_getL fl_X2_48 dX2_rank_28 q10 ?_
    obtain ⟨P11, c12, h⟩ := h
    refine z_Si (as := [vL (zL M b9 13)]) ms_X2_84 dX2_rank_31 c12 rfl rfl (Nat.le_of_ble_eq_true rfl) (Nat.le_of_ble_eq_true rfl) (Nat.le_of_ble_eq_true rfl) (fun r14 M13 p15 => ?_)
    have h := h r14 M13 p15
    refine z_iload_n 2 dX2_rank_34 rfl ?_
    refine z_icmp_ne (tgt := 48) dX2_rank_35 (by decide) (fun q16 => ?_) (fun q16 => ?_)
    · have h := h.1 q16
      obtain ⟨q17, h⟩ := h
      refine z_iinc 3 dX2_rank_48 rfl (by decide) q17 rfl ?_
      refine z_goto (tgt := 14) dX2_rank_51 (by decide) ?_
      exact z_sub [1, 2, 3, 0] rfl h
    · have h := h.2 q16
      refine z_aload_n 0 dX2_rank_38 rfl ?_
      obtain ⟨q18, h⟩ := h
      refine z_getR fl_X2_17 rfl dX2_rank_39 q18 ?_
      refine z_iload_n 1 dX2_rank_42 rfl ?_
      refine z_iload_n 3 dX2_rank_43 rfl ?_
      obtain ⟨b19, eb19, h⟩ := h
      rw [eb19]
      obtain ⟨q20, h⟩ := h
      obtain ⟨q21, h⟩ := h
      obtain ⟨q22, h⟩ := h
      refine z_iast dX2_rank_44 (n := (zK M13 b19).2) (Prod.ext q20 rfl) q21 q22 ?_
      obtain ⟨M23, hmM23⟩ : ∃ z, z = zsI M13 b19 x1 x3 := ⟨_, rfl⟩
      rw [← hmM23]
      have h := h M23 hmM23
      obtain ⟨q24, h⟩ := h
      refine z_iinc 1 dX2_rank_45 rfl (by decide) q24 rfl ?_
      obtain ⟨q25, h⟩ := h
      refine z_iinc 3 dX2_rank_48 rfl (by decide) q25 rfl ?_
      refine z_goto (tgt := 14) dX2_rank_51 (by decide) ?_
      exact z_sub [2, 1, 3, 0] rfl h
theorem sX2_rank {E : zE} {d : Nat} {P : zM → Prop} {M : zM} (a0 : Nat) (h : ∀ X : zX, (xh X).sig.returnType = none → ZX2_rank E d X P 0 [(0, vR (some a0))] [] M 0 0) : zCv E mX2_rank (d + 1) 0 0 [vR (some a0)] M P := z_start (f := mX2_rank) rfl (Nat.le_of_ble_eq_true rfl) rfl h
abbrev ZX2_pushEarly (E : zE) (d : Nat) (X : zX) (P : zM → Prop) (pc : Nat) (Lc : List (Nat × zV)) (S : List zV) (M : zM) (ce sl : Nat) : Prop := zZ cX2_pushEarly RX2 "pushEarly" 4 E (zrm (d + 1) 0 0) X (zQ E (zPv P) X 0 0) pc Lc S M ce sl
set_option maxRecDepth 20000 in
theorem vX2_pushEarly_0 {E : zE} {d : Nat} {X : zX} {P : zM → Prop} {M : zM} (hr : (xh X).sig.returnType = none) (a0 : Nat) (a1 : Nat)
    (h : ZX2_pushEarly E d X P 2 [(0, vR (some a0)), (1, vR (some a1)), (2, vI 0)] [] M 0 0) :
    ZX2_pushEarly E d X P 0 [(0, vR (some a0)), (1, vR (some a1))] [] M 0 0 := by
  refine z_iconst dX2_pushEarly_0 (by decide) ?_
  refine z_istore_n dX2_pushEarly_1 (by decide) rfl ?_
  exact z_sub [1, 2, 0] rfl h
set_option maxRecDepth 20000 in
theorem vX2_pushEarly_2 {E : zE} {d : Nat} {X : zX} {P : zM → Prop} {M : zM} (hr : (xh X).sig.returnType = none) (a0 : Nat) (a1 : Nat) (x2 : Int)
    (h : zK M a0 = (3, 6) ∧ (((zI M a0 4) ≤ x2 → P M) ∧ (x2 < (zI M a0 4) → zK M a0 = (3, 6) ∧ ∃ b4, zR M a0 0 = some b4 ∧ ((zK M b4).1 = 12 ∨ (zK M b4).1 = 13) ∧ 0 ≤ x2 ∧ x2 < ((zK M b4).2 : Int) ∧ ∃ b8, zR M b4 x2 = some b8 ∧ zK M b8 = (6, 16) ∧ ∃ P9 : Int → zM → Prop, zCi E mX5_leansOn d 0 0 [vR (some b8), vR (some a1)] M P9 ∧ ∀ r12 M11, P9 r12 M11 → ((r12 = 0 → zin (x2 + 1) ∧ ZX2_pushEarly E d X P 2 [(0, vR (some a0)), (1, vR (some a1)), (2, vI (x2 + 1))] [] M11 0 0) ∧ (r12 ≠ 0 → zK M11 b8 = (6, 16) ∧ zK M11 a1 = (6, 16) ∧ zK M11 a1 = (6, 16) ∧ zin ((zI M11 a1 10) + (zI M11 a1 7)) ∧ zK M11 b8 = (6, 16) ∧ ∀ M22, M22 = zsI M11 b8 10 (max (zI M11 b8 10) ((zI M11 a1 10) + (zI M11 a1 7))) → zin (x2 + 1) ∧ ZX2_pushEarly E d X P 2 [(0, vR (some a0)), (1, vR (some a1)), (2, vI (x2 + 1))] [] M22 0 0))))) :
    ZX2_pushEarly E d X P 2 [(0, vR (some a0)), (1, vR (some a1)), (2, vI x2)] [] M 0 0 := by
  refine z_iload_n 2 dX2_pushEarly_2 rfl ?_
  refine z_aload_n 0 dX2_pushEarly_3 rfl ?_
  obtain ⟨q1, h⟩ := h
  refine z_getI fl_X2_28 dX2_pushEarly_4 q1 ?_
  refine z_icmp_ge (tgt := 51) dX2_pushEarly_7 (by decide) (fun q2 => ?_) (fun q2 => ?_)
  · have h := h.1 q2
    exact z_vret hr dX2_pushEarly_51 (Nat.le_of_ble_eq_true rfl) (Nat.le_of_ble_eq_true rfl) ⟨rfl, h⟩
  · have h := h.2 q2
    refine z_aload_n 0 dX2_pushEarly_10 rfl ?_
    obtain ⟨q3, h⟩ := h
    refine z_getR fl_X2_11 rfl dX2_pushEarly_11 q3 ?_
    refine z_iload_n 2 dX2_pushEarly_14 rfl ?_
    obtain ⟨b4, eb4, h⟩ := h
    rw [eb4]
    obtain ⟨q5, h⟩ := h
    obtain ⟨q6, h⟩ := h
    obtain ⟨q7, h⟩ := h
    refine z_aald dX2_pushEarly_15 (n := (zK M b4).2) rfl q5 q6 q7 ?_
    refine z_astore_n dX2_pushEarly_16 (by decide) rfl ?_
    refine z_aload_n 0 dX2_pushEarly_17 rfl ?_
    refine z_aload_n 2 dX2_pushEarly_18 rfl ?_
    obtain ⟨b8, eb8, h⟩ := h
    rw [eb8]
    obtain ⟨q14, h⟩ := h
    obtain ⟨P9, c10, h⟩ := h
    refine z_Vi (as := [vR (some a1)]) mv_X2_90 dX2_pushEarly_19 c10 q14 rfl rfl (Nat.le_of_ble_eq_true rfl) (Nat.le_of_ble_eq_true rfl) (Nat.le_of_ble_eq_true rfl) (fun r12 M11 p13 => ?_)
    have h := h r12 M11 p13
    refine z_if_eq (tgt := 45) dX2_pushEarly_22 (by decide) (fun q15 => ?_) (fun q15 => ?_)
    · have h := h.1 q15
      obtain ⟨q16, h⟩ := h
      refine z_iinc 3 dX2_pushEarly_45 rfl (by decide) q16 rfl ?_
      refine z_goto (tgt := 2) dX2_pushEarly_48 (by decide) ?_
      exact z_sub [2, 3, 0] rfl h
    · have h := h.2 q15
      refine z_aload_n 0 dX2_pushEarly_25 rfl ?_
      refine z_aload_n 0 dX2_pushEarly_26 rfl ?_
      obtain ⟨q17, h⟩ := h
      refine z_getI fl_X2_58 dX2_pushEarly_27 q17 ?_
      refine z_aload_n 2 dX2_pushEarly_30 rfl ?_
      obtain ⟨q18, h⟩ := h
      refine z_getI fl_X2_58 dX2_pushEarly_31 q18 ?_
      refine z_aload_n 2 dX2_pushEarly_34 rfl ?_
      obtain ⟨q19, h⟩ := h
      refine z_getI fl_X2_93 dX2_pushEarly_35 q19 ?_
      obtain ⟨q20, h⟩ := h
      refine z_iadd dX2_pushEarly_38 q20 ?_
      refine z_max mm_X2_78 dX2_pushEarly_39 (Nat.le_of_ble_eq_true rfl) zr3 zr4 (Nat.le_of_ble_eq_true rfl) (Nat.le_of_ble_eq_true rfl) ?_
      obtain ⟨q21, h⟩ := h
      refine z_putI fl_X2_58 (Or.inl rfl) dX2_pushEarly_42 q21 ?_
      obtain ⟨M22, hmM22⟩ : ∃ z, z = zsI M11 b8 10 (max (zI M11 b8 10) ((zI M11 a1 10) + (zI M11 a1 7))) := ⟨_, rfl⟩
      rw [← hmM22]
      have h := h M22 hmM22
      obtain ⟨q23, h⟩ := h
      refine z_iinc 3 dX2_pushEarly_45 rfl (by decide) q23 rfl ?_
      refine z_goto (tgt := 2) dX2_pushEarly_48 (by decide) ?_
      exact z_sub [2, 3, 0] rfl h
theorem sX2_pushEarly {E : zE} {d : Nat} {P : zM → Prop} {M : zM} (a0 : Nat) (a1 : Nat) (h : ∀ X : zX, (xh X).sig.returnType = none → ZX2_pushEarly E d X P 0 [(0, vR (some a0)), (1, vR (some a1))] [] M 0 0) : zCv E mX2_pushEarly (d + 1) 0 0 [vR (some a0), vR (some a1)] M P := z_start (f := mX2_pushEarly) rfl (Nat.le_of_ble_eq_true rfl) rfl h
abbrev ZX2_pushTail (E : zE) (d : Nat) (X : zX) (P : zM → Prop) (pc : Nat) (Lc : List (Nat × zV)) (S : List zV) (M : zM) (ce sl : Nat) : Prop := zZ cX2_pushTail RX2 "pushTail" 4 E (zrm (d + 1) 0 0) X (zQ E (zPv P) X 0 0) pc Lc S M ce sl
set_option maxRecDepth 20000 in
theorem vX2_pushTail_0 {E : zE} {d : Nat} {X : zX} {P : zM → Prop} {M : zM} (hr : (xh X).sig.returnType = none) (a0 : Nat) (a1 : Nat)
    (h : ZX2_pushTail E d X P 2 [(0, vR (some a0)), (1, vR (some a1)), (2, vI 0)] [] M 0 0) :
    ZX2_pushTail E d X P 0 [(0, vR (some a0)), (1, vR (some a1))] [] M 0 0 := by
  refine z_iconst dX2_pushTail_0 (by decide) ?_
  refine z_istore_n dX2_pushTail_1 (by decide) rfl ?_
  exact z_sub [1, 2, 0] rfl h
set_option maxRecDepth 20000 in
theorem vX2_pushTail_2 {E : zE} {d : Nat} {X : zX} {P : zM → Prop} {M : zM} (hr : (xh X).sig.returnType = none) (a0 : Nat) (a1 : Nat) (x2 : Int)
    (h : zK M a0 = (3, 6) ∧ (((zI M a0 4) ≤ x2 → P M) ∧ (x2 < (zI M a0 4) → zK M a0 = (3, 6) ∧ ∃ b4, zR M a0 0 = some b4 ∧ ((zK M b4).1 = 12 ∨ (zK M b4).1 = 13) ∧ 0 ≤ x2 ∧ x2 < ((zK M b4).2 : Int) ∧ ∃ b8, zR M b4 x2 = some b8 ∧ zK M a1 = (6, 16) ∧ ∃ P9 : Int → zM → Prop, zCi E mX5_leansOn d 0 0 [vR (some a1), vR (some b8)] M P9 ∧ ∀ r12 M11, P9 r12 M11 → ((r12 = 0 → zin (x2 + 1) ∧ ZX2_pushTail E d X P 2 [(0, vR (some a0)), (1, vR (some a1)), (2, vI (x2 + 1))] [] M11 0 0) ∧ (r12 ≠ 0 → zK M11 b8 = (6, 16) ∧ zK M11 a1 = (6, 16) ∧ zK M11 a1 = (6, 16) ∧ zin ((zI M11 a1 7) + (zI M11 a1 11)) ∧ zK M11 b8 = (6, 16) ∧ ∀ M22, M22 = zsI M11 b8 11 (max (zI M11 b8 11) ((zI M11 a1 7) + (zI M11 a1 11))) → zin (x2 + 1) ∧ ZX2_pushTail E d X P 2 [(0, vR (some a0)), (1, vR (some a1)), (2, vI (x2 + 1))] [] M22 0 0))))) :
    ZX2_pushTail E d X P 2 [(0, vR (some a0)), (1, vR (some a1)), (2, vI x2)] [] M 0 0 := by
  refine z_iload_n 2 dX2_pushTail_2 rfl ?_
  refine z_aload_n 0 dX2_pushTail_3 rfl ?_
  obtain ⟨q1, h⟩ := h
  refine z_getI fl_X2_28 dX2_pushTail_4 q1 ?_
  refine z_icmp_ge (tgt := 51) dX2_pushTail_7 (by decide) (fun q2 => ?_) (fun q2 => ?_)
  · have h := h.1 q2
    exact z_vret hr dX2_pushTail_51 (Nat.le_of_ble_eq_true rfl) (Nat.le_of_ble_eq_true rfl) ⟨rfl, h⟩
  · have h := h.2 q2
    refine z_aload_n 0 dX2_pushTail_10 rfl ?_
    obtain ⟨q3, h⟩ := h
    refine z_getR fl_X2_11 rfl dX2_pushTail_11 q3 ?_
    refine z_iload_n 2 dX2_pushTail_14 rfl ?_
    obtain ⟨b4, eb4, h⟩ := h
    rw [eb4]
    obtain ⟨q5, h⟩ := h
    obtain ⟨q6, h⟩ := h
    obtain ⟨q7, h⟩ := h
    refine z_aald dX2_pushTail_15 (n := (zK M b4).2) rfl q5 q6 q7 ?_
    refine z_astore_n dX2_pushTail_16 (by decide) rfl ?_
    refine z_aload_n 2 dX2_pushTail_17 rfl ?_
    refine z_aload_n 0 dX2_pushTail_18 rfl ?_
    obtain ⟨b8, eb8, h⟩ := h
    rw [eb8]
    obtain ⟨q14, h⟩ := h
    obtain ⟨P9, c10, h⟩ := h
    refine z_Vi (as := [vR (some b8)]) mv_X2_90 dX2_pushTail_19 c10 q14 rfl rfl (Nat.le_of_ble_eq_true rfl) (Nat.le_of_ble_eq_true rfl) (Nat.le_of_ble_eq_true rfl) (fun r12 M11 p13 => ?_)
    have h := h r12 M11 p13
    refine z_if_eq (tgt := 45) dX2_pushTail_22 (by decide) (fun q15 => ?_) (fun q15 => ?_)
    · have h := h.1 q15
      obtain ⟨q16, h⟩ := h
      refine z_iinc 3 dX2_pushTail_45 rfl (by decide) q16 rfl ?_
      refine z_goto (tgt := 2) dX2_pushTail_48 (by decide) ?_
      exact z_sub [2, 3, 0] rfl h
    · have h := h.2 q15
      refine z_aload_n 0 dX2_pushTail_25 rfl ?_
      refine z_aload_n 0 dX2_pushTail_26 rfl ?_
      obtain ⟨q17, h⟩ := h
      refine z_getI fl_X2_61 dX2_pushTail_27 q17 ?_
      refine z_aload_n 2 dX2_pushTail_30 rfl ?_
      obtain ⟨q18, h⟩ := h
      refine z_getI fl_X2_93 dX2_pushTail_31 q18 ?_
      refine z_aload_n 2 dX2_pushTail_34 rfl ?_
      obtain ⟨q19, h⟩ := h
      refine z_getI fl_X2_61 dX2_pushTail_35 q19 ?_
      obtain ⟨q20, h⟩ := h
      refine z_iadd dX2_pushTail_38 q20 ?_
      refine z_max mm_X2_78 dX2_pushTail_39 (Nat.le_of_ble_eq_true rfl) zr3 zr4 (Nat.le_of_ble_eq_true rfl) (Nat.le_of_ble_eq_true rfl) ?_
      obtain ⟨q21, h⟩ := h
      refine z_putI fl_X2_61 (Or.inl rfl) dX2_pushTail_42 q21 ?_
      obtain ⟨M22, hmM22⟩ : ∃ z, z = zsI M11 b8 11 (max (zI M11 b8 11) ((zI M11 a1 7) + (zI M11 a1 11))) := ⟨_, rfl⟩
      rw [← hmM22]
      have h := h M22 hmM22
      obtain ⟨q23, h⟩ := h
      refine z_iinc 3 dX2_pushTail_45 rfl (by decide) q23 rfl ?_
      refine z_goto (tgt := 2) dX2_pushTail_48 (by decide) ?_
      exact z_sub [2, 3, 0] rfl h
theorem sX2_pushTail {E : zE} {d : Nat} {P : zM → Prop} {M : zM} (a0 : Nat) (a1 : Nat) (h : ∀ X : zX, (xh X).sig.returnType = none → ZX2_pushTail E d X P 0 [(0, vR (some a0)), (1, vR (some a1))] [] M 0 0) : zCv E mX2_pushTail (d + 1) 0 0 [vR (some a0), vR (some a1)] M P := z_start (f := mX2_pushTail) rfl (Nat.le_of_ble_eq_true rfl) rfl h
abbrev ZX2_slackOf (E : zE) (d : Nat) (X : zX) (P : Int → zM → Prop) (pc : Nat) (Lc : List (Nat × zV)) (S : List zV) (M : zM) (ce sl : Nat) : Prop := zZ cX2_slackOf RX2 "slackOf" 2 E (zrm (d + 1) 0 0) X (zQ E (zPi P) X 0 0) pc Lc S M ce sl
set_option maxRecDepth 20000 in
theorem vX2_slackOf_0 {E : zE} {d : Nat} {X : zX} {P : Int → zM → Prop} {M : zM} (hr : (xh X).sig.returnType = (some .int)) (a0 : Nat) (a1 : Nat)
    (h : zK M a0 = (3, 6) ∧ zK M a1 = (6, 16) ∧ ∃ P2 : Int → zM → Prop, zCi E mX5_wholeWay d 0 0 [vR (some a1)] M P2 ∧ ∀ r5 M4, P2 r5 M4 → zin ((zI M a0 5) - r5) ∧ P ((zI M a0 5) - r5) M4) :
    ZX2_slackOf E d X P 0 [(0, vR (some a0)), (1, vR (some a1))] [] M 0 0 := by
  refine z_aload_n 0 dX2_slackOf_0 rfl ?_
  obtain ⟨q1, h⟩ := h
  refine z_getI fl_X2_71 dX2_slackOf_1 q1 ?_
  refine z_aload_n 1 dX2_slackOf_4 rfl ?_
  obtain ⟨q7, h⟩ := h
  obtain ⟨P2, c3, h⟩ := h
  refine z_Vi (as := []) mv_X2_74 dX2_slackOf_5 c3 q7 rfl rfl (Nat.le_of_ble_eq_true rfl) (Nat.le_of_ble_eq_true rfl) (Nat.le_of_ble_eq_true rfl) (fun r5 M4 p6 => ?_)
  have h := h r5 M4 p6
  obtain ⟨q8, h⟩ := h
  refine z_isub dX2_slackOf_8 q8 ?_
  exact z_iret hr dX2_slackOf_9 (Nat.le_of_ble_eq_true rfl) (Nat.le_of_ble_eq_true rfl) ⟨_, rfl, h⟩
theorem sX2_slackOf {E : zE} {d : Nat} {P : Int → zM → Prop} {M : zM} (a0 : Nat) (a1 : Nat) (h : ∀ X : zX, (xh X).sig.returnType = (some .int) → ZX2_slackOf E d X P 0 [(0, vR (some a0)), (1, vR (some a1))] [] M 0 0) : zCi E mX2_slackOf (d + 1) 0 0 [vR (some a0), vR (some a1)] M P := z_start (f := mX2_slackOf) rfl (Nat.le_of_ble_eq_true rfl) rfl h
abbrev ZX2_allThatArePut (E : zE) (d : Nat) (X : zX) (P : Int64 → zM → Prop) (pc : Nat) (Lc : List (Nat × zV)) (S : List zV) (M : zM) (ce sl : Nat) : Prop := zZ cX2_allThatArePut RX2 "allThatArePut" 4 E (zrm (d + 1) 0 0) X (zQ E (zPl P) X 0 0) pc Lc S M ce sl
set_option maxRecDepth 20000 in
theorem vX2_allThatArePut_0 {E : zE} {d : Nat} {X : zX} {P : Int64 → zM → Prop} {M : zM} (hr : (xh X).sig.returnType = (some .long)) (a0 : Nat)
    (h : ZX2_allThatArePut E d X P 4 [(0, vR (some a0)), (1, vL (0 : Int64)), (3, vI 0)] [] M 0 0) :
    ZX2_allThatArePut E d X P 0 [(0, vR (some a0))] [] M 0 0 := by
  refine z_lconst (v := 0) dX2_allThatArePut_0 rfl ?_
  refine z_lstore_n dX2_allThatArePut_1 (by decide) rfl ?_
  refine z_iconst dX2_allThatArePut_2 (by decide) ?_
  refine z_istore_n dX2_allThatArePut_3 (by decide) rfl ?_
  exact z_sub [2, 1, 0] rfl h
set_option maxRecDepth 20000 in
theorem vX2_allThatArePut_4 {E : zE} {d : Nat} {X : zX} {P : Int64 → zM → Prop} {M : zM} (hr : (xh X).sig.returnType = (some .long)) (a0 : Nat) (l1 : Int64) (x3 : Int)
    (h : zK M a0 = (3, 6) ∧ (((zI M a0 4) ≤ x3 → P l1 M) ∧ (x3 < (zI M a0 4) → zK M a0 = (3, 6) ∧ ∃ b4, zR M a0 0 = some b4 ∧ ((zK M b4).1 = 12 ∨ (zK M b4).1 = 13) ∧ 0 ≤ x3 ∧ x3 < ((zK M b4).2 : Int) ∧ ∃ b8, zR M b4 x3 = some b8 ∧ zK M b8 = (6, 16) ∧ ∃ P9 : Int → zM → Prop, zCi E mX5_isOpen d 0 0 [vR (some b8)] M P9 ∧ ∀ r12 M11, P9 r12 M11 → ((r12 ≠ 0 → zin (x3 + 1) ∧ ZX2_allThatArePut E d X P 4 [(0, vR (some a0)), (1, vL l1), (3, vI (x3 + 1))] [] M11 0 0) ∧ (r12 = 0 → zK M11 a0 = (3, 6) ∧ ∃ b18, zR M11 a0 0 = some b18 ∧ ((zK M11 b18).1 = 12 ∨ (zK M11 b18).1 = 13) ∧ 0 ≤ x3 ∧ x3 < ((zK M11 b18).2 : Int) ∧ ∃ b22, zR M11 b18 x3 = some b22 ∧ zK M11 b22 = (6, 16) ∧ zin (x3 + 1) ∧ ZX2_allThatArePut E d X P 4 [(0, vR (some a0)), (1, vL (l1 ||| (zL M11 b22 1))), (3, vI (x3 + 1))] [] M11 0 0))))) :
    ZX2_allThatArePut E d X P 4 [(0, vR (some a0)), (1, vL l1), (3, vI x3)] [] M 0 0 := by
  refine z_iload_n 2 dX2_allThatArePut_4 rfl ?_
  refine z_aload_n 0 dX2_allThatArePut_5 rfl ?_
  obtain ⟨q1, h⟩ := h
  refine z_getI fl_X2_28 dX2_allThatArePut_6 q1 ?_
  refine z_icmp_ge (tgt := 42) dX2_allThatArePut_9 (by decide) (fun q2 => ?_) (fun q2 => ?_)
  · have h := h.1 q2
    refine z_lload_n 1 dX2_allThatArePut_42 rfl ?_
    exact z_lret hr dX2_allThatArePut_43 (Nat.le_of_ble_eq_true rfl) (Nat.le_of_ble_eq_true rfl) ⟨_, rfl, h⟩
  · have h := h.2 q2
    refine z_aload_n 0 dX2_allThatArePut_12 rfl ?_
    obtain ⟨q3, h⟩ := h
    refine z_getR fl_X2_11 rfl dX2_allThatArePut_13 q3 ?_
    refine z_iload_n 2 dX2_allThatArePut_16 rfl ?_
    obtain ⟨b4, eb4, h⟩ := h
    rw [eb4]
    obtain ⟨q5, h⟩ := h
    obtain ⟨q6, h⟩ := h
    obtain ⟨q7, h⟩ := h
    refine z_aald dX2_allThatArePut_17 (n := (zK M b4).2) rfl q5 q6 q7 ?_
    obtain ⟨b8, eb8, h⟩ := h
    rw [eb8]
    obtain ⟨q14, h⟩ := h
    obtain ⟨P9, c10, h⟩ := h
    refine z_Vi (as := []) mv_X2_96 dX2_allThatArePut_18 c10 q14 rfl rfl (Nat.le_of_ble_eq_true rfl) (Nat.le_of_ble_eq_true rfl) (Nat.le_of_ble_eq_true rfl) (fun r12 M11 p13 => ?_)
    have h := h r12 M11 p13
    refine z_if_ne (tgt := 36) dX2_allThatArePut_21 (by decide) (fun q15 => ?_) (fun q15 => ?_)
    · have h := h.1 q15
      obtain ⟨q16, h⟩ := h
      refine z_iinc 2 dX2_allThatArePut_36 rfl (by decide) q16 rfl ?_
      refine z_goto (tgt := 4) dX2_allThatArePut_39 (by decide) ?_
      exact z_sub [1, 2, 0] rfl h
    · have h := h.2 q15
      refine z_lload_n 1 dX2_allThatArePut_24 rfl ?_
      refine z_aload_n 0 dX2_allThatArePut_25 rfl ?_
      obtain ⟨q17, h⟩ := h
      refine z_getR fl_X2_11 rfl dX2_allThatArePut_26 q17 ?_
      refine z_iload_n 2 dX2_allThatArePut_29 rfl ?_
      obtain ⟨b18, eb18, h⟩ := h
      rw [eb18]
      obtain ⟨q19, h⟩ := h
      obtain ⟨q20, h⟩ := h
      obtain ⟨q21, h⟩ := h
      refine z_aald dX2_allThatArePut_30 (n := (zK M11 b18).2) rfl q19 q20 q21 ?_
      obtain ⟨b22, eb22, h⟩ := h
      rw [eb22]
      obtain ⟨q23, h⟩ := h
      refine z_getL fl_X2_35 dX2_allThatArePut_31 q23 ?_
      refine z_lor dX2_allThatArePut_34 ?_
      refine z_lstore_n dX2_allThatArePut_35 (by decide) rfl ?_
      obtain ⟨q24, h⟩ := h
      refine z_iinc 2 dX2_allThatArePut_36 rfl (by decide) q24 rfl ?_
      refine z_goto (tgt := 4) dX2_allThatArePut_39 (by decide) ?_
      exact z_sub [2, 1, 0] rfl h
theorem sX2_allThatArePut {E : zE} {d : Nat} {P : Int64 → zM → Prop} {M : zM} (a0 : Nat) (h : ∀ X : zX, (xh X).sig.returnType = (some .long) → ZX2_allThatArePut E d X P 0 [(0, vR (some a0))] [] M 0 0) : zCl E mX2_allThatArePut (d + 1) 0 0 [vR (some a0)] M P := z_start (f := mX2_allThatArePut) rfl (Nat.le_of_ble_eq_true rfl) rfl h
abbrev ZX2_allDone (E : zE) (d : Nat) (X : zX) (P : Int64 → zM → Prop) (pc : Nat) (Lc : List (Nat × zV)) (S : List zV) (M : zM) (ce sl : Nat) : Prop := zZ cX2_allDone RX2 "allDone" 5 E (zrm (d + 1) 0 0) X (zQ E (zPl P) X 0 0) pc Lc S M ce sl
set_option maxRecDepth 20000 in
theorem vX2_allDone_0 {E : zE} {d : Nat} {X : zX} {P : Int64 → zM → Prop} {M : zM} (hr : (xh X).sig.returnType = (some .long)) (a0 : Nat) (x1 : Int)
    (h : ZX2_allDone E d X P 5 [(0, vR (some a0)), (1, vI x1), (2, vL (0 : Int64)), (4, vI 0)] [] M 0 0) :
    ZX2_allDone E d X P 0 [(0, vR (some a0)), (1, vI x1)] [] M 0 0 := by
  refine z_lconst (v := 0) dX2_allDone_0 rfl ?_
  refine z_lstore_n dX2_allDone_1 (by decide) rfl ?_
  refine z_iconst dX2_allDone_2 (by decide) ?_
  refine z_istore dX2_allDone_3 (by decide) rfl ?_
  exact z_sub [2, 3, 1, 0] rfl h
set_option maxRecDepth 20000 in
theorem vX2_allDone_5 {E : zE} {d : Nat} {X : zX} {P : Int64 → zM → Prop} {M : zM} (hr : (xh X).sig.returnType = (some .long)) (a0 : Nat) (x1 : Int) (l2 : Int64) (x4 : Int)
    (h : zK M a0 = (3, 6) ∧ (((zI M a0 4) ≤ x4 → P l2 M) ∧ (x4 < (zI M a0 4) → zK M a0 = (3, 6) ∧ ∃ b4, zR M a0 0 = some b4 ∧ ((zK M b4).1 = 12 ∨ (zK M b4).1 = 13) ∧ 0 ≤ x4 ∧ x4 < ((zK M b4).2 : Int) ∧ ∃ b8, zR M b4 x4 = some b8 ∧ zK M b8 = (6, 16) ∧ ∃ P9 : Int → zM → Prop, zCi E mX5_isDone d 0 0 [vR (some b8), vI x1] M P9 ∧ ∀ r12 M11, P9 r12 M11 → ((r12 = 0 → zin (x4 + 1) ∧ ZX2_allDone E d X P 5 [(0, vR (some a0)), (1, vI x1), (2, vL l2), (4, vI (x4 + 1))] [] M11 0 0) ∧ (r12 ≠ 0 → zK M11 a0 = (3, 6) ∧ ∃ b18, zR M11 a0 0 = some b18 ∧ ((zK M11 b18).1 = 12 ∨ (zK M11 b18).1 = 13) ∧ 0 ≤ x4 ∧ x4 < ((zK M11 b18).2 : Int) ∧ ∃ b22, zR M11 b18 x4 = some b22 ∧ zK M11 b22 = (6, 16) ∧ zin (x4 + 1) ∧ ZX2_allDone E d X P 5 [(0, vR (some a0)), (1, vI x1), (2, vL (l2 ||| (zL M11 b22 1))), (4, vI (x4 + 1))] [] M11 0 0))))) :
    ZX2_allDone E d X P 5 [(0, vR (some a0)), (1, vI x1), (2, vL l2), (4, vI x4)] [] M 0 0 := by
  refine z_iload 3 dX2_allDone_5 rfl ?_
  refine z_aload_n 0 dX2_allDone_7 rfl ?_
  obtain ⟨q1, h⟩ := h
  refine z_getI fl_X2_28 dX2_allDone_8 q1 ?_
  refine z_icmp_ge (tgt := 47) dX2_allDone_11 (by decide) (fun q2 => ?_) (fun q2 => ?_)
  · have h := h.1 q2
    refine z_lload_n 2 dX2_allDone_47 rfl ?_
    exact z_lret hr dX2_allDone_48 (Nat.le_of_ble_eq_true rfl) (Nat.le_of_ble_eq_true rfl) ⟨_, rfl, h⟩
  · have h := h.2 q2
    refine z_aload_n 0 dX2_allDone_14 rfl ?_
    obtain ⟨q3, h⟩ := h
    refine z_getR fl_X2_11 rfl dX2_allDone_15 q3 ?_
    refine z_iload 3 dX2_allDone_18 rfl ?_
    obtain ⟨b4, eb4, h⟩ := h
    rw [eb4]
    obtain ⟨q5, h⟩ := h
    obtain ⟨q6, h⟩ := h
    obtain ⟨q7, h⟩ := h
    refine z_aald dX2_allDone_20 (n := (zK M b4).2) rfl q5 q6 q7 ?_
    refine z_iload_n 1 dX2_allDone_21 rfl ?_
    obtain ⟨b8, eb8, h⟩ := h
    rw [eb8]
    obtain ⟨q14, h⟩ := h
    obtain ⟨P9, c10, h⟩ := h
    refine z_Vi (as := [vI x1]) mv_X2_100 dX2_allDone_22 c10 q14 rfl rfl (Nat.le_of_ble_eq_true rfl) (Nat.le_of_ble_eq_true rfl) (Nat.le_of_ble_eq_true rfl) (fun r12 M11 p13 => ?_)
    have h := h r12 M11 p13
    refine z_if_eq (tgt := 41) dX2_allDone_25 (by decide) (fun q15 => ?_) (fun q15 => ?_)
    · have h := h.1 q15
      obtain ⟨q16, h⟩ := h
      refine z_iinc 3 dX2_allDone_41 rfl (by decide) q16 rfl ?_
      refine z_goto (tgt := 5) dX2_allDone_44 (by decide) ?_
      exact z_sub [1, 2, 3, 0] rfl h
    · have h := h.2 q15
      refine z_lload_n 2 dX2_allDone_28 rfl ?_
      refine z_aload_n 0 dX2_allDone_29 rfl ?_
      obtain ⟨q17, h⟩ := h
      refine z_getR fl_X2_11 rfl dX2_allDone_30 q17 ?_
      refine z_iload 3 dX2_allDone_33 rfl ?_
      obtain ⟨b18, eb18, h⟩ := h
      rw [eb18]
      obtain ⟨q19, h⟩ := h
      obtain ⟨q20, h⟩ := h
      obtain ⟨q21, h⟩ := h
      refine z_aald dX2_allDone_35 (n := (zK M11 b18).2) rfl q19 q20 q21 ?_
      obtain ⟨b22, eb22, h⟩ := h
      rw [eb22]
      obtain ⟨q23, h⟩ := h
      refine z_getL fl_X2_35 dX2_allDone_36 q23 ?_
      refine z_lor dX2_allDone_39 ?_
      refine z_lstore_n dX2_allDone_40 (by decide) rfl ?_
      obtain ⟨q24, h⟩ := h
      refine z_iinc 3 dX2_allDone_41 rfl (by decide) q24 rfl ?_
      refine z_goto (tgt := 5) dX2_allDone_44 (by decide) ?_
      exact z_sub [2, 3, 1, 0] rfl h
theorem sX2_allDone {E : zE} {d : Nat} {P : Int64 → zM → Prop} {M : zM} (a0 : Nat) (x1 : Int) (h : ∀ X : zX, (xh X).sig.returnType = (some .long) → ZX2_allDone E d X P 0 [(0, vR (some a0)), (1, vI x1)] [] M 0 0) : zCl E mX2_allDone (d + 1) 0 0 [vR (some a0), vI x1] M P := z_start (f := mX2_allDone) rfl (Nat.le_of_ble_eq_true rfl) rfl h
abbrev ZX2_mostPressing (E : zE) (d : Nat) (X : zX) (P : Option Nat → zM → Prop) (pc : Nat) (Lc : List (Nat × zV)) (S : List zV) (M : zM) (ce sl : Nat) : Prop := zZ cX2_mostPressing RX2 "mostPressing" 9 E (zrm (d + 1) 0 0) X (zQ E (zPr P) X 0 0) pc Lc S M ce sl
set_option maxRecDepth 20000 in
theorem vX2_mostPressing_0 {E : zE} {d : Nat} {X : zX} {P : Option Nat → zM → Prop} {M : zM} (hr : (xh X).sig.returnType = (some (.object "RefitYard$Work"))) (a0 : Nat) (l1 : Int64)
    (h : zK M a0 = (3, 6) ∧ ∃ P1 : Int64 → zM → Prop, zCl E mX2_allThatArePut d 0 0 [vR (some a0)] M P1 ∧ ∀ r4 M3, P1 r4 M3 → ZX2_mostPressing E d X P 11 [(0, vR (some a0)), (1, vL l1), (3, vL r4), (5, vR none), (6, vI 0)] [] M3 0 0) :
    ZX2_mostPressing E d X P 0 [(0, vR (some a0)), (1, vL l1)] [] M 0 0 := by
  refine z_aload_n 0 dX2_mostPressing_0 rfl ?_
  obtain ⟨q6, h⟩ := h
  obtain ⟨P1, c2, h⟩ := h
  refine z_Vl (as := []) mv_X2_104 dX2_mostPressing_1 c2 q6 rfl rfl (Nat.le_of_ble_eq_true rfl) (Nat.le_of_ble_eq_true rfl) (Nat.le_of_ble_eq_true rfl) (fun r4 M3 p5 => ?_)
  have h := h r4 M3 p5
  refine z_lstore_n dX2_mostPressing_4 (by decide) rfl ?_
  refine z_null dX2_mostPressing_5 ?_
  refine z_astore dX2_mostPressing_6 (by decide) rfl ?_
  refine z_iconst dX2_mostPressing_8 (by decide) ?_
  refine z_istore dX2_mostPressing_9 (by decide) rfl ?_
  exact z_sub [3, 4, 2, 1, 0] rfl h
set_option maxRecDepth 20000 in
theorem vX2_mostPressing_11 {E : zE} {d : Nat} {X : zX} {P : Option Nat → zM → Prop} {M : zM} (hr : (xh X).sig.returnType = (some (.object "RefitYard$Work"))) (a0 : Nat) (l1 : Int64) (l3 : Int64) (g5 : Option Nat) (x6 : Int)
    (h : zK M a0 = (3, 6) ∧ (((zI M a0 4) ≤ x6 → P g5 M) ∧ (x6 < (zI M a0 4) → zK M a0 = (3, 6) ∧ ∃ b4, zR M a0 0 = some b4 ∧ ((zK M b4).1 = 12 ∨ (zK M b4).1 = 13) ∧ 0 ≤ x6 ∧ x6 < ((zK M b4).2 : Int) ∧ ∃ b8, zR M b4 x6 = some b8 ∧ zK M b8 = (6, 16) ∧ (((if (0 : Int64) < (l1 &&& (zL M b8 1)) then 1 else if (l1 &&& (zL M b8 1)) = (0 : Int64) then 0 else -1) ≠ 0 → (((0 : Int) = 0 → zin (x6 + 1) ∧ ZX2_mostPressing E d X P 11 [(0, vR (some a0)), (1, vL l1), (3, vL l3), (5, vR g5), (6, vI (x6 + 1))] [] M 0 0) ∧ ((0 : Int) ≠ 0 → ((g5 = none → zin (x6 + 1) ∧ ZX2_mostPressing E d X P 11 [(0, vR (some a0)), (1, vL l1), (3, vL l3), (5, vR (some b8)), (6, vI (x6 + 1))] [] M 0 0) ∧ (g5 ≠ none → zK M a0 = (3, 6) ∧ ∃ P15 : Int → zM → Prop, zCi E mX2_slackOf d 0 0 [vR (some a0), vR (some b8)] M P15 ∧ ∀ r18 M17, P15 r18 M17 → ∃ b21, g5 = some b21 ∧ zK M17 a0 = (3, 6) ∧ ∃ P22 : Int → zM → Prop, zCi E mX2_slackOf d 0 0 [vR (some a0), vR (some b21)] M17 P22 ∧ ∀ r25 M24, P22 r25 M24 → ((r25 ≤ r18 → zin (x6 + 1) ∧ ZX2_mostPressing E d X P 11 [(0, vR (some a0)), (1, vL l1), (3, vL l3), (5, vR (some b21)), (6, vI (x6 + 1))] [] M24 0 0) ∧ (r18 < r25 → zin (x6 + 1) ∧ ZX2_mostPressing E d X P 11 [(0, vR (some a0)), (1, vL l1), (3, vL l3), (5, vR (some b8)), (6, vI (x6 + 1))] [] M24 0 0))))))) ∧ ((if (0 : Int64) < (l1 &&& (zL M b8 1)) then 1 else if (l1 &&& (zL M b8 1)) = (0 : Int64) then 0 else -1) = 0 → zK M b8 = (6, 16) ∧ ∃ P31 : Int → zM → Prop, zCi E mX5_isReady d 0 0 [vR (some b8), vL l3] M P31 ∧ ∀ r34 M33, P31 r34 M33 → ((r34 = 0 → (((0 : Int) = 0 → zin (x6 + 1) ∧ ZX2_mostPressing E d X P 11 [(0, vR (some a0)), (1, vL l1), (3, vL l3), (5, vR g5), (6, vI (x6 + 1))] [] M33 0 0) ∧ ((0 : Int) ≠ 0 → ((g5 = none → zin (x6 + 1) ∧ ZX2_mostPressing E d X P 11 [(0, vR (some a0)), (1, vL l1), (3, vL l3), (5, vR (some b8)), (6, vI (x6 + 1))] [] M33 0 0) ∧ (g5 ≠ none → zK M33 a0 = (3, 6) ∧ ∃ P42 : Int → zM → Prop, zCi E mX2_slackOf d 0 0 [vR (some a0), vR (some b8)] M33 P42 ∧ ∀ r45 M44, P42 r45 M44 → ∃ b48, g5 = some b48 ∧ zK M44 a0 = (3, 6) ∧ ∃ P49 : Int → zM → Prop, zCi E mX2_slackOf d 0 0 [vR (some a0), vR (some b48)] M44 P49 ∧ ∀ r52 M51, P49 r52 M51 → ((r52 ≤ r45 → zin (x6 + 1) ∧ ZX2_mostPressing E d X P 11 [(0, vR (some a0)), (1, vL l1), (3, vL l3), (5, vR (some b48)), (6, vI (x6 + 1))] [] M51 0 0) ∧ (r45 < r52 → zin (x6 + 1) ∧ ZX2_mostPressing E d X P 11 [(0, vR (some a0)), (1, vL l1), (3, vL l3), (5, vR (some b8)), (6, vI (x6 + 1))] [] M51 0 0))))))) ∧ (r34 ≠ 0 → (((1 : Int) = 0 → zin (x6 + 1) ∧ ZX2_mostPressing E d X P 11 [(0, vR (some a0)), (1, vL l1), (3, vL l3), (5, vR g5), (6, vI (x6 + 1))] [] M33 0 0) ∧ ((1 : Int) ≠ 0 → ((g5 = none → zin (x6 + 1) ∧ ZX2_mostPressing E d X P 11 [(0, vR (some a0)), (1, vL l1), (3, vL l3), (5, vR (some b8)), (6, vI (x6 + 1))] [] M33 0 0) ∧ (g5 ≠ none → zK M33 a0 = (3, 6) ∧ ∃ P62 : Int → zM → Prop, zCi E mX2_slackOf d 0 0 [vR (some a0), vR (some b8)] M33 P62 ∧ ∀ r65 M64, P62 r65 M64 → ∃ b68, g5 = some b68 ∧ zK M64 a0 = (3, 6) ∧ ∃ P69 : Int → zM → Prop, zCi E mX2_slackOf d 0 0 [vR (some a0), vR (some b68)] M64 P69 ∧ ∀ r72 M71, P69 r72 M71 → ((r72 ≤ r65 → zin (x6 + 1) ∧ ZX2_mostPressing E d X P 11 [(0, vR (some a0)), (1, vL l1), (3, vL l3), (5, vR (some b68)), (6, vI (x6 + 1))] [] M71 0 0) ∧ (r65 < r72 → zin (x6 + 1) ∧ ZX2_mostPressing E d X P 11 [(0, vR (some a0)), (1, vL l1), (3, vL l3), (5, vR (some b8)), (6, vI (x6 + 1))] [] M71 0 0))))))))))))) :
    ZX2_mostPressing E d X P 11 [(0, vR (some a0)), (1, vL l1), (3, vL l3), (5, vR g5), (6, vI x6)] [] M 0 0 := by
  refine z_iload 4 dX2_mostPressing_11 rfl ?_
  refine z_aload_n 0 dX2_mostPressing_13 rfl ?_
  obtain ⟨q1, h⟩ := h
  refine z_getI fl_X2_28 dX2_mostPressing_14 q1 ?_
  refine z_icmp_ge (tgt := 92) dX2_mostPressing_17 (by decide) (fun q2 => ?_) (fun q2 => ?_)
  · have h := h.1 q2
    refine z_aload 3 dX2_mostPressing_92 rfl ?_
    exact z_aret hr dX2_mostPressing_94 (Nat.le_of_ble_eq_true rfl) (Nat.le_of_ble_eq_true rfl) ⟨_, rfl, h⟩
  · have h := h.2 q2
    refine z_aload_n 0 dX2_mostPressing_20 rfl ?_
    obtain ⟨q3, h⟩ := h
    refine z_getR fl_X2_11 rfl dX2_mostPressing_21 q3 ?_
    refine z_iload 4 dX2_mostPressing_24 rfl ?_
    obtain ⟨b4, eb4, h⟩ := h
    rw [eb4]
    obtain ⟨q5, h⟩ := h
    obtain ⟨q6, h⟩ := h
    obtain ⟨q7, h⟩ := h
    refine z_aald dX2_mostPressing_26 (n := (zK M b4).2) rfl q5 q6 q7 ?_
    refine z_astore dX2_mostPressing_27 (by decide) rfl ?_
    refine z_lload_n 2 dX2_mostPressing_29 rfl ?_
    refine z_aload 0 dX2_mostPressing_30 rfl ?_
    obtain ⟨b8, eb8, h⟩ := h
    rw [eb8]
    obtain ⟨q9, h⟩ := h
    refine z_getL fl_X2_35 dX2_mostPressing_32 q9 ?_
    refine z_land dX2_mostPressing_35 ?_
    refine z_lconst (v := 0) dX2_mostPressing_36 rfl ?_
    refine z_lcmp dX2_mostPressing_37 ?_
    refine z_if_ne (tgt := 54) dX2_mostPressing_38 (by decide) (fun q10 => ?_) (fun q10 => ?_)
    · have h := h.1 q10
      refine z_iconst dX2_mostPressing_54 (by decide) ?_
      refine z_istore dX2_mostPressing_55 (by decide) rfl ?_
      refine z_iload 0 dX2_mostPressing_57 rfl ?_
      refine z_if_eq (tgt := 86) dX2_mostPressing_59 (by decide) (fun q11 => ?_) (fun q11 => ?_)
      · have h := h.1 q11
        obtain ⟨q12, h⟩ := h
        refine z_iinc 6 dX2_mostPressing_86 rfl (by decide) q12 rfl ?_
        refine z_goto (tgt := 11) dX2_mostPressing_89 (by decide) ?_
        exact z_sub [3, 4, 5, 6, 0] rfl h
      · have h := h.2 q11
        refine z_aload 5 dX2_mostPressing_62 rfl ?_
        refine z_ifnull (tgt := 82) dX2_mostPressing_64 (by decide) (fun q13 => ?_) (fun q13 => ?_)
        · have h := h.1 q13
          refine z_aload 1 dX2_mostPressing_82 rfl ?_
          refine z_astore dX2_mostPressing_84 (by decide) rfl ?_
          obtain ⟨q14, h⟩ := h
          refine z_iinc 6 dX2_mostPressing_86 rfl (by decide) q14 rfl ?_
          refine z_goto (tgt := 11) dX2_mostPressing_89 (by decide) ?_
          exact z_sub [4, 5, 6, 1, 0] rfl h
        · have h := h.2 q13
          refine z_aload_n 2 dX2_mostPressing_67 rfl ?_
          refine z_aload 1 dX2_mostPressing_68 rfl ?_
          obtain ⟨q20, h⟩ := h
          obtain ⟨P15, c16, h⟩ := h
          refine z_Vi (as := [vR (some b8)]) mv_X2_112 dX2_mostPressing_70 c16 q20 rfl rfl (Nat.le_of_ble_eq_true rfl) (Nat.le_of_ble_eq_true rfl) (Nat.le_of_ble_eq_true rfl) (fun r18 M17 p19 => ?_)
          have h := h r18 M17 p19
          refine z_aload_n 2 dX2_mostPressing_73 rfl ?_
          refine z_aload 5 dX2_mostPressing_74 rfl ?_
          obtain ⟨b21, eb21, h⟩ := h
          rw [eb21]
          obtain ⟨q27, h⟩ := h
          obtain ⟨P22, c23, h⟩ := h
          refine z_Vi (as := [vR (some b21)]) mv_X2_112 dX2_mostPressing_76 c23 q27 rfl rfl (Nat.le_of_ble_eq_true rfl) (Nat.le_of_ble_eq_true rfl) (Nat.le_of_ble_eq_true rfl) (fun r25 M24 p26 => ?_)
          have h := h r25 M24 p26
          refine z_icmp_ge (tgt := 86) dX2_mostPressing_79 (by decide) (fun q28 => ?_) (fun q28 => ?_)
          · have h := h.1 q28
            obtain ⟨q29, h⟩ := h
            refine z_iinc 6 dX2_mostPressing_86 rfl (by decide) q29 rfl ?_
            refine z_goto (tgt := 11) dX2_mostPressing_89 (by decide) ?_
            exact z_sub [3, 4, 5, 6, 0] rfl h
          · have h := h.2 q28
            refine z_aload 1 dX2_mostPressing_82 rfl ?_
            refine z_astore dX2_mostPressing_84 (by decide) rfl ?_
            obtain ⟨q30, h⟩ := h
            refine z_iinc 6 dX2_mostPressing_86 rfl (by decide) q30 rfl ?_
            refine z_goto (tgt := 11) dX2_mostPressing_89 (by decide) ?_
            exact z_sub [4, 5, 6, 1, 0] rfl h
    · have h := h.2 q10
      refine z_aload 0 dX2_mostPressing_41 rfl ?_
      refine z_lload_n 3 dX2_mostPressing_43 rfl ?_
      obtain ⟨q36, h⟩ := h
      obtain ⟨P31, c32, h⟩ := h
      refine z_Vi (as := [vL l3]) mv_X2_108 dX2_mostPressing_44 c32 q36 rfl rfl (Nat.le_of_ble_eq_true rfl) (Nat.le_of_ble_eq_true rfl) (Nat.le_of_ble_eq_true rfl) (fun r34 M33 p35 => ?_)
      have h := h r34 M33 p35
      refine z_if_eq (tgt := 54) dX2_mostPressing_47 (by decide) (fun q37 => ?_) (fun q37 => ?_)
      · have h := h.1 q37
        refine z_iconst dX2_mostPressing_54 (by decide) ?_
        refine z_istore dX2_mostPressing_55 (by decide) rfl ?_
        refine z_iload 0 dX2_mostPressing_57 rfl ?_
        refine z_if_eq (tgt := 86) dX2_mostPressing_59 (by decide) (fun q38 => ?_) (fun q38 => ?_)
        · have h := h.1 q38
          obtain ⟨q39, h⟩ := h
          refine z_iinc 6 dX2_mostPressing_86 rfl (by decide) q39 rfl ?_
          refine z_goto (tgt := 11) dX2_mostPressing_89 (by decide) ?_
          exact z_sub [3, 4, 5, 6, 0] rfl h
        · have h := h.2 q38
          refine z_aload 5 dX2_mostPressing_62 rfl ?_
          refine z_ifnull (tgt := 82) dX2_mostPressing_64 (by decide) (fun q40 => ?_) (fun q40 => ?_)
          · have h := h.1 q40
            refine z_aload 1 dX2_mostPressing_82 rfl ?_
            refine z_astore dX2_mostPressing_84 (by decide) rfl ?_
            obtain ⟨q41, h⟩ := h
            refine z_iinc 6 dX2_mostPressing_86 rfl (by decide) q41 rfl ?_
            refine z_goto (tgt := 11) dX2_mostPressing_89 (by decide) ?_
            exact z_sub [4, 5, 6, 1, 0] rfl h
          · have h := h.2 q40
            refine z_aload_n 2 dX2_mostPressing_67 rfl ?_
            refine z_aload 1 dX2_mostPressing_68 rfl ?_
            obtain ⟨q47, h⟩ := h
            obtain ⟨P42, c43, h⟩ := h
            refine z_Vi (as := [vR (some b8)]) mv_X2_112 dX2_mostPressing_70 c43 q47 rfl rfl (Nat.le_of_ble_eq_true rfl) (Nat.le_of_ble_eq_true rfl) (Nat.le_of_ble_eq_true rfl) (fun r45 M44 p46 => ?_)
            have h := h r45 M44 p46
            refine z_aload_n 2 dX2_mostPressing_73 rfl ?_
            refine z_aload 5 dX2_mostPressing_74 rfl ?_
            obtain ⟨b48, eb48, h⟩ := h
            rw [eb48]
            obtain ⟨q54, h⟩ := h
            obtain ⟨P49, c50, h⟩ := h
            refine z_Vi (as := [vR (some b48)]) mv_X2_112 dX2_mostPressing_76 c50 q54 rfl rfl (Nat.le_of_ble_eq_true rfl) (Nat.le_of_ble_eq_true rfl) (Nat.le_of_ble_eq_true rfl) (fun r52 M51 p53 => ?_)
            have h := h r52 M51 p53
            refine z_icmp_ge (tgt := 86) dX2_mostPressing_79 (by decide) (fun q55 => ?_) (fun q55 => ?_)
            · have h := h.1 q55
              obtain ⟨q56, h⟩ := h
              refine z_iinc 6 dX2_mostPressing_86 rfl (by decide) q56 rfl ?_
              refine z_goto (tgt := 11) dX2_mostPressing_89 (by decide) ?_
              exact z_sub [3, 4, 5, 6, 0] rfl h
            · have h := h.2 q55
              refine z_aload 1 dX2_mostPressing_82 rfl ?_
              refine z_astore dX2_mostPressing_84 (by decide) rfl ?_
              obtain ⟨q57, h⟩ := h
              refine z_iinc 6 dX2_mostPressing_86 rfl (by decide) q57 rfl ?_
              refine z_goto (tgt := 11) dX2_mostPressing_89 (by decide) ?_
              exact z_sub [4, 5, 6, 1, 0] rfl h
      · have h := h.2 q37
        refine z_iconst dX2_mostPressing_50 (by decide) ?_
        refine z_goto (tgt := 55) dX2_mostPressing_51 (by decide) ?_
        refine z_istore dX2_mostPressing_55 (by decide) rfl ?_
        refine z_iload 0 dX2_mostPressing_57 rfl ?_
        refine z_if_eq (tgt := 86) dX2_mostPressing_59 (by decide) (fun q58 => ?_) (fun q58 => ?_)
        · have h := h.1 q58
          obtain ⟨q59, h⟩ := h
          refine z_iinc 6 dX2_mostPressing_86 rfl (by decide) q59 rfl ?_
          refine z_goto (tgt := 11) dX2_mostPressing_89 (by decide) ?_
          exact z_sub [3, 4, 5, 6, 0] rfl h
        · have h := h.2 q58
          refine z_aload 5 dX2_mostPressing_62 rfl ?_
          refine z_ifnull (tgt := 82) dX2_mostPressing_64 (by decide) (fun q60 => ?_) (fun q60 => ?_)
          · have h := h.1 q60
            refine z_aload 1 dX2_mostPressing_82 rfl ?_
            refine z_astore dX2_mostPressing_84 (by decide) rfl ?_
            obtain ⟨q61, h⟩ := h
            refine z_iinc 6 dX2_mostPressing_86 rfl (by decide) q61 rfl ?_
            refine z_goto (tgt := 11) dX2_mostPressing_89 (by decide) ?_
            exact z_sub [4, 5, 6, 1, 0] rfl h
          · have h := h.2 q60
            refine z_aload_n 2 dX2_mostPressing_67 rfl ?_
            refine z_aload 1 dX2_mostPressing_68 rfl ?_
            obtain ⟨q67, h⟩ := h
            obtain ⟨P62, c63, h⟩ := h
            refine z_Vi (as := [vR (some b8)]) mv_X2_112 dX2_mostPressing_70 c63 q67 rfl rfl (Nat.le_of_ble_eq_true rfl) (Nat.le_of_ble_eq_true rfl) (Nat.le_of_ble_eq_true rfl) (fun r65 M64 p66 => ?_)
            have h := h r65 M64 p66
            refine z_aload_n 2 dX2_mostPressing_73 rfl ?_
            refine z_aload 5 dX2_mostPressing_74 rfl ?_
            obtain ⟨b68, eb68, h⟩ := h
            rw [eb68]
            obtain ⟨q74, h⟩ := h
            obtain ⟨P69, c70, h⟩ := h
            refine z_Vi (as := [vR (some b68)]) mv_X2_112 dX2_mostPressing_76 c70 q74 rfl rfl (Nat.le_of_ble_eq_true rfl) (Nat.le_of_ble_eq_true rfl) (Nat.le_of_ble_eq_true rfl) (fun r72 M71 p73 => ?_)
            have h := h r72 M71 p73
            refine z_icmp_ge (tgt := 86) dX2_mostPressing_79 (by decide) (fun q75 => ?_) (fun q75 => ?_)
            · have h := h.1 q75
              obtain ⟨q76, h⟩ := h
              refine z_iinc 6 dX2_mostPressing_86 rfl (by decide) q76 rfl ?_
              refine z_goto (tgt := 11) dX2_mostPressing_89 (by decide) ?_
              exact z_sub [3, 4, 5, 6, 0] rfl h
            · have h := h.2 q75
              refine z_aload 1 dX2_mostPressing_82 rfl ?_
              refine z_astore dX2_mostPressing_84 (by decide) rfl ?_
              obtain ⟨q77, h⟩ := h
              refine z_iinc 6 dX2_mostPressing_86 rfl (by decide) q77 rfl ?_
              refine z_goto (tgt := 11) dX2_mostPressing_89 (by decide) ?_
              exact z_sub [4, 5, 6, 1, 0] rfl h
theorem sX2_mostPressing {E : zE} {d : Nat} {P : Option Nat → zM → Prop} {M : zM} (a0 : Nat) (l1 : Int64) (h : ∀ X : zX, (xh X).sig.returnType = (some (.object "RefitYard$Work")) → ZX2_mostPressing E d X P 0 [(0, vR (some a0)), (1, vL l1)] [] M 0 0) : zCr E mX2_mostPressing (d + 1) 0 0 [vR (some a0), vL l1] M P := z_start (f := mX2_mostPressing) rfl (Nat.le_of_ble_eq_true rfl) rfl h
abbrev ZX2_readyFrom (E : zE) (d : Nat) (X : zX) (P : Int → zM → Prop) (pc : Nat) (Lc : List (Nat × zV)) (S : List zV) (M : zM) (ce sl : Nat) : Prop := zZ cX2_readyFrom RX2 "readyFrom" 5 E (zrm (d + 1) 0 0) X (zQ E (zPi P) X 0 0) pc Lc S M ce sl
set_option maxRecDepth 20000 in
theorem vX2_readyFrom_0 {E : zE} {d : Nat} {X : zX} {P : Int → zM → Prop} {M : zM} (hr : (xh X).sig.returnType = (some .int)) (a0 : Nat) (a1 : Nat)
    (h : ZX2_readyFrom E d X P 4 [(0, vR (some a0)), (1, vR (some a1)), (2, vI 0), (3, vI 0)] [] M 0 0) :
    ZX2_readyFrom E d X P 0 [(0, vR (some a0)), (1, vR (some a1))] [] M 0 0 := by
  refine z_iconst dX2_readyFrom_0 (by decide) ?_
  refine z_istore_n dX2_readyFrom_1 (by decide) rfl ?_
  refine z_iconst dX2_readyFrom_2 (by decide) ?_
  refine z_istore_n dX2_readyFrom_3 (by decide) rfl ?_
  exact z_sub [2, 3, 1, 0] rfl h
set_option maxRecDepth 20000 in
theorem vX2_readyFrom_4 {E : zE} {d : Nat} {X : zX} {P : Int → zM → Prop} {M : zM} (hr : (xh X).sig.returnType = (some .int)) (a0 : Nat) (a1 : Nat) (x2 : Int) (x3 : Int)
    (h : zK M a0 = (3, 6) ∧ (((zI M a0 4) ≤ x3 → P x2 M) ∧ (x3 < (zI M a0 4) → zK M a0 = (3, 6) ∧ ∃ b4, zR M a0 0 = some b4 ∧ ((zK M b4).1 = 12 ∨ (zK M b4).1 = 13) ∧ 0 ≤ x3 ∧ x3 < ((zK M b4).2 : Int) ∧ ∃ b8, zR M b4 x3 = some b8 ∧ zK M a1 = (6, 16) ∧ ∃ P9 : Int → zM → Prop, zCi E mX5_leansOn d 0 0 [vR (some a1), vR (some b8)] M P9 ∧ ∀ r12 M11, P9 r12 M11 → ((r12 = 0 → zin (x3 + 1) ∧ ZX2_readyFrom E d X P 4 [(0, vR (some a0)), (1, vR (some a1)), (2, vI x2), (3, vI (x3 + 1))] [] M11 0 0) ∧ (r12 ≠ 0 → zK M11 b8 = (6, 16) ∧ ∃ P17 : Int → zM → Prop, zCi E mX5_isOpen d 0 0 [vR (some b8)] M11 P17 ∧ ∀ r20 M19, P17 r20 M19 → ((r20 = 0 → zK M19 b8 = (6, 16) ∧ ∃ P24 : Int → zM → Prop, zCi E mX5_behind d 0 0 [vR (some b8)] M19 P24 ∧ ∀ r27 M26, P24 r27 M26 → zin (x3 + 1) ∧ ZX2_readyFrom E d X P 4 [(0, vR (some a0)), (1, vR (some a1)), (2, vI (max x2 r27)), (3, vI (x3 + 1))] [] M26 0 0) ∧ (r20 ≠ 0 → zin (x3 + 1) ∧ ZX2_readyFrom E d X P 4 [(0, vR (some a0)), (1, vR (some a1)), (2, vI (max x2 400)), (3, vI (x3 + 1))] [] M19 0 0))))))) :
    ZX2_readyFrom E d X P 4 [(0, vR (some a0)), (1, vR (some a1)), (2, vI x2), (3, vI x3)] [] M 0 0 := by
  refine z_iload_n 3 dX2_readyFrom_4 rfl ?_
  refine z_aload_n 0 dX2_readyFrom_5 rfl ?_
  obtain ⟨q1, h⟩ := h
  refine z_getI fl_X2_28 dX2_readyFrom_6 q1 ?_
  refine z_icmp_ge (tgt := 59) dX2_readyFrom_9 (by decide) (fun q2 => ?_) (fun q2 => ?_)
  · have h := h.1 q2
    refine z_iload_n 2 dX2_readyFrom_59 rfl ?_
    exact z_iret hr dX2_readyFrom_60 (Nat.le_of_ble_eq_true rfl) (Nat.le_of_ble_eq_true rfl) ⟨_, rfl, h⟩
  · have h := h.2 q2
    refine z_aload_n 0 dX2_readyFrom_12 rfl ?_
    obtain ⟨q3, h⟩ := h
    refine z_getR fl_X2_11 rfl dX2_readyFrom_13 q3 ?_
    refine z_iload_n 3 dX2_readyFrom_16 rfl ?_
    obtain ⟨b4, eb4, h⟩ := h
    rw [eb4]
    obtain ⟨q5, h⟩ := h
    obtain ⟨q6, h⟩ := h
    obtain ⟨q7, h⟩ := h
    refine z_aald dX2_readyFrom_17 (n := (zK M b4).2) rfl q5 q6 q7 ?_
    refine z_astore dX2_readyFrom_18 (by decide) rfl ?_
    refine z_aload_n 2 dX2_readyFrom_20 rfl ?_
    refine z_aload 0 dX2_readyFrom_21 rfl ?_
    obtain ⟨b8, eb8, h⟩ := h
    rw [eb8]
    obtain ⟨q14, h⟩ := h
    obtain ⟨P9, c10, h⟩ := h
    refine z_Vi (as := [vR (some b8)]) mv_X2_90 dX2_readyFrom_23 c10 q14 rfl rfl (Nat.le_of_ble_eq_true rfl) (Nat.le_of_ble_eq_true rfl) (Nat.le_of_ble_eq_true rfl) (fun r12 M11 p13 => ?_)
    have h := h r12 M11 p13
    refine z_if_eq (tgt := 53) dX2_readyFrom_26 (by decide) (fun q15 => ?_) (fun q15 => ?_)
    · have h := h.1 q15
      obtain ⟨q16, h⟩ := h
      refine z_iinc 4 dX2_readyFrom_53 rfl (by decide) q16 rfl ?_
      refine z_goto (tgt := 4) dX2_readyFrom_56 (by decide) ?_
      exact z_sub [2, 3, 4, 0] rfl h
    · have h := h.2 q15
      refine z_iload_n 3 dX2_readyFrom_29 rfl ?_
      refine z_aload 0 dX2_readyFrom_30 rfl ?_
      obtain ⟨q22, h⟩ := h
      obtain ⟨P17, c18, h⟩ := h
      refine z_Vi (as := []) mv_X2_96 dX2_readyFrom_32 c18 q22 rfl rfl (Nat.le_of_ble_eq_true rfl) (Nat.le_of_ble_eq_true rfl) (Nat.le_of_ble_eq_true rfl) (fun r20 M19 p21 => ?_)
      have h := h r20 M19 p21
      refine z_if_eq (tgt := 44) dX2_readyFrom_35 (by decide) (fun q23 => ?_) (fun q23 => ?_)
      · have h := h.1 q23
        refine z_aload 0 dX2_readyFrom_44 rfl ?_
        obtain ⟨q29, h⟩ := h
        obtain ⟨P24, c25, h⟩ := h
        refine z_Vi (as := []) mv_X2_116 dX2_readyFrom_46 c25 q29 rfl rfl (Nat.le_of_ble_eq_true rfl) (Nat.le_of_ble_eq_true rfl) (Nat.le_of_ble_eq_true rfl) (fun r27 M26 p28 => ?_)
        have h := h r27 M26 p28
        refine z_max mm_X2_78 dX2_readyFrom_49 (Nat.le_of_ble_eq_true rfl) zr3 zr4 (Nat.le_of_ble_eq_true rfl) (Nat.le_of_ble_eq_true rfl) ?_
        refine z_istore_n dX2_readyFrom_52 (by decide) rfl ?_
        obtain ⟨q30, h⟩ := h
        refine z_iinc 4 dX2_readyFrom_53 rfl (by decide) q30 rfl ?_
        refine z_goto (tgt := 4) dX2_readyFrom_56 (by decide) ?_
        exact z_sub [3, 4, 1, 0] rfl h
      · have h := h.2 q23
        refine z_sipush dX2_readyFrom_38 (by decide) ?_
        refine z_goto (tgt := 49) dX2_readyFrom_41 (by decide) ?_
        refine z_max mm_X2_78 dX2_readyFrom_49 (Nat.le_of_ble_eq_true rfl) zr3 zr4 (Nat.le_of_ble_eq_true rfl) (Nat.le_of_ble_eq_true rfl) ?_
        refine z_istore_n dX2_readyFrom_52 (by decide) rfl ?_
        obtain ⟨q31, h⟩ := h
        refine z_iinc 4 dX2_readyFrom_53 rfl (by decide) q31 rfl ?_
        refine z_goto (tgt := 4) dX2_readyFrom_56 (by decide) ?_
        exact z_sub [3, 4, 1, 0] rfl h
theorem sX2_readyFrom {E : zE} {d : Nat} {P : Int → zM → Prop} {M : zM} (a0 : Nat) (a1 : Nat) (h : ∀ X : zX, (xh X).sig.returnType = (some .int) → ZX2_readyFrom E d X P 0 [(0, vR (some a0)), (1, vR (some a1))] [] M 0 0) : zCi E mX2_readyFrom (d + 1) 0 0 [vR (some a0), vR (some a1)] M P := z_start (f := mX2_readyFrom) rfl (Nat.le_of_ble_eq_true rfl) rfl h
abbrev ZX2_dueBy (E : zE) (d : Nat) (X : zX) (P : Int → zM → Prop) (pc : Nat) (Lc : List (Nat × zV)) (S : List zV) (M : zM) (ce sl : Nat) : Prop := zZ cX2_dueBy RX2 "dueBy" 5 E (zrm (d + 1) 0 0) X (zQ E (zPi P) X 0 0) pc Lc S M ce sl
set_option maxRecDepth 20000 in
theorem vX2_dueBy_0 {E : zE} {d : Nat} {X : zX} {P : Int → zM → Prop} {M : zM} (hr : (xh X).sig.returnType = (some .int)) (a0 : Nat) (a1 : Nat)
    (h : ZX2_dueBy E d X P 6 [(0, vR (some a0)), (1, vR (some a1)), (2, vI 400), (3, vI 0)] [] M 0 0) :
    ZX2_dueBy E d X P 0 [(0, vR (some a0)), (1, vR (some a1))] [] M 0 0 := by
  refine z_sipush dX2_dueBy_0 (by decide) ?_
  refine z_istore_n dX2_dueBy_3 (by decide) rfl ?_
  refine z_iconst dX2_dueBy_4 (by decide) ?_
  refine z_istore_n dX2_dueBy_5 (by decide) rfl ?_
  exact z_sub [2, 3, 1, 0] rfl h
set_option maxRecDepth 20000 in
theorem vX2_dueBy_6 {E : zE} {d : Nat} {X : zX} {P : Int → zM → Prop} {M : zM} (hr : (xh X).sig.returnType = (some .int)) (a0 : Nat) (a1 : Nat) (x2 : Int) (x3 : Int)
    (h : zK M a0 = (3, 6) ∧ (((zI M a0 4) ≤ x3 → P x2 M) ∧ (x3 < (zI M a0 4) → zK M a0 = (3, 6) ∧ ∃ b4, zR M a0 0 = some b4 ∧ ((zK M b4).1 = 12 ∨ (zK M b4).1 = 13) ∧ 0 ≤ x3 ∧ x3 < ((zK M b4).2 : Int) ∧ ∃ b8, zR M b4 x3 = some b8 ∧ zK M b8 = (6, 16) ∧ ∃ P9 : Int → zM → Prop, zCi E mX5_leansOn d 0 0 [vR (some b8), vR (some a1)] M P9 ∧ ∀ r12 M11, P9 r12 M11 → ((r12 = 0 → zin (x3 + 1) ∧ ZX2_dueBy E d X P 6 [(0, vR (some a0)), (1, vR (some a1)), (2, vI x2), (3, vI (x3 + 1))] [] M11 0 0) ∧ (r12 ≠ 0 → zK M11 b8 = (6, 16) ∧ ∃ P17 : Int → zM → Prop, zCi E mX5_isOpen d 0 0 [vR (some b8)] M11 P17 ∧ ∀ r20 M19, P17 r20 M19 → ((r20 ≠ 0 → zin (x3 + 1) ∧ ZX2_dueBy E d X P 6 [(0, vR (some a0)), (1, vR (some a1)), (2, vI x2), (3, vI (x3 + 1))] [] M19 0 0) ∧ (r20 = 0 → zK M19 b8 = (6, 16) ∧ zin (x3 + 1) ∧ ZX2_dueBy E d X P 6 [(0, vR (some a0)), (1, vR (some a1)), (2, vI (min x2 (zI M19 b8 8))), (3, vI (x3 + 1))] [] M19 0 0))))))) :
    ZX2_dueBy E d X P 6 [(0, vR (some a0)), (1, vR (some a1)), (2, vI x2), (3, vI x3)] [] M 0 0 := by
  refine z_iload_n 3 dX2_dueBy_6 rfl ?_
  refine z_aload_n 0 dX2_dueBy_7 rfl ?_
  obtain ⟨q1, h⟩ := h
  refine z_getI fl_X2_28 dX2_dueBy_8 q1 ?_
  refine z_icmp_ge (tgt := 55) dX2_dueBy_11 (by decide) (fun q2 => ?_) (fun q2 => ?_)
  · have h := h.1 q2
    refine z_iload_n 2 dX2_dueBy_55 rfl ?_
    exact z_iret hr dX2_dueBy_56 (Nat.le_of_ble_eq_true rfl) (Nat.le_of_ble_eq_true rfl) ⟨_, rfl, h⟩
  · have h := h.2 q2
    refine z_aload_n 0 dX2_dueBy_14 rfl ?_
    obtain ⟨q3, h⟩ := h
    refine z_getR fl_X2_11 rfl dX2_dueBy_15 q3 ?_
    refine z_iload_n 3 dX2_dueBy_18 rfl ?_
    obtain ⟨b4, eb4, h⟩ := h
    rw [eb4]
    obtain ⟨q5, h⟩ := h
    obtain ⟨q6, h⟩ := h
    obtain ⟨q7, h⟩ := h
    refine z_aald dX2_dueBy_19 (n := (zK M b4).2) rfl q5 q6 q7 ?_
    refine z_astore dX2_dueBy_20 (by decide) rfl ?_
    refine z_aload 0 dX2_dueBy_22 rfl ?_
    refine z_aload_n 2 dX2_dueBy_24 rfl ?_
    obtain ⟨b8, eb8, h⟩ := h
    rw [eb8]
    obtain ⟨q14, h⟩ := h
    obtain ⟨P9, c10, h⟩ := h
    refine z_Vi (as := [vR (some a1)]) mv_X2_90 dX2_dueBy_25 c10 q14 rfl rfl (Nat.le_of_ble_eq_true rfl) (Nat.le_of_ble_eq_true rfl) (Nat.le_of_ble_eq_true rfl) (fun r12 M11 p13 => ?_)
    have h := h r12 M11 p13
    refine z_if_eq (tgt := 49) dX2_dueBy_28 (by decide) (fun q15 => ?_) (fun q15 => ?_)
    · have h := h.1 q15
      obtain ⟨q16, h⟩ := h
      refine z_iinc 4 dX2_dueBy_49 rfl (by decide) q16 rfl ?_
      refine z_goto (tgt := 6) dX2_dueBy_52 (by decide) ?_
      exact z_sub [2, 3, 4, 0] rfl h
    · have h := h.2 q15
      refine z_aload 0 dX2_dueBy_31 rfl ?_
      obtain ⟨q22, h⟩ := h
      obtain ⟨P17, c18, h⟩ := h
      refine z_Vi (as := []) mv_X2_96 dX2_dueBy_33 c18 q22 rfl rfl (Nat.le_of_ble_eq_true rfl) (Nat.le_of_ble_eq_true rfl) (Nat.le_of_ble_eq_true rfl) (fun r20 M19 p21 => ?_)
      have h := h r20 M19 p21
      refine z_if_ne (tgt := 49) dX2_dueBy_36 (by decide) (fun q23 => ?_) (fun q23 => ?_)
      · have h := h.1 q23
        obtain ⟨q24, h⟩ := h
        refine z_iinc 4 dX2_dueBy_49 rfl (by decide) q24 rfl ?_
        refine z_goto (tgt := 6) dX2_dueBy_52 (by decide) ?_
        exact z_sub [2, 3, 4, 0] rfl h
      · have h := h.2 q23
        refine z_iload_n 3 dX2_dueBy_39 rfl ?_
        refine z_aload 0 dX2_dueBy_40 rfl ?_
        obtain ⟨q25, h⟩ := h
        refine z_getI fl_X2_119 dX2_dueBy_42 q25 ?_
        refine z_min mm_X2_122 dX2_dueBy_45 (Nat.le_of_ble_eq_true rfl) zr3 zr4 (Nat.le_of_ble_eq_true rfl) (Nat.le_of_ble_eq_true rfl) ?_
        refine z_istore_n dX2_dueBy_48 (by decide) rfl ?_
        obtain ⟨q26, h⟩ := h
        refine z_iinc 4 dX2_dueBy_49 rfl (by decide) q26 rfl ?_
        refine z_goto (tgt := 6) dX2_dueBy_52 (by decide) ?_
        exact z_sub [3, 4, 1, 0] rfl h
theorem sX2_dueBy {E : zE} {d : Nat} {P : Int → zM → Prop} {M : zM} (a0 : Nat) (a1 : Nat) (h : ∀ X : zX, (xh X).sig.returnType = (some .int) → ZX2_dueBy E d X P 0 [(0, vR (some a0)), (1, vR (some a1))] [] M 0 0) : zCi E mX2_dueBy (d + 1) 0 0 [vR (some a0), vR (some a1)] M P := z_start (f := mX2_dueBy) rfl (Nat.le_of_ble_eq_true rfl) rfl h
abbrev ZX2_openedWith (E : zE) (d : Nat) (X : zX) (P : Int64 → zM → Prop) (pc : Nat) (Lc : List (Nat × zV)) (S : List zV) (M : zM) (ce sl : Nat) : Prop := zZ cX2_openedWith RX2 "openedWith" 8 E (zrm (d + 1) 0 0) X (zQ E (zPl P) X 0 0) pc Lc S M ce sl
set_option maxRecDepth 20000 in
theorem vX2_openedWith_0 {E : zE} {d : Nat} {X : zX} {P : Int64 → zM → Prop} {M : zM} (hr : (xh X).sig.returnType = (some .long)) (a0 : Nat) (a1 : Nat) (x2 : Int)
    (h : zK M a0 = (3, 6) ∧ ∃ P1 : Int64 → zM → Prop, zCl E mX2_allDone d 0 0 [vR (some a0), vI x2] M P1 ∧ ∀ r4 M3, P1 r4 M3 → zK M3 a1 = (6, 16) ∧ zK M3 a1 = (6, 16) ∧ ZX2_openedWith E d X P 22 [(0, vR (some a0)), (1, vR (some a1)), (2, vI x2), (3, vL r4), (5, vL (((zL M3 a1 1) ||| (zL M3 a1 14)) &&& r4)), (7, vI 0)] [] M3 0 0) :
    ZX2_openedWith E d X P 0 [(0, vR (some a0)), (1, vR (some a1)), (2, vI x2)] [] M 0 0 := by
  refine z_aload_n 0 dX2_openedWith_0 rfl ?_
  refine z_iload_n 2 dX2_openedWith_1 rfl ?_
  obtain ⟨q6, h⟩ := h
  obtain ⟨P1, c2, h⟩ := h
  refine z_Vl (as := [vI x2]) mv_X2_125 dX2_openedWith_2 c2 q6 rfl rfl (Nat.le_of_ble_eq_true rfl) (Nat.le_of_ble_eq_true rfl) (Nat.le_of_ble_eq_true rfl) (fun r4 M3 p5 => ?_)
  have h := h r4 M3 p5
  refine z_lstore_n dX2_openedWith_5 (by decide) rfl ?_
  refine z_aload_n 2 dX2_openedWith_6 rfl ?_
  obtain ⟨q7, h⟩ := h
  refine z_getL fl_X2_35 dX2_openedWith_7 q7 ?_
  refine z_aload_n 2 dX2_openedWith_10 rfl ?_
  obtain ⟨q8, h⟩ := h
  refine z_getL fl_X2_129 dX2_openedWith_11 q8 ?_
  refine z_lor dX2_openedWith_14 ?_
  refine z_lload_n 0 dX2_openedWith_15 rfl ?_
  refine z_land dX2_openedWith_16 ?_
  refine z_lstore dX2_openedWith_17 (by decide) rfl ?_
  refine z_iconst dX2_openedWith_19 (by decide) ?_
  refine z_istore dX2_openedWith_20 (by decide) rfl ?_
  exact z_sub [3, 4, 5, 2, 1, 0] rfl h
set_option maxRecDepth 20000 in
theorem vX2_openedWith_22 {E : zE} {d : Nat} {X : zX} {P : Int64 → zM → Prop} {M : zM} (hr : (xh X).sig.returnType = (some .long)) (a0 : Nat) (a1 : Nat) (x2 : Int) (l3 : Int64) (l5 : Int64) (x7 : Int)
    (h : zK M a0 = (3, 6) ∧ (((zI M a0 4) ≤ x7 → P l5 M) ∧ (x7 < (zI M a0 4) → zK M a0 = (3, 6) ∧ ∃ P3 : Int64 → zM → Prop, zCl E mX2_needersOf d 0 0 [vR (some a0), vL l5] M P3 ∧ ∀ r6 M5, P3 r6 M5 → zin (x7 + 1) ∧ ZX2_openedWith E d X P 22 [(0, vR (some a0)), (1, vR (some a1)), (2, vI x2), (3, vL l3), (5, vL (l5 ||| (r6 &&& l3))), (7, vI (x7 + 1))] [] M5 0 0))) :
    ZX2_openedWith E d X P 22 [(0, vR (some a0)), (1, vR (some a1)), (2, vI x2), (3, vL l3), (5, vL l5), (7, vI x7)] [] M 0 0 := by
  refine z_iload 5 dX2_openedWith_22 rfl ?_
  refine z_aload_n 0 dX2_openedWith_24 rfl ?_
  obtain ⟨q1, h⟩ := h
  refine z_getI fl_X2_28 dX2_openedWith_25 q1 ?_
  refine z_icmp_ge (tgt := 50) dX2_openedWith_28 (by decide) (fun q2 => ?_) (fun q2 => ?_)
  · have h := h.1 q2
    refine z_lload 4 dX2_openedWith_50 rfl ?_
    exact z_lret hr dX2_openedWith_52 (Nat.le_of_ble_eq_true rfl) (Nat.le_of_ble_eq_true rfl) ⟨_, rfl, h⟩
  · have h := h.2 q2
    refine z_lload 4 dX2_openedWith_31 rfl ?_
    refine z_aload_n 0 dX2_openedWith_33 rfl ?_
    refine z_lload 4 dX2_openedWith_34 rfl ?_
    obtain ⟨q8, h⟩ := h
    obtain ⟨P3, c4, h⟩ := h
    refine z_Vl (as := [vL l5]) mv_X2_132 dX2_openedWith_36 c4 q8 rfl rfl (Nat.le_of_ble_eq_true rfl) (Nat.le_of_ble_eq_true rfl) (Nat.le_of_ble_eq_true rfl) (fun r6 M5 p7 => ?_)
    have h := h r6 M5 p7
    refine z_lload_n 3 dX2_openedWith_39 rfl ?_
    refine z_land dX2_openedWith_40 ?_
    refine z_lor dX2_openedWith_41 ?_
    refine z_lstore dX2_openedWith_42 (by decide) rfl ?_
    obtain ⟨q9, h⟩ := h
    refine z_iinc 5 dX2_openedWith_44 rfl (by decide) q9 rfl ?_
    refine z_goto (tgt := 22) dX2_openedWith_47 (by decide) ?_
    exact z_sub [2, 3, 4, 5, 1, 0] rfl h
theorem sX2_openedWith {E : zE} {d : Nat} {P : Int64 → zM → Prop} {M : zM} (a0 : Nat) (a1 : Nat) (x2 : Int) (h : ∀ X : zX, (xh X).sig.returnType = (some .long) → ZX2_openedWith E d X P 0 [(0, vR (some a0)), (1, vR (some a1)), (2, vI x2)] [] M 0 0) : zCl E mX2_openedWith (d + 1) 0 0 [vR (some a0), vR (some a1), vI x2] M P := z_start (f := mX2_openedWith) rfl (Nat.le_of_ble_eq_true rfl) rfl h
