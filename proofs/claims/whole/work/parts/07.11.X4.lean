abbrev ZX4_init (E : zE) (d : Nat) (X : zX) (P : zM → Prop) (pc : Nat) (Lc : List (Nat × zV)) (S : List zV) (M : zM) (ce sl : Nat) : Prop := zZ cX4_init RX4 "<init>" 4 E (zrm (d + 1) 2 8) X (zQ E (zPv P) X 2 8) pc Lc S M ce sl
set_option maxRecDepth 20000 in
theorem vX4_init_0 {E : zE} {d : Nat} {X : zX} {P : zM → Prop} {M : zM} (hr : (xh X).sig.returnType = none) (a0 : Nat) (a1 : Nat) (a2 : Nat) (a3 : Nat)
    (h : ∀ M1, M1 = znew M 9 4 → (zK M1 (zsz M)).1 = 9 ∧ 0 ≤ (0 : Int) ∧ 0 < ((zK M1 (zsz M)).2 : Int) ∧ ∀ M5, M5 = zsI M1 (zsz M) 0 4 → (zK M5 (zsz M)).1 = 9 ∧ 0 ≤ (1 : Int) ∧ 1 < ((zK M5 (zsz M)).2 : Int) ∧ ∀ M9, M9 = zsI M5 (zsz M) 1 4 → (zK M9 (zsz M)).1 = 9 ∧ 0 ≤ (2 : Int) ∧ 2 < ((zK M9 (zsz M)).2 : Int) ∧ ∀ M13, M13 = zsI M9 (zsz M) 2 4 → (zK M13 (zsz M)).1 = 9 ∧ 0 ≤ (3 : Int) ∧ 3 < ((zK M13 (zsz M)).2 : Int) ∧ ∀ M17, M17 = zsI M13 (zsz M) 3 4 → zK M17 a0 = (5, 5) ∧ ∀ M19, M19 = zsR M17 a0 0 (some (zsz M)) → ∀ M20, M20 = znew M19 9 4 → (zK M20 (zsz M19)).1 = 9 ∧ 0 ≤ (0 : Int) ∧ 0 < ((zK M20 (zsz M19)).2 : Int) ∧ ∀ M24, M24 = zsI M20 (zsz M19) 0 1 → (zK M24 (zsz M19)).1 = 9 ∧ 0 ≤ (1 : Int) ∧ 1 < ((zK M24 (zsz M19)).2 : Int) ∧ ∀ M28, M28 = zsI M24 (zsz M19) 1 1 → (zK M28 (zsz M19)).1 = 9 ∧ 0 ≤ (2 : Int) ∧ 2 < ((zK M28 (zsz M19)).2 : Int) ∧ ∀ M32, M32 = zsI M28 (zsz M19) 2 1 → (zK M32 (zsz M19)).1 = 9 ∧ 0 ≤ (3 : Int) ∧ 3 < ((zK M32 (zsz M19)).2 : Int) ∧ ∀ M36, M36 = zsI M32 (zsz M19) 3 1 → zK M36 a0 = (5, 5) ∧ ∀ M38, M38 = zsR M36 a0 1 (some (zsz M19)) → zK M38 a0 = (5, 5) ∧ ∀ M40, M40 = zsR M38 a0 2 (some a1) → zK M40 a0 = (5, 5) ∧ ∀ M42, M42 = zsR M40 a0 3 (some a2) → zK M42 a0 = (5, 5) ∧ ∀ M44, M44 = zsR M42 a0 4 (some a3) → P M44) :
    ZX4_init E d X P 0 [(0, vR (some a0)), (1, vR (some a1)), (2, vR (some a2)), (3, vR (some a3))] [] M 0 0 := by
  refine z_aload_n 0 dX4_init_0 rfl ?_
  refine z_objInit oi_X4_3 dX4_init_1 (Nat.le_of_ble_eq_true rfl) zr3 zr5 ?_
  refine z_aload_n 0 dX4_init_4 rfl ?_
  refine z_iconst dX4_init_5 (by decide) ?_
  refine z_newa (at_ := .int) (tg := 9) (n := 4) (by simp) kw_80 dX4_init_6 rfl (by decide) (Nat.le_of_ble_eq_true rfl) (Nat.le_of_ble_eq_true rfl) ?_
  obtain ⟨M1, hmM1⟩ : ∃ z, z = znew M 9 4 := ⟨_, rfl⟩
  rw [← hmM1]
  have h := h M1 hmM1
  refine z_dup dX4_init_8 rfl ?_
  refine z_iconst dX4_init_9 (by decide) ?_
  refine z_iconst dX4_init_10 (by decide) ?_
  obtain ⟨q2, h⟩ := h
  obtain ⟨q3, h⟩ := h
  obtain ⟨q4, h⟩ := h
  refine z_iast dX4_init_11 (n := (zK M1 (zsz M)).2) (Prod.ext q2 rfl) q3 q4 ?_
  obtain ⟨M5, hmM5⟩ : ∃ z, z = zsI M1 (zsz M) 0 4 := ⟨_, rfl⟩
  rw [← hmM5]
  have h := h M5 hmM5
  refine z_dup dX4_init_12 rfl ?_
  refine z_iconst dX4_init_13 (by decide) ?_
  refine z_iconst dX4_init_14 (by decide) ?_
  obtain ⟨q6, h⟩ := h
  obtain ⟨q7, h⟩ := h
  obtain ⟨q8, h⟩ := h
  refine z_iast dX4_init_15 (n := (zK M5 (zsz M)).2) (Prod.ext q6 rfl) q7 q8 ?_
  obtain ⟨M9, hmM9⟩ : ∃ z, z = zsI M5 (zsz M) 1 4 := ⟨_, rfl⟩
  rw [← hmM9]
  have h := h M9 hmM9
  refine z_dup dX4_init_16 rfl ?_
  refine z_iconst dX4_init_17 (by decide) ?_
  refine z_iconst dX4_init_18 (by decide) ?_
  obtain ⟨q10, h⟩ := h
  obtain ⟨q11, h⟩ := h
  obtain ⟨q12, h⟩ := h
  refine z_iast dX4_init_19 (n := (zK M9 (zsz M)).2) (Prod.ext q10 rfl) q11 q12 ?_
  obtain ⟨M13, hmM13⟩ : ∃ z, z = zsI M9 (zsz M) 2 4 := ⟨_, rfl⟩
  rw [← hmM13]
  have h := h M13 hmM13
  refine z_dup dX4_init_20 rfl ?_
  refine z_iconst dX4_init_21 (by decide) ?_
  refine z_iconst dX4_init_22 (by decide) ?_
  obtain ⟨q14, h⟩ := h
  obtain ⟨q15, h⟩ := h
  obtain ⟨q16, h⟩ := h
  refine z_iast dX4_init_23 (n := (zK M13 (zsz M)).2) (Prod.ext q14 rfl) q15 q16 ?_
  obtain ⟨M17, hmM17⟩ : ∃ z, z = zsI M13 (zsz M) 3 4 := ⟨_, rfl⟩
  rw [← hmM17]
  have h := h M17 hmM17
  obtain ⟨q18, h⟩ := h
  refine z_putR fl_X4_9 rfl (Or.inr ⟨rfl, rfl⟩) dX4_init_24 q18 ?_
  obtain ⟨M19, hmM19⟩ : ∃ z, z = zsR M17 a0 0 (some (zsz M)) := ⟨_, rfl⟩
  rw [← hmM19]
  have h := h M19 hmM19
  refine z_aload_n 0 dX4_init_27 rfl ?_
  refine z_iconst dX4_init_28 (by decide) ?_
  refine z_newa (at_ := .int) (tg := 9) (n := 4) (by simp) kw_80 dX4_init_29 rfl (by decide) (Nat.le_of_ble_eq_true rfl) (Nat.le_of_ble_eq_true rfl) ?_
  obtain ⟨M20, hmM20⟩ : ∃ z, z = znew M19 9 4 := ⟨_, rfl⟩
  rw [← hmM20]
  have h := h M20 hmM20
  refine z_dup dX4_init_31 rfl ?_
  refine z_iconst dX4_init_32 (by decide) ?_
  refine z_iconst dX4_init_33 (by decide) ?_
  obtain ⟨q21, h⟩ := h
  obtain ⟨q22, h⟩ := h
  obtain ⟨q23, h⟩ := h
  refine z_iast dX4_init_34 (n := (zK M20 (zsz M19)).2) (Prod.ext q21 rfl) q22 q23 ?_
  obtain ⟨M24, hmM24⟩ : ∃ z, z = zsI M20 (zsz M19) 0 1 := ⟨_, rfl⟩
  rw [← hmM24]
  have h := h M24 hmM24
  refine z_dup dX4_init_35 rfl ?_
  refine z_iconst dX4_init_36 (by decide) ?_
  refine z_iconst dX4_init_37 (by decide) ?_
  obtain ⟨q25, h⟩ := h
  obtain ⟨q26, h⟩ := h
  obtain ⟨q27, h⟩ := h
  refine z_iast dX4_init_38 (n := (zK M24 (zsz M19)).2) (Prod.ext q25 rfl) q26 q27 ?_
  obtain ⟨M28, hmM28⟩ : ∃ z, z = zsI M24 (zsz M19) 1 1 := ⟨_, rfl⟩
  rw [← hmM28]
  have h := h M28 hmM28
  refine z_dup dX4_init_39 rfl ?_
  refine z_iconst dX4_init_40 (by decide) ?_
  refine z_iconst dX4_init_41 (by decide) ?_
  obtain ⟨q29, h⟩ := h
  obtain ⟨q30, h⟩ := h
  obtain ⟨q31, h⟩ := h
  refine z_iast dX4_init_42 (n := (zK M28 (zsz M19)).2) (Prod.ext q29 rfl) q30 q31 ?_
  obtain ⟨M32, hmM32⟩ : ∃ z, z = zsI M28 (zsz M19) 2 1 := ⟨_, rfl⟩
  rw [← hmM32]
  have h := h M32 hmM32
  refine z_dup dX4_init_43 rfl ?_
  refine z_iconst dX4_init_44 (by decide) ?_
  refine z_iconst dX4_init_45 (by decide) ?_
  obtain ⟨q33, h⟩ := h
  obtain ⟨q34, h⟩ := h
  obtain ⟨q35, h⟩ := h
  refine z_iast dX4_init_46 (n := (zK M32 (zsz M19)).2) (Prod.ext q33 rfl) q34 q35 ?_
  obtain ⟨M36, hmM36⟩ : ∃ z, z = zsI M32 (zsz M19) 3 1 := ⟨_, rfl⟩
  rw [← hmM36]
  have h := h M36 hmM36
  obtain ⟨q37, h⟩ := h
  refine z_putR fl_X4_15 rfl (Or.inr ⟨rfl, rfl⟩) dX4_init_47 q37 ?_
  obtain ⟨M38, hmM38⟩ : ∃ z, z = zsR M36 a0 1 (some (zsz M19)) := ⟨_, rfl⟩
  rw [← hmM38]
  have h := h M38 hmM38
  refine z_aload_n 0 dX4_init_50 rfl ?_
  refine z_aload_n 1 dX4_init_51 rfl ?_
  obtain ⟨q39, h⟩ := h
  refine z_putR fl_X4_18 rfl (Or.inr ⟨rfl, rfl⟩) dX4_init_52 q39 ?_
  obtain ⟨M40, hmM40⟩ : ∃ z, z = zsR M38 a0 2 (some a1) := ⟨_, rfl⟩
  rw [← hmM40]
  have h := h M40 hmM40
  refine z_aload_n 0 dX4_init_55 rfl ?_
  refine z_aload_n 2 dX4_init_56 rfl ?_
  obtain ⟨q41, h⟩ := h
  refine z_putR fl_X4_22 rfl (Or.inr ⟨rfl, rfl⟩) dX4_init_57 q41 ?_
  obtain ⟨M42, hmM42⟩ : ∃ z, z = zsR M40 a0 3 (some a2) := ⟨_, rfl⟩
  rw [← hmM42]
  have h := h M42 hmM42
  refine z_aload_n 0 dX4_init_60 rfl ?_
  refine z_aload_n 3 dX4_init_61 rfl ?_
  obtain ⟨q43, h⟩ := h
  refine z_putR fl_X4_26 rfl (Or.inr ⟨rfl, rfl⟩) dX4_init_62 q43 ?_
  obtain ⟨M44, hmM44⟩ : ∃ z, z = zsR M42 a0 4 (some a3) := ⟨_, rfl⟩
  rw [← hmM44]
  have h := h M44 hmM44
  exact z_vret hr dX4_init_65 (Nat.le_of_ble_eq_true rfl) (Nat.le_of_ble_eq_true rfl) ⟨rfl, h⟩
theorem sX4_init {E : zE} {d : Nat} {P : zM → Prop} {M : zM} (a0 : Nat) (a1 : Nat) (a2 : Nat) (a3 : Nat) (h : ∀ X : zX, (xh X).sig.returnType = none → ZX4_init E d X P 0 [(0, vR (some a0)), (1, vR (some a1)), (2, vR (some a2)), (3, vR (some a3))] [] M 0 0) : zCv E mX4_init (d + 1) 2 8 [vR (some a0), vR (some a1), vR (some a2), vR (some a3)] M P := z_start (f := mX4_init) rfl (Nat.le_of_ble_eq_true rfl) rfl h
abbrev ZX4_markFoes (E : zE) (d : Nat) (X : zX) (P : zM → Prop) (pc : Nat) (Lc : List (Nat × zV)) (S : List zV) (M : zM) (ce sl : Nat) : Prop := zZ cX4_markFoes RX4 "markFoes" 2 E (zrm (d + 1) 0 0) X (zQ E (zPv P) X 0 0) pc Lc S M ce sl
set_option maxRecDepth 20000 in
theorem vX4_markFoes_0 {E : zE} {d : Nat} {X : zX} {P : zM → Prop} {M : zM} (hr : (xh X).sig.returnType = none) (a0 : Nat)
    (h : ZX4_markFoes E d X P 2 [(0, vR (some a0)), (1, vI 0)] [] M 0 0) :
    ZX4_markFoes E d X P 0 [(0, vR (some a0))] [] M 0 0 := by
  refine z_iconst dX4_markFoes_0 (by decide) ?_
  refine z_istore_n dX4_markFoes_1 (by decide) rfl ?_
  exact z_sub [1, 0] rfl h
set_option maxRecDepth 20000 in
theorem vX4_markFoes_2 {E : zE} {d : Nat} {X : zX} {P : zM → Prop} {M : zM} (hr : (xh X).sig.returnType = none) (a0 : Nat) (x1 : Int)
    (h : zK M a0 = (5, 5) ∧ ∃ b2, zR M a0 3 = some b2 ∧ zK M b2 = (3, 6) ∧ (((zI M b2 4) ≤ x1 → P M) ∧ (x1 < (zI M b2 4) → zK M a0 = (5, 5) ∧ zK M b2 = (3, 6) ∧ ∃ b7, zR M b2 0 = some b7 ∧ ((zK M b7).1 = 12 ∨ (zK M b7).1 = 13) ∧ 0 ≤ x1 ∧ x1 < ((zK M b7).2 : Int) ∧ zK M a0 = (5, 5) ∧ zK M b2 = (3, 6) ∧ ((zK M b7).1 = 12 ∨ (zK M b7).1 = 13) ∧ 0 ≤ x1 ∧ x1 < ((zK M b7).2 : Int) ∧ ∃ b16, zR M b7 x1 = some b16 ∧ zK M a0 = (5, 5) ∧ ∃ P17 : Int64 → zM → Prop, zCl E mX4_foesOf d 0 0 [vR (some a0), vR (some b16)] M P17 ∧ ∀ r20 M19, P17 r20 M19 → zK M19 b16 = (6, 16) ∧ ∀ M24, M24 = zsL M19 b16 15 r20 → zin (x1 + 1) ∧ ZX4_markFoes E d X P 2 [(0, vR (some a0)), (1, vI (x1 + 1))] [] M24 0 0))) :
    ZX4_markFoes E d X P 2 [(0, vR (some a0)), (1, vI x1)] [] M 0 0 := by
  refine z_iload_n 1 dX4_markFoes_2 rfl ?_
  refine z_aload_n 0 dX4_markFoes_3 rfl ?_
  obtain ⟨q1, h⟩ := h
  refine z_getR fl_X4_22 rfl dX4_markFoes_4 q1 ?_
  obtain ⟨b2, eb2, h⟩ := h
  rw [eb2]
  obtain ⟨q3, h⟩ := h
  refine z_getI fl_X4_30 dX4_markFoes_7 q3 ?_
  refine z_icmp_ge (tgt := 44) dX4_markFoes_10 (by decide) (fun q4 => ?_) (fun q4 => ?_)
  · have h := h.1 q4
    exact z_vret hr dX4_markFoes_44 (Nat.le_of_ble_eq_true rfl) (Nat.le_of_ble_eq_true rfl) ⟨rfl, h⟩
  · have h := h.2 q4
    refine z_aload_n 0 dX4_markFoes_13 rfl ?_
    obtain ⟨q5, h⟩ := h
    refine z_getR fl_X4_22 rfl dX4_markFoes_14 q5 ?_
    rw [eb2]
    obtain ⟨q6, h⟩ := h
    refine z_getR fl_X4_36 rfl dX4_markFoes_17 q6 ?_
    refine z_iload_n 1 dX4_markFoes_20 rfl ?_
    obtain ⟨b7, eb7, h⟩ := h
    rw [eb7]
    obtain ⟨q8, h⟩ := h
    obtain ⟨q9, h⟩ := h
    obtain ⟨q10, h⟩ := h
    refine z_aald dX4_markFoes_21 (n := (zK M b7).2) rfl q8 q9 q10 ?_
    refine z_aload_n 0 dX4_markFoes_22 rfl ?_
    refine z_aload_n 0 dX4_markFoes_23 rfl ?_
    obtain ⟨q11, h⟩ := h
    refine z_getR fl_X4_22 rfl dX4_markFoes_24 q11 ?_
    rw [eb2]
    obtain ⟨q12, h⟩ := h
    refine z_getR fl_X4_36 rfl dX4_markFoes_27 q12 ?_
    rw [eb7]
    refine z_iload_n 1 dX4_markFoes_30 rfl ?_
    obtain ⟨q13, h⟩ := h
    obtain ⟨q14, h⟩ := h
    obtain ⟨q15, h⟩ := h
    refine z_aald dX4_markFoes_31 (n := (zK M b7).2) rfl q13 q14 q15 ?_
    obtain ⟨b16, eb16, h⟩ := h
    rw [eb16]
    obtain ⟨q22, h⟩ := h
    obtain ⟨P17, c18, h⟩ := h
    refine z_Vl (as := [vR (some b16)]) mv_X4_40 dX4_markFoes_32 c18 q22 rfl rfl (Nat.le_of_ble_eq_true rfl) (Nat.le_of_ble_eq_true rfl) (Nat.le_of_ble_eq_true rfl) (fun r20 M19 p21 => ?_)
    have h := h r20 M19 p21
    obtain ⟨q23, h⟩ := h
    refine z_putL fl_X4_44 (Or.inl rfl) dX4_markFoes_35 q23 ?_
    obtain ⟨M24, hmM24⟩ : ∃ z, z = zsL M19 b16 15 r20 := ⟨_, rfl⟩
    rw [← hmM24]
    have h := h M24 hmM24
    obtain ⟨q25, h⟩ := h
    refine z_iinc 1 dX4_markFoes_38 rfl (by decide) q25 rfl ?_
    refine z_goto (tgt := 2) dX4_markFoes_41 (by decide) ?_
    exact z_sub [1, 0] rfl h
theorem sX4_markFoes {E : zE} {d : Nat} {P : zM → Prop} {M : zM} (a0 : Nat) (h : ∀ X : zX, (xh X).sig.returnType = none → ZX4_markFoes E d X P 0 [(0, vR (some a0))] [] M 0 0) : zCv E mX4_markFoes (d + 1) 0 0 [vR (some a0)] M P := z_start (f := mX4_markFoes) rfl (Nat.le_of_ble_eq_true rfl) rfl h
abbrev ZX4_foesOf (E : zE) (d : Nat) (X : zX) (P : Int64 → zM → Prop) (pc : Nat) (Lc : List (Nat × zV)) (S : List zV) (M : zM) (ce sl : Nat) : Prop := zZ cX4_foesOf RX4 "foesOf" 6 E (zrm (d + 1) 0 0) X (zQ E (zPl P) X 0 0) pc Lc S M ce sl
set_option maxRecDepth 20000 in
theorem vX4_foesOf_0 {E : zE} {d : Nat} {X : zX} {P : Int64 → zM → Prop} {M : zM} (hr : (xh X).sig.returnType = (some .long)) (a0 : Nat) (a1 : Nat)
    (h : ZX4_foesOf E d X P 5 [(0, vR (some a0)), (1, vR (some a1)), (2, vL (0 : Int64)), (4, vI 0)] [] M 0 0) :
    ZX4_foesOf E d X P 0 [(0, vR (some a0)), (1, vR (some a1))] [] M 0 0 := by
  refine z_lconst (v := 0) dX4_foesOf_0 rfl ?_
  refine z_lstore_n dX4_foesOf_1 (by decide) rfl ?_
  refine z_iconst dX4_foesOf_2 (by decide) ?_
  refine z_istore dX4_foesOf_3 (by decide) rfl ?_
  exact z_sub [2, 3, 1, 0] rfl h
set_option maxRecDepth 20000 in
theorem vX4_foesOf_5 {E : zE} {d : Nat} {X : zX} {P : Int64 → zM → Prop} {M : zM} (hr : (xh X).sig.returnType = (some .long)) (a0 : Nat) (a1 : Nat) (l2 : Int64) (x4 : Int)
    (h : zK M a0 = (5, 5) ∧ ∃ b2, zR M a0 3 = some b2 ∧ zK M b2 = (3, 6) ∧ (((zI M b2 4) ≤ x4 → P l2 M) ∧ (x4 < (zI M b2 4) → zK M a0 = (5, 5) ∧ zK M b2 = (3, 6) ∧ ∃ b7, zR M b2 0 = some b7 ∧ ((zK M b7).1 = 12 ∨ (zK M b7).1 = 13) ∧ 0 ≤ x4 ∧ x4 < ((zK M b7).2 : Int) ∧ ((zR M b7 x4 = some a1 → zin (x4 + 1) ∧ ZX4_foesOf E d X P 5 [(0, vR (some a0)), (1, vR (some a1)), (2, vL l2), (4, vI (x4 + 1))] [] M 0 0) ∧ (zR M b7 x4 ≠ some a1 → zK M a0 = (5, 5) ∧ ∃ b14, zR M a0 2 = some b14 ∧ ∃ b15, zR M b7 x4 = some b15 ∧ zK M b14 = (2, 5) ∧ ∃ P16 : Int → zM → Prop, zCi E mX1_keepsApart d 0 0 [vR (some b14), vR (some a1), vR (some b15)] M P16 ∧ ∀ r19 M18, P16 r19 M18 → ((r19 = 0 → zin (x4 + 1) ∧ ZX4_foesOf E d X P 5 [(0, vR (some a0)), (1, vR (some a1)), (2, vL l2), (4, vI (x4 + 1))] [] M18 0 0) ∧ (r19 ≠ 0 → zK M18 b15 = (6, 16) ∧ zin (x4 + 1) ∧ ZX4_foesOf E d X P 5 [(0, vR (some a0)), (1, vR (some a1)), (2, vL (l2 ||| (zL M18 b15 1))), (4, vI (x4 + 1))] [] M18 0 0))))))) :
    ZX4_foesOf E d X P 5 [(0, vR (some a0)), (1, vR (some a1)), (2, vL l2), (4, vI x4)] [] M 0 0 := by
  refine z_iload 3 dX4_foesOf_5 rfl ?_
  refine z_aload_n 0 dX4_foesOf_7 rfl ?_
  obtain ⟨q1, h⟩ := h
  refine z_getR fl_X4_22 rfl dX4_foesOf_8 q1 ?_
  obtain ⟨b2, eb2, h⟩ := h
  rw [eb2]
  obtain ⟨q3, h⟩ := h
  refine z_getI fl_X4_30 dX4_foesOf_11 q3 ?_
  refine z_icmp_ge (tgt := 62) dX4_foesOf_14 (by decide) (fun q4 => ?_) (fun q4 => ?_)
  · have h := h.1 q4
    refine z_lload_n 2 dX4_foesOf_62 rfl ?_
    exact z_lret hr dX4_foesOf_63 (Nat.le_of_ble_eq_true rfl) (Nat.le_of_ble_eq_true rfl) ⟨_, rfl, h⟩
  · have h := h.2 q4
    refine z_aload_n 0 dX4_foesOf_17 rfl ?_
    obtain ⟨q5, h⟩ := h
    refine z_getR fl_X4_22 rfl dX4_foesOf_18 q5 ?_
    rw [eb2]
    obtain ⟨q6, h⟩ := h
    refine z_getR fl_X4_36 rfl dX4_foesOf_21 q6 ?_
    refine z_iload 3 dX4_foesOf_24 rfl ?_
    obtain ⟨b7, eb7, h⟩ := h
    rw [eb7]
    obtain ⟨q8, h⟩ := h
    obtain ⟨q9, h⟩ := h
    obtain ⟨q10, h⟩ := h
    refine z_aald dX4_foesOf_26 (n := (zK M b7).2) rfl q8 q9 q10 ?_
    refine z_astore dX4_foesOf_27 (by decide) rfl ?_
    refine z_aload 0 dX4_foesOf_29 rfl ?_
    refine z_aload_n 2 dX4_foesOf_31 rfl ?_
    refine z_acmp_eq (tgt := 56) dX4_foesOf_32 (by decide) (fun q11 => ?_) (fun q11 => ?_)
    · have h := h.1 q11
      obtain ⟨q12, h⟩ := h
      refine z_iinc 4 dX4_foesOf_56 rfl (by decide) q12 rfl ?_
      refine z_goto (tgt := 5) dX4_foesOf_59 (by decide) ?_
      exact z_sub [2, 3, 4, 0] rfl h
    · have h := h.2 q11
      refine z_aload_n 1 dX4_foesOf_35 rfl ?_
      obtain ⟨q13, h⟩ := h
      refine z_getR fl_X4_18 rfl dX4_foesOf_36 q13 ?_
      refine z_aload_n 2 dX4_foesOf_39 rfl ?_
      refine z_aload 0 dX4_foesOf_40 rfl ?_
      obtain ⟨b14, eb14, h⟩ := h
      rw [eb14]
      obtain ⟨b15, eb15, h⟩ := h
      rw [eb15]
      obtain ⟨q21, h⟩ := h
      obtain ⟨P16, c17, h⟩ := h
      refine z_Vi (as := [vR (some a1), vR (some b15)]) mv_X4_50 dX4_foesOf_42 c17 q21 rfl rfl (Nat.le_of_ble_eq_true rfl) (Nat.le_of_ble_eq_true rfl) (Nat.le_of_ble_eq_true rfl) (fun r19 M18 p20 => ?_)
      have h := h r19 M18 p20
      refine z_if_eq (tgt := 56) dX4_foesOf_45 (by decide) (fun q22 => ?_) (fun q22 => ?_)
      · have h := h.1 q22
        obtain ⟨q23, h⟩ := h
        refine z_iinc 4 dX4_foesOf_56 rfl (by decide) q23 rfl ?_
        refine z_goto (tgt := 5) dX4_foesOf_59 (by decide) ?_
        exact z_sub [2, 3, 4, 0] rfl h
      · have h := h.2 q22
        refine z_lload_n 3 dX4_foesOf_48 rfl ?_
        refine z_aload 0 dX4_foesOf_49 rfl ?_
        obtain ⟨q24, h⟩ := h
        refine z_getL fl_X4_56 dX4_foesOf_51 q24 ?_
        refine z_lor dX4_foesOf_54 ?_
        refine z_lstore_n dX4_foesOf_55 (by decide) rfl ?_
        obtain ⟨q25, h⟩ := h
        refine z_iinc 4 dX4_foesOf_56 rfl (by decide) q25 rfl ?_
        refine z_goto (tgt := 5) dX4_foesOf_59 (by decide) ?_
        exact z_sub [3, 4, 1, 0] rfl h
theorem sX4_foesOf {E : zE} {d : Nat} {P : Int64 → zM → Prop} {M : zM} (a0 : Nat) (a1 : Nat) (h : ∀ X : zX, (xh X).sig.returnType = (some .long) → ZX4_foesOf E d X P 0 [(0, vR (some a0)), (1, vR (some a1))] [] M 0 0) : zCl E mX4_foesOf (d + 1) 0 0 [vR (some a0), vR (some a1)] M P := z_start (f := mX4_foesOf) rfl (Nat.le_of_ble_eq_true rfl) rfl h
abbrev ZX4_isBroken (E : zE) (d : Nat) (X : zX) (P : Int → zM → Prop) (pc : Nat) (Lc : List (Nat × zV)) (S : List zV) (M : zM) (ce sl : Nat) : Prop := zZ cX4_isBroken RX4 "isBroken" 4 E (zrm (d + 1) 0 0) X (zQ E (zPi P) X 0 0) pc Lc S M ce sl
set_option maxRecDepth 20000 in
theorem vX4_isBroken_0 {E : zE} {d : Nat} {X : zX} {P : Int → zM → Prop} {M : zM} (hr : (xh X).sig.returnType = (some .boolean)) (a0 : Nat) (a1 : Nat) (x2 : Int) (x3 : Int)
    (h : ((x2 = 1 → zK M a1 = (6, 16) ∧ ((x3 ≠ (zI M a1 8) → P 0 M) ∧ (x3 = (zI M a1 8) → zK M a0 = (5, 5) ∧ ∃ b5, zR M a0 3 = some b5 ∧ zK M b5 = (3, 6) ∧ ∃ P6 : Int → zM → Prop, zCi E mX2_readyFrom d 0 0 [vR (some b5), vR (some a1)] M P6 ∧ ∀ r9 M8, P6 r9 M8 → ((r9 ≤ x3 → P 0 M8) ∧ (x3 < r9 → P 1 M8))))) ∧ (x2 = 2 → zK M a0 = (5, 5) ∧ ∃ P14 : Int → zM → Prop, zCi E mX4_lacksHands d 0 0 [vR (some a0), vR (some a1), vI x3] M P14 ∧ ∀ r17 M16, P14 r17 M16 → (r17 = 0 ∨ r17 = 1) ∧ P r17 M16) ∧ (x2 = 3 → zK M a0 = (5, 5) ∧ ∃ P22 : Int → zM → Prop, zCi E mX4_lacksGood d 0 0 [vR (some a0), vR (some a1), vI x3] M P22 ∧ ∀ r25 M24, P22 r25 M24 → (r25 = 0 ∨ r25 = 1) ∧ P r25 M24) ∧ (x2 = 4 → zK M a0 = (5, 5) ∧ ∃ P30 : Int → zM → Prop, zCi E mX4_lacksRoom d 0 0 [vR (some a0), vR (some a1), vI x3] M P30 ∧ ∀ r33 M32, P30 r33 M32 → (r33 = 0 ∨ r33 = 1) ∧ P r33 M32) ∧ (x2 = 5 → zK M a0 = (5, 5) ∧ ∃ P38 : Int → zM → Prop, zCi E mX4_meetsFoe d 0 0 [vR (some a0), vR (some a1), vI x3] M P38 ∧ ∀ r41 M40, P38 r41 M40 → (r41 = 0 ∨ r41 = 1) ∧ P r41 M40) ∧ ((x2 < 1 ∨ 5 < x2) → P 0 M))) :
    ZX4_isBroken E d X P 0 [(0, vR (some a0)), (1, vR (some a1)), (2, vI x2), (3, vI x3)] [] M 0 0 := by
  refine z_iload_n 2 dX4_isBroken_0 rfl ?_
  obtain ⟨hq1, h⟩ := h
  by_cases q1 : x2 = 1
  · refine z_tableIn (tgt := 36) dX4_isBroken_1 1 q1 (by decide) (by decide) rfl (by decide) ?_
    have h := hq1 q1
    refine z_iload_n 3 dX4_isBroken_36 rfl ?_
    refine z_aload_n 1 dX4_isBroken_37 rfl ?_
    obtain ⟨q2, h⟩ := h
    refine z_getI fl_X4_59 dX4_isBroken_38 q2 ?_
    refine z_icmp_ne (tgt := 60) dX4_isBroken_41 (by decide) (fun q3 => ?_) (fun q3 => ?_)
    · have h := h.1 q3
      refine z_iconst dX4_isBroken_60 (by decide) ?_
      exact z_zret hr dX4_isBroken_61 (Nat.le_of_ble_eq_true rfl) (Nat.le_of_ble_eq_true rfl) (by decide) ⟨_, rfl, h⟩
    · have h := h.2 q3
      refine z_aload_n 0 dX4_isBroken_44 rfl ?_
      obtain ⟨q4, h⟩ := h
      refine z_getR fl_X4_22 rfl dX4_isBroken_45 q4 ?_
      refine z_aload_n 1 dX4_isBroken_48 rfl ?_
      obtain ⟨b5, eb5, h⟩ := h
      rw [eb5]
      obtain ⟨q11, h⟩ := h
      obtain ⟨P6, c7, h⟩ := h
      refine z_Vi (as := [vR (some a1)]) mv_X4_62 dX4_isBroken_49 c7 q11 rfl rfl (Nat.le_of_ble_eq_true rfl) (Nat.le_of_ble_eq_true rfl) (Nat.le_of_ble_eq_true rfl) (fun r9 M8 p10 => ?_)
      have h := h r9 M8 p10
      refine z_iload_n 3 dX4_isBroken_52 rfl ?_
      refine z_icmp_le (tgt := 60) dX4_isBroken_53 (by decide) (fun q12 => ?_) (fun q12 => ?_)
      · have h := h.1 q12
        refine z_iconst dX4_isBroken_60 (by decide) ?_
        exact z_zret hr dX4_isBroken_61 (Nat.le_of_ble_eq_true rfl) (Nat.le_of_ble_eq_true rfl) (by decide) ⟨_, rfl, h⟩
      · have h := h.2 q12
        refine z_iconst dX4_isBroken_56 (by decide) ?_
        refine z_goto (tgt := 61) dX4_isBroken_57 (by decide) ?_
        exact z_zret hr dX4_isBroken_61 (Nat.le_of_ble_eq_true rfl) (Nat.le_of_ble_eq_true rfl) (by decide) ⟨_, rfl, h⟩
  obtain ⟨hq13, h⟩ := h
  by_cases q13 : x2 = 2
  · refine z_tableIn (tgt := 62) dX4_isBroken_1 2 q13 (by decide) (by decide) rfl (by decide) ?_
    have h := hq13 q13
    refine z_aload_n 0 dX4_isBroken_62 rfl ?_
    refine z_aload_n 1 dX4_isBroken_63 rfl ?_
    refine z_iload_n 3 dX4_isBroken_64 rfl ?_
    obtain ⟨q19, h⟩ := h
    obtain ⟨P14, c15, h⟩ := h
    refine z_Vi (as := [vR (some a1), vI x3]) mv_X4_66 dX4_isBroken_65 c15 q19 rfl rfl (Nat.le_of_ble_eq_true rfl) (Nat.le_of_ble_eq_true rfl) (Nat.le_of_ble_eq_true rfl) (fun r17 M16 p18 => ?_)
    have h := h r17 M16 p18
    obtain ⟨q20, h⟩ := h
    exact z_zret hr dX4_isBroken_68 (Nat.le_of_ble_eq_true rfl) (Nat.le_of_ble_eq_true rfl) q20 ⟨_, rfl, h⟩
  obtain ⟨hq21, h⟩ := h
  by_cases q21 : x2 = 3
  · refine z_tableIn (tgt := 69) dX4_isBroken_1 3 q21 (by decide) (by decide) rfl (by decide) ?_
    have h := hq21 q21
    refine z_aload_n 0 dX4_isBroken_69 rfl ?_
    refine z_aload_n 1 dX4_isBroken_70 rfl ?_
    refine z_iload_n 3 dX4_isBroken_71 rfl ?_
    obtain ⟨q27, h⟩ := h
    obtain ⟨P22, c23, h⟩ := h
    refine z_Vi (as := [vR (some a1), vI x3]) mv_X4_70 dX4_isBroken_72 c23 q27 rfl rfl (Nat.le_of_ble_eq_true rfl) (Nat.le_of_ble_eq_true rfl) (Nat.le_of_ble_eq_true rfl) (fun r25 M24 p26 => ?_)
    have h := h r25 M24 p26
    obtain ⟨q28, h⟩ := h
    exact z_zret hr dX4_isBroken_75 (Nat.le_of_ble_eq_true rfl) (Nat.le_of_ble_eq_true rfl) q28 ⟨_, rfl, h⟩
  obtain ⟨hq29, h⟩ := h
  by_cases q29 : x2 = 4
  · refine z_tableIn (tgt := 76) dX4_isBroken_1 4 q29 (by decide) (by decide) rfl (by decide) ?_
    have h := hq29 q29
    refine z_aload_n 0 dX4_isBroken_76 rfl ?_
    refine z_aload_n 1 dX4_isBroken_77 rfl ?_
    refine z_iload_n 3 dX4_isBroken_78 rfl ?_
    obtain ⟨q35, h⟩ := h
    obtain ⟨P30, c31, h⟩ := h
    refine z_Vi (as := [vR (some a1), vI x3]) mv_X4_73 dX4_isBroken_79 c31 q35 rfl rfl (Nat.le_of_ble_eq_true rfl) (Nat.le_of_ble_eq_true rfl) (Nat.le_of_ble_eq_true rfl) (fun r33 M32 p34 => ?_)
    have h := h r33 M32 p34
    obtain ⟨q36, h⟩ := h
    exact z_zret hr dX4_isBroken_82 (Nat.le_of_ble_eq_true rfl) (Nat.le_of_ble_eq_true rfl) q36 ⟨_, rfl, h⟩
  obtain ⟨hq37, h⟩ := h
  by_cases q37 : x2 = 5
  · refine z_tableIn (tgt := 83) dX4_isBroken_1 5 q37 (by decide) (by decide) rfl (by decide) ?_
    have h := hq37 q37
    refine z_aload_n 0 dX4_isBroken_83 rfl ?_
    refine z_aload_n 1 dX4_isBroken_84 rfl ?_
    refine z_iload_n 3 dX4_isBroken_85 rfl ?_
    obtain ⟨q43, h⟩ := h
    obtain ⟨P38, c39, h⟩ := h
    refine z_Vi (as := [vR (some a1), vI x3]) mv_X4_76 dX4_isBroken_86 c39 q43 rfl rfl (Nat.le_of_ble_eq_true rfl) (Nat.le_of_ble_eq_true rfl) (Nat.le_of_ble_eq_true rfl) (fun r41 M40 p42 => ?_)
    have h := h r41 M40 p42
    obtain ⟨q44, h⟩ := h
    exact z_zret hr dX4_isBroken_89 (Nat.le_of_ble_eq_true rfl) (Nat.le_of_ble_eq_true rfl) q44 ⟨_, rfl, h⟩
  have ho45 := zo_1_5 x2 q1 q13 q21 q29 q37
  refine z_tableOut (tgt := 90) dX4_isBroken_1 ho45 (by decide) ?_
  have h := h ho45
  refine z_iconst dX4_isBroken_90 (by decide) ?_
  exact z_zret hr dX4_isBroken_91 (Nat.le_of_ble_eq_true rfl) (Nat.le_of_ble_eq_true rfl) (by decide) ⟨_, rfl, h⟩
theorem sX4_isBroken {E : zE} {d : Nat} {P : Int → zM → Prop} {M : zM} (a0 : Nat) (a1 : Nat) (x2 : Int) (x3 : Int) (h : ∀ X : zX, (xh X).sig.returnType = (some .boolean) → ZX4_isBroken E d X P 0 [(0, vR (some a0)), (1, vR (some a1)), (2, vI x2), (3, vI x3)] [] M 0 0) : zCi E mX4_isBroken (d + 1) 0 0 [vR (some a0), vR (some a1), vI x2, vI x3] M P := z_start (f := mX4_isBroken) rfl (Nat.le_of_ble_eq_true rfl) rfl h
abbrev ZX4_lacksHands (E : zE) (d : Nat) (X : zX) (P : Int → zM → Prop) (pc : Nat) (Lc : List (Nat × zV)) (S : List zV) (M : zM) (ce sl : Nat) : Prop := zZ cX4_lacksHands RX4 "lacksHands" 5 E (zrm (d + 1) 0 0) X (zQ E (zPi P) X 0 0) pc Lc S M ce sl
set_option maxRecDepth 20000 in
theorem vX4_lacksHands_0 {E : zE} {d : Nat} {X : zX} {P : Int → zM → Prop} {M : zM} (hr : (xh X).sig.returnType = (some .boolean)) (a0 : Nat) (a1 : Nat) (x2 : Int)
    (h : zK M a0 = (5, 5) ∧ ∃ b2, zR M a0 4 = some b2 ∧ zK M b2 = (1, 3) ∧ zK M a1 = (6, 16) ∧ ∃ b5, zR M b2 1 = some b5 ∧ ((zK M b5).1 = 12 ∨ (zK M b5).1 = 13) ∧ 0 ≤ (zI M a1 2) ∧ (zI M a1 2) < ((zK M b5).2 : Int) ∧ ∃ b9, zR M b5 (zI M a1 2) = some b9 ∧ (zK M b9).1 = 9 ∧ 0 ≤ x2 ∧ x2 < ((zK M b9).2 : Int) ∧ zK M a0 = (5, 5) ∧ zK M b2 = (1, 3) ∧ ∃ b15, zR M b2 0 = some b15 ∧ (zK M b15).1 = 11 ∧ 0 ≤ x2 ∧ x2 < ((zK M b15).2 : Int) ∧ zK M a1 = (6, 16) ∧ (((if (0 : Int64) < ((zL M b15 x2) &&& (zL M a1 1)) then 1 else if ((zL M b15 x2) &&& (zL M a1 1)) = (0 : Int64) then 0 else -1) = 0 → (((0 : Int) = 0 → zK M a1 = (6, 16) ∧ zin ((zI M b9 x2) + (zI M a1 3)) ∧ zK M a0 = (5, 5) ∧ zK M a1 = (6, 16) ∧ ∃ b26, zR M a0 0 = some b26 ∧ (zK M b26).1 = 9 ∧ 0 ≤ (zI M a1 2) ∧ (zI M a1 2) < ((zK M b26).2 : Int) ∧ ((((zI M b9 x2) + (zI M a1 3)) ≤ (zI M b26 (zI M a1 2)) → P 0 M) ∧ ((zI M b26 (zI M a1 2)) < ((zI M b9 x2) + (zI M a1 3)) → P 1 M))) ∧ ((0 : Int) ≠ 0 → zK M a0 = (5, 5) ∧ zK M a1 = (6, 16) ∧ ∃ b33, zR M a0 0 = some b33 ∧ (zK M b33).1 = 9 ∧ 0 ≤ (zI M a1 2) ∧ (zI M a1 2) < ((zK M b33).2 : Int) ∧ (((zI M b9 x2) ≤ (zI M b33 (zI M a1 2)) → P 0 M) ∧ ((zI M b33 (zI M a1 2)) < (zI M b9 x2) → P 1 M))))) ∧ ((if (0 : Int64) < ((zL M b15 x2) &&& (zL M a1 1)) then 1 else if ((zL M b15 x2) &&& (zL M a1 1)) = (0 : Int64) then 0 else -1) ≠ 0 → (((1 : Int) = 0 → zK M a1 = (6, 16) ∧ zin ((zI M b9 x2) + (zI M a1 3)) ∧ zK M a0 = (5, 5) ∧ zK M a1 = (6, 16) ∧ ∃ b43, zR M a0 0 = some b43 ∧ (zK M b43).1 = 9 ∧ 0 ≤ (zI M a1 2) ∧ (zI M a1 2) < ((zK M b43).2 : Int) ∧ ((((zI M b9 x2) + (zI M a1 3)) ≤ (zI M b43 (zI M a1 2)) → P 0 M) ∧ ((zI M b43 (zI M a1 2)) < ((zI M b9 x2) + (zI M a1 3)) → P 1 M))) ∧ ((1 : Int) ≠ 0 → zK M a0 = (5, 5) ∧ zK M a1 = (6, 16) ∧ ∃ b50, zR M a0 0 = some b50 ∧ (zK M b50).1 = 9 ∧ 0 ≤ (zI M a1 2) ∧ (zI M a1 2) < ((zK M b50).2 : Int) ∧ (((zI M b9 x2) ≤ (zI M b50 (zI M a1 2)) → P 0 M) ∧ ((zI M b50 (zI M a1 2)) < (zI M b9 x2) → P 1 M))))))) :
    ZX4_lacksHands E d X P 0 [(0, vR (some a0)), (1, vR (some a1)), (2, vI x2)] [] M 0 0 := by
  refine z_aload_n 0 dX4_lacksHands_0 rfl ?_
  obtain ⟨q1, h⟩ := h
  refine z_getR fl_X4_26 rfl dX4_lacksHands_1 q1 ?_
  obtain ⟨b2, eb2, h⟩ := h
  rw [eb2]
  obtain ⟨q3, h⟩ := h
  refine z_getR fl_X4_79 rfl dX4_lacksHands_4 q3 ?_
  refine z_aload_n 1 dX4_lacksHands_7 rfl ?_
  obtain ⟨q4, h⟩ := h
  refine z_getI fl_X4_85 dX4_lacksHands_8 q4 ?_
  obtain ⟨b5, eb5, h⟩ := h
  rw [eb5]
  obtain ⟨q6, h⟩ := h
  obtain ⟨q7, h⟩ := h
  obtain ⟨q8, h⟩ := h
  refine z_aald dX4_lacksHands_11 (n := (zK M b5).2) rfl q6 q7 q8 ?_
  refine z_iload_n 2 dX4_lacksHands_12 rfl ?_
  obtain ⟨b9, eb9, h⟩ := h
  rw [eb9]
  obtain ⟨q10, h⟩ := h
  obtain ⟨q11, h⟩ := h
  obtain ⟨q12, h⟩ := h
  refine z_iald dX4_lacksHands_13 (n := (zK M b9).2) (Prod.ext q10 rfl) q11 q12 ?_
  refine z_istore_n dX4_lacksHands_14 (by decide) rfl ?_
  refine z_aload_n 1 dX4_lacksHands_15 rfl ?_
  obtain ⟨q13, h⟩ := h
  refine z_getR fl_X4_26 rfl dX4_lacksHands_16 q13 ?_
  rw [eb2]
  obtain ⟨q14, h⟩ := h
  refine z_getR fl_X4_88 rfl dX4_lacksHands_19 q14 ?_
  refine z_iload_n 3 dX4_lacksHands_22 rfl ?_
  obtain ⟨b15, eb15, h⟩ := h
  rw [eb15]
  obtain ⟨q16, h⟩ := h
  obtain ⟨q17, h⟩ := h
  obtain ⟨q18, h⟩ := h
  refine z_lald dX4_lacksHands_23 (n := (zK M b15).2) (Prod.ext q16 rfl) q17 q18 ?_
  refine z_aload_n 2 dX4_lacksHands_24 rfl ?_
  obtain ⟨q19, h⟩ := h
  refine z_getL fl_X4_56 dX4_lacksHands_25 q19 ?_
  refine z_land dX4_lacksHands_28 ?_
  refine z_lconst (v := 0) dX4_lacksHands_29 rfl ?_
  refine z_lcmp dX4_lacksHands_30 ?_
  refine z_if_eq (tgt := 38) dX4_lacksHands_31 (by decide) (fun q20 => ?_) (fun q20 => ?_)
  · have h := h.1 q20
    refine z_iconst dX4_lacksHands_38 (by decide) ?_
    refine z_istore dX4_lacksHands_39 (by decide) rfl ?_
    refine z_iload 0 dX4_lacksHands_41 rfl ?_
    refine z_if_eq (tgt := 50) dX4_lacksHands_43 (by decide) (fun q21 => ?_) (fun q21 => ?_)
    · have h := h.1 q21
      refine z_iload_n 1 dX4_lacksHands_50 rfl ?_
      refine z_aload_n 3 dX4_lacksHands_51 rfl ?_
      obtain ⟨q22, h⟩ := h
      refine z_getI fl_X4_92 dX4_lacksHands_52 q22 ?_
      obtain ⟨q23, h⟩ := h
      refine z_iadd dX4_lacksHands_55 q23 ?_
      refine z_aload_n 2 dX4_lacksHands_56 rfl ?_
      obtain ⟨q24, h⟩ := h
      refine z_getR fl_X4_9 rfl dX4_lacksHands_57 q24 ?_
      refine z_aload_n 3 dX4_lacksHands_60 rfl ?_
      obtain ⟨q25, h⟩ := h
      refine z_getI fl_X4_85 dX4_lacksHands_61 q25 ?_
      obtain ⟨b26, eb26, h⟩ := h
      rw [eb26]
      obtain ⟨q27, h⟩ := h
      obtain ⟨q28, h⟩ := h
      obtain ⟨q29, h⟩ := h
      refine z_iald dX4_lacksHands_64 (n := (zK M b26).2) (Prod.ext q27 rfl) q28 q29 ?_
      refine z_icmp_le (tgt := 72) dX4_lacksHands_65 (by decide) (fun q30 => ?_) (fun q30 => ?_)
      · have h := h.1 q30
        refine z_iconst dX4_lacksHands_72 (by decide) ?_
        exact z_zret hr dX4_lacksHands_73 (Nat.le_of_ble_eq_true rfl) (Nat.le_of_ble_eq_true rfl) (by decide) ⟨_, rfl, h⟩
      · have h := h.2 q30
        refine z_iconst dX4_lacksHands_68 (by decide) ?_
        refine z_goto (tgt := 73) dX4_lacksHands_69 (by decide) ?_
        exact z_zret hr dX4_lacksHands_73 (Nat.le_of_ble_eq_true rfl) (Nat.le_of_ble_eq_true rfl) (by decide) ⟨_, rfl, h⟩
    · have h := h.2 q21
      refine z_iload_n 1 dX4_lacksHands_46 rfl ?_
      refine z_goto (tgt := 56) dX4_lacksHands_47 (by decide) ?_
      refine z_aload_n 2 dX4_lacksHands_56 rfl ?_
      obtain ⟨q31, h⟩ := h
      refine z_getR fl_X4_9 rfl dX4_lacksHands_57 q31 ?_
      refine z_aload_n 3 dX4_lacksHands_60 rfl ?_
      obtain ⟨q32, h⟩ := h
      refine z_getI fl_X4_85 dX4_lacksHands_61 q32 ?_
      obtain ⟨b33, eb33, h⟩ := h
      rw [eb33]
      obtain ⟨q34, h⟩ := h
      obtain ⟨q35, h⟩ := h
      obtain ⟨q36, h⟩ := h
      refine z_iald dX4_lacksHands_64 (n := (zK M b33).2) (Prod.ext q34 rfl) q35 q36 ?_
      refine z_icmp_le (tgt := 72) dX4_lacksHands_65 (by decide) (fun q37 => ?_) (fun q37 => ?_)
      · have h := h.1 q37
        refine z_iconst dX4_lacksHands_72 (by decide) ?_
        exact z_zret hr dX4_lacksHands_73 (Nat.le_of_ble_eq_true rfl) (Nat.le_of_ble_eq_true rfl) (by decide) ⟨_, rfl, h⟩
      · have h := h.2 q37
        refine z_iconst dX4_lacksHands_68 (by decide) ?_
        refine z_goto (tgt := 73) dX4_lacksHands_69 (by decide) ?_
        exact z_zret hr dX4_lacksHands_73 (Nat.le_of_ble_eq_true rfl) (Nat.le_of_ble_eq_true rfl) (by decide) ⟨_, rfl, h⟩
  · have h := h.2 q20
    refine z_iconst dX4_lacksHands_34 (by decide) ?_
    refine z_goto (tgt := 39) dX4_lacksHands_35 (by decide) ?_
    refine z_istore dX4_lacksHands_39 (by decide) rfl ?_
    refine z_iload 0 dX4_lacksHands_41 rfl ?_
    refine z_if_eq (tgt := 50) dX4_lacksHands_43 (by decide) (fun q38 => ?_) (fun q38 => ?_)
    · have h := h.1 q38
      refine z_iload_n 1 dX4_lacksHands_50 rfl ?_
      refine z_aload_n 3 dX4_lacksHands_51 rfl ?_
      obtain ⟨q39, h⟩ := h
      refine z_getI fl_X4_92 dX4_lacksHands_52 q39 ?_
      obtain ⟨q40, h⟩ := h
      refine z_iadd dX4_lacksHands_55 q40 ?_
      refine z_aload_n 2 dX4_lacksHands_56 rfl ?_
      obtain ⟨q41, h⟩ := h
      refine z_getR fl_X4_9 rfl dX4_lacksHands_57 q41 ?_
      refine z_aload_n 3 dX4_lacksHands_60 rfl ?_
      obtain ⟨q42, h⟩ := h
      refine z_getI fl_X4_85 dX4_lacksHands_61 q42 ?_
      obtain ⟨b43, eb43, h⟩ := h
      rw [eb43]
      obtain ⟨q44, h⟩ := h
      obtain ⟨q45, h⟩ := h
      obtain ⟨q46, h⟩ := h
      refine z_iald dX4_lacksHands_64 (n := (zK M b43).2) (Prod.ext q44 rfl) q45 q46 ?_
      refine z_icmp_le (tgt := 72) dX4_lacksHands_65 (by decide) (fun q47 => ?_) (fun q47 => ?_)
      · have h := h.1 q47
        refine z_iconst dX4_lacksHands_72 (by decide) ?_
        exact z_zret hr dX4_lacksHands_73 (Nat.le_of_ble_eq_true rfl) (Nat.le_of_ble_eq_true rfl) (by decide) ⟨_, rfl, h⟩
      · have h := h.2 q47
        refine z_iconst dX4_lacksHands_68 (by decide) ?_
        refine z_goto (tgt := 73) dX4_lacksHands_69 (by decide) ?_
        exact z_zret hr dX4_lacksHands_73 (Nat.le_of_ble_eq_true rfl) (Nat.le_of_ble_eq_true rfl) (by decide) ⟨_, rfl, h⟩
    · have h := h.2 q38
      refine z_iload_n 1 dX4_lacksHands_46 rfl ?_
      refine z_goto (tgt := 56) dX4_lacksHands_47 (by decide) ?_
      refine z_aload_n 2 dX4_lacksHands_56 rfl ?_
      obtain ⟨q48, h⟩ := h
      refine z_getR fl_X4_9 rfl dX4_lacksHands_57 q48 ?_
      refine z_aload_n 3 dX4_lacksHands_60 rfl ?_
      obtain ⟨q49, h⟩ := h
      refine z_getI fl_X4_85 dX4_lacksHands_61 q49 ?_
      obtain ⟨b50, eb50, h⟩ := h
      rw [eb50]
      obtain ⟨q51, h⟩ := h
      obtain ⟨q52, h⟩ := h
      obtain ⟨q53, h⟩ := h
      refine z_iald dX4_lacksHands_64 (n := (zK M b50).2) (Prod.ext q51 rfl) q52 q53 ?_
      refine z_icmp_le (tgt := 72) dX4_lacksHands_65 (by decide) (fun q54 => ?_) (fun q54 => ?_)
      · have h := h.1 q54
        refine z_iconst dX4_lacksHands_72 (by decide) ?_
        exact z_zret hr dX4_lacksHands_73 (Nat.le_of_ble_eq_true rfl) (Nat.le_of_ble_eq_true rfl) (by decide) ⟨_, rfl, h⟩
      · have h := h.2 q54
        refine z_iconst dX4_lacksHands_68 (by decide) ?_
        refine z_goto (tgt := 73) dX4_lacksHands_69 (by decide) ?_
        exact z_zret hr dX4_lacksHands_73 (Nat.le_of_ble_eq_true rfl) (Nat.le_of_ble_eq_true rfl) (by decide) ⟨_, rfl, h⟩
theorem sX4_lacksHands {E : zE} {d : Nat} {P : Int → zM → Prop} {M : zM} (a0 : Nat) (a1 : Nat) (x2 : Int) (h : ∀ X : zX, (xh X).sig.returnType = (some .boolean) → ZX4_lacksHands E d X P 0 [(0, vR (some a0)), (1, vR (some a1)), (2, vI x2)] [] M 0 0) : zCi E mX4_lacksHands (d + 1) 0 0 [vR (some a0), vR (some a1), vI x2] M P := z_start (f := mX4_lacksHands) rfl (Nat.le_of_ble_eq_true rfl) rfl h
abbrev ZX4_lacksGood (E : zE) (d : Nat) (X : zX) (P : Int → zM → Prop) (pc : Nat) (Lc : List (Nat × zV)) (S : List zV) (M : zM) (ce sl : Nat) : Prop := zZ cX4_lacksGood RX4 "lacksGood" 5 E (zrm (d + 1) 0 0) X (zQ E (zPi P) X 0 0) pc Lc S M ce sl
set_option maxRecDepth 20000 in
theorem vX4_lacksGood_0 {E : zE} {d : Nat} {X : zX} {P : Int → zM → Prop} {M : zM} (hr : (xh X).sig.returnType = (some .boolean)) (a0 : Nat) (a1 : Nat) (x2 : Int)
    (h : zK M a1 = (6, 16) ∧ (((zI M a1 6) ≠ (-1) → zK M a0 = (5, 5) ∧ ∃ b4, zR M a0 4 = some b4 ∧ zK M b4 = (1, 3) ∧ ∃ b6, zR M b4 0 = some b6 ∧ (zK M b6).1 = 11 ∧ 0 ≤ x2 ∧ x2 < ((zK M b6).2 : Int) ∧ zK M a1 = (6, 16) ∧ zK M a0 = (5, 5) ∧ ∃ b12, zR M a0 3 = some b12 ∧ zK M b12 = (3, 6) ∧ zK M a1 = (6, 16) ∧ ∃ b15, zR M b12 2 = some b15 ∧ (zK M b15).1 = 11 ∧ 0 ≤ (zI M a1 6) ∧ (zI M a1 6) < ((zK M b15).2 : Int) ∧ ∃ P19 : Int → zM → Prop, zCi E mJ13_bitCount_95d88 d 0 0 [vL (((zL M b6 x2) ||| (zL M a1 1)) &&& (zL M b15 (zI M a1 6)))] M P19 ∧ ∀ r22 M21, P19 r22 M21 → zK M21 a0 = (5, 5) ∧ zK M21 a1 = (6, 16) ∧ ∃ b26, zR M21 a0 1 = some b26 ∧ (zK M21 b26).1 = 9 ∧ 0 ≤ (zI M21 a1 6) ∧ (zI M21 a1 6) < ((zK M21 b26).2 : Int) ∧ ((r22 ≤ (zI M21 b26 (zI M21 a1 6)) → P 0 M21) ∧ ((zI M21 b26 (zI M21 a1 6)) < r22 → P 1 M21))) ∧ ((zI M a1 6) = (-1) → P 0 M))) :
    ZX4_lacksGood E d X P 0 [(0, vR (some a0)), (1, vR (some a1)), (2, vI x2)] [] M 0 0 := by
  refine z_aload_n 1 dX4_lacksGood_0 rfl ?_
  obtain ⟨q1, h⟩ := h
  refine z_getI fl_X4_94 dX4_lacksGood_1 q1 ?_
  refine z_iconst dX4_lacksGood_4 (by decide) ?_
  refine z_icmp_ne (tgt := 10) dX4_lacksGood_5 (by decide) (fun q2 => ?_) (fun q2 => ?_)
  · have h := h.1 q2
    refine z_aload_n 0 dX4_lacksGood_10 rfl ?_
    obtain ⟨q3, h⟩ := h
    refine z_getR fl_X4_26 rfl dX4_lacksGood_11 q3 ?_
    obtain ⟨b4, eb4, h⟩ := h
    rw [eb4]
    obtain ⟨q5, h⟩ := h
    refine z_getR fl_X4_88 rfl dX4_lacksGood_14 q5 ?_
    refine z_iload_n 2 dX4_lacksGood_17 rfl ?_
    obtain ⟨b6, eb6, h⟩ := h
    rw [eb6]
    obtain ⟨q7, h⟩ := h
    obtain ⟨q8, h⟩ := h
    obtain ⟨q9, h⟩ := h
    refine z_lald dX4_lacksGood_18 (n := (zK M b6).2) (Prod.ext q7 rfl) q8 q9 ?_
    refine z_aload_n 1 dX4_lacksGood_19 rfl ?_
    obtain ⟨q10, h⟩ := h
    refine z_getL fl_X4_56 dX4_lacksGood_20 q10 ?_
    refine z_lor dX4_lacksGood_23 ?_
    refine z_aload_n 0 dX4_lacksGood_24 rfl ?_
    obtain ⟨q11, h⟩ := h
    refine z_getR fl_X4_22 rfl dX4_lacksGood_25 q11 ?_
    obtain ⟨b12, eb12, h⟩ := h
    rw [eb12]
    obtain ⟨q13, h⟩ := h
    refine z_getR fl_X4_97 rfl dX4_lacksGood_28 q13 ?_
    refine z_aload_n 1 dX4_lacksGood_31 rfl ?_
    obtain ⟨q14, h⟩ := h
    refine z_getI fl_X4_94 dX4_lacksGood_32 q14 ?_
    obtain ⟨b15, eb15, h⟩ := h
    rw [eb15]
    obtain ⟨q16, h⟩ := h
    obtain ⟨q17, h⟩ := h
    obtain ⟨q18, h⟩ := h
    refine z_lald dX4_lacksGood_35 (n := (zK M b15).2) (Prod.ext q16 rfl) q17 q18 ?_
    refine z_land dX4_lacksGood_36 ?_
    refine z_lstore_n dX4_lacksGood_37 (by decide) rfl ?_
    refine z_lload_n 0 dX4_lacksGood_38 rfl ?_
    obtain ⟨P19, c20, h⟩ := h
    refine z_Si (as := [vL (((zL M b6 x2) ||| (zL M a1 1)) &&& (zL M b15 (zI M a1 6)))]) ms_X4_100 dX4_lacksGood_39 c20 rfl rfl (Nat.le_of_ble_eq_true rfl) (Nat.le_of_ble_eq_true rfl) (Nat.le_of_ble_eq_true rfl) (fun r22 M21 p23 => ?_)
    have h := h r22 M21 p23
    refine z_aload_n 1 dX4_lacksGood_42 rfl ?_
    obtain ⟨q24, h⟩ := h
    refine z_getR fl_X4_15 rfl dX4_lacksGood_43 q24 ?_
    refine z_aload_n 2 dX4_lacksGood_46 rfl ?_
    obtain ⟨q25, h⟩ := h
    refine z_getI fl_X4_94 dX4_lacksGood_47 q25 ?_
    obtain ⟨b26, eb26, h⟩ := h
    rw [eb26]
    obtain ⟨q27, h⟩ := h
    obtain ⟨q28, h⟩ := h
    obtain ⟨q29, h⟩ := h
    refine z_iald dX4_lacksGood_50 (n := (zK M21 b26).2) (Prod.ext q27 rfl) q28 q29 ?_
    refine z_icmp_le (tgt := 58) dX4_lacksGood_51 (by decide) (fun q30 => ?_) (fun q30 => ?_)
    · have h := h.1 q30
      refine z_iconst dX4_lacksGood_58 (by decide) ?_
      exact z_zret hr dX4_lacksGood_59 (Nat.le_of_ble_eq_true rfl) (Nat.le_of_ble_eq_true rfl) (by decide) ⟨_, rfl, h⟩
    · have h := h.2 q30
      refine z_iconst dX4_lacksGood_54 (by decide) ?_
      refine z_goto (tgt := 59) dX4_lacksGood_55 (by decide) ?_
      exact z_zret hr dX4_lacksGood_59 (Nat.le_of_ble_eq_true rfl) (Nat.le_of_ble_eq_true rfl) (by decide) ⟨_, rfl, h⟩
  · have h := h.2 q2
    refine z_iconst dX4_lacksGood_8 (by decide) ?_
    exact z_zret hr dX4_lacksGood_9 (Nat.le_of_ble_eq_true rfl) (Nat.le_of_ble_eq_true rfl) (by decide) ⟨_, rfl, h⟩
theorem sX4_lacksGood {E : zE} {d : Nat} {P : Int → zM → Prop} {M : zM} (a0 : Nat) (a1 : Nat) (x2 : Int) (h : ∀ X : zX, (xh X).sig.returnType = (some .boolean) → ZX4_lacksGood E d X P 0 [(0, vR (some a0)), (1, vR (some a1)), (2, vI x2)] [] M 0 0) : zCi E mX4_lacksGood (d + 1) 0 0 [vR (some a0), vR (some a1), vI x2] M P := z_start (f := mX4_lacksGood) rfl (Nat.le_of_ble_eq_true rfl) rfl h
abbrev ZX4_lacksRoom (E : zE) (d : Nat) (X : zX) (P : Int → zM → Prop) (pc : Nat) (Lc : List (Nat × zV)) (S : List zV) (M : zM) (ce sl : Nat) : Prop := zZ cX4_lacksRoom RX4 "lacksRoom" 5 E (zrm (d + 1) 0 0) X (zQ E (zPi P) X 0 0) pc Lc S M ce sl
set_option maxRecDepth 20000 in
theorem vX4_lacksRoom_0 {E : zE} {d : Nat} {X : zX} {P : Int → zM → Prop} {M : zM} (hr : (xh X).sig.returnType = (some .boolean)) (a0 : Nat) (a1 : Nat) (x2 : Int)
    (h : zK M a0 = (5, 5) ∧ ∃ b2, zR M a0 4 = some b2 ∧ zK M b2 = (1, 3) ∧ ∃ b4, zR M b2 0 = some b4 ∧ (zK M b4).1 = 11 ∧ 0 ≤ x2 ∧ x2 < ((zK M b4).2 : Int) ∧ zK M a1 = (6, 16) ∧ zK M a0 = (5, 5) ∧ ∃ b10, zR M a0 3 = some b10 ∧ zK M b10 = (3, 6) ∧ zK M a1 = (6, 16) ∧ ∃ b13, zR M b10 3 = some b13 ∧ (zK M b13).1 = 11 ∧ 0 ≤ (zI M a1 4) ∧ (zI M a1 4) < ((zK M b13).2 : Int) ∧ ∃ P17 : Int → zM → Prop, zCi E mJ13_bitCount_95d88 d 0 0 [vL (((zL M b4 x2) ||| (zL M a1 1)) &&& (zL M b13 (zI M a1 4)))] M P17 ∧ ∀ r20 M19, P17 r20 M19 → zK M19 a0 = (5, 5) ∧ ∃ b23, zR M19 a0 2 = some b23 ∧ zK M19 b23 = (2, 5) ∧ zK M19 a1 = (6, 16) ∧ ∃ b26, zR M19 b23 0 = some b26 ∧ (zK M19 b26).1 = 9 ∧ 0 ≤ (zI M19 a1 4) ∧ (zI M19 a1 4) < ((zK M19 b26).2 : Int) ∧ ((r20 ≤ (zI M19 b26 (zI M19 a1 4)) → P 0 M19) ∧ ((zI M19 b26 (zI M19 a1 4)) < r20 → P 1 M19))) :
    ZX4_lacksRoom E d X P 0 [(0, vR (some a0)), (1, vR (some a1)), (2, vI x2)] [] M 0 0 := by
  refine z_aload_n 0 dX4_lacksRoom_0 rfl ?_
  obtain ⟨q1, h⟩ := h
  refine z_getR fl_X4_26 rfl dX4_lacksRoom_1 q1 ?_
  obtain ⟨b2, eb2, h⟩ := h
  rw [eb2]
  obtain ⟨q3, h⟩ := h
  refine z_getR fl_X4_88 rfl dX4_lacksRoom_4 q3 ?_
  refine z_iload_n 2 dX4_lacksRoom_7 rfl ?_
  obtain ⟨b4, eb4, h⟩ := h
  rw [eb4]
  obtain ⟨q5, h⟩ := h
  obtain ⟨q6, h⟩ := h
  obtain ⟨q7, h⟩ := h
  refine z_lald dX4_lacksRoom_8 (n := (zK M b4).2) (Prod.ext q5 rfl) q6 q7 ?_
  refine z_aload_n 1 dX4_lacksRoom_9 rfl ?_
  obtain ⟨q8, h⟩ := h
  refine z_getL fl_X4_56 dX4_lacksRoom_10 q8 ?_
  refine z_lor dX4_lacksRoom_13 ?_
  refine z_aload_n 0 dX4_lacksRoom_14 rfl ?_
  obtain ⟨q9, h⟩ := h
  refine z_getR fl_X4_22 rfl dX4_lacksRoom_15 q9 ?_
  obtain ⟨b10, eb10, h⟩ := h
  rw [eb10]
  obtain ⟨q11, h⟩ := h
  refine z_getR fl_X4_106 rfl dX4_lacksRoom_18 q11 ?_
  refine z_aload_n 1 dX4_lacksRoom_21 rfl ?_
  obtain ⟨q12, h⟩ := h
  refine z_getI fl_X4_109 dX4_lacksRoom_22 q12 ?_
  obtain ⟨b13, eb13, h⟩ := h
  rw [eb13]
  obtain ⟨q14, h⟩ := h
  obtain ⟨q15, h⟩ := h
  obtain ⟨q16, h⟩ := h
  refine z_lald dX4_lacksRoom_25 (n := (zK M b13).2) (Prod.ext q14 rfl) q15 q16 ?_
  refine z_land dX4_lacksRoom_26 ?_
  refine z_lstore_n dX4_lacksRoom_27 (by decide) rfl ?_
  refine z_lload_n 0 dX4_lacksRoom_28 rfl ?_
  obtain ⟨P17, c18, h⟩ := h
  refine z_Si (as := [vL (((zL M b4 x2) ||| (zL M a1 1)) &&& (zL M b13 (zI M a1 4)))]) ms_X4_100 dX4_lacksRoom_29 c18 rfl rfl (Nat.le_of_ble_eq_true rfl) (Nat.le_of_ble_eq_true rfl) (Nat.le_of_ble_eq_true rfl) (fun r20 M19 p21 => ?_)
  have h := h r20 M19 p21
  refine z_aload_n 1 dX4_lacksRoom_32 rfl ?_
  obtain ⟨q22, h⟩ := h
  refine z_getR fl_X4_18 rfl dX4_lacksRoom_33 q22 ?_
  obtain ⟨b23, eb23, h⟩ := h
  rw [eb23]
  obtain ⟨q24, h⟩ := h
  refine z_getR fl_X4_112 rfl dX4_lacksRoom_36 q24 ?_
  refine z_aload_n 2 dX4_lacksRoom_39 rfl ?_
  obtain ⟨q25, h⟩ := h
  refine z_getI fl_X4_109 dX4_lacksRoom_40 q25 ?_
  obtain ⟨b26, eb26, h⟩ := h
  rw [eb26]
  obtain ⟨q27, h⟩ := h
  obtain ⟨q28, h⟩ := h
  obtain ⟨q29, h⟩ := h
  refine z_iald dX4_lacksRoom_43 (n := (zK M19 b26).2) (Prod.ext q27 rfl) q28 q29 ?_
  refine z_icmp_le (tgt := 51) dX4_lacksRoom_44 (by decide) (fun q30 => ?_) (fun q30 => ?_)
  · have h := h.1 q30
    refine z_iconst dX4_lacksRoom_51 (by decide) ?_
    exact z_zret hr dX4_lacksRoom_52 (Nat.le_of_ble_eq_true rfl) (Nat.le_of_ble_eq_true rfl) (by decide) ⟨_, rfl, h⟩
  · have h := h.2 q30
    refine z_iconst dX4_lacksRoom_47 (by decide) ?_
    refine z_goto (tgt := 52) dX4_lacksRoom_48 (by decide) ?_
    exact z_zret hr dX4_lacksRoom_52 (Nat.le_of_ble_eq_true rfl) (Nat.le_of_ble_eq_true rfl) (by decide) ⟨_, rfl, h⟩
theorem sX4_lacksRoom {E : zE} {d : Nat} {P : Int → zM → Prop} {M : zM} (a0 : Nat) (a1 : Nat) (x2 : Int) (h : ∀ X : zX, (xh X).sig.returnType = (some .boolean) → ZX4_lacksRoom E d X P 0 [(0, vR (some a0)), (1, vR (some a1)), (2, vI x2)] [] M 0 0) : zCi E mX4_lacksRoom (d + 1) 0 0 [vR (some a0), vR (some a1), vI x2] M P := z_start (f := mX4_lacksRoom) rfl (Nat.le_of_ble_eq_true rfl) rfl h
abbrev ZX4_meetsFoe (E : zE) (d : Nat) (X : zX) (P : Int → zM → Prop) (pc : Nat) (Lc : List (Nat × zV)) (S : List zV) (M : zM) (ce sl : Nat) : Prop := zZ cX4_meetsFoe RX4 "meetsFoe" 3 E (zrm (d + 1) 0 0) X (zQ E (zPi P) X 0 0) pc Lc S M ce sl
set_option maxRecDepth 20000 in
theorem vX4_meetsFoe_0 {E : zE} {d : Nat} {X : zX} {P : Int → zM → Prop} {M : zM} (hr : (xh X).sig.returnType = (some .boolean)) (a0 : Nat) (a1 : Nat) (x2 : Int)
    (h : zK M a0 = (5, 5) ∧ ∃ b2, zR M a0 4 = some b2 ∧ zK M b2 = (1, 3) ∧ ∃ b4, zR M b2 0 = some b4 ∧ (zK M b4).1 = 11 ∧ 0 ≤ x2 ∧ x2 < ((zK M b4).2 : Int) ∧ zK M a1 = (6, 16) ∧ (((if (0 : Int64) < ((zL M b4 x2) &&& (zL M a1 15)) then 1 else if ((zL M b4 x2) &&& (zL M a1 15)) = (0 : Int64) then 0 else -1) = 0 → P 0 M) ∧ ((if (0 : Int64) < ((zL M b4 x2) &&& (zL M a1 15)) then 1 else if ((zL M b4 x2) &&& (zL M a1 15)) = (0 : Int64) then 0 else -1) ≠ 0 → P 1 M))) :
    ZX4_meetsFoe E d X P 0 [(0, vR (some a0)), (1, vR (some a1)), (2, vI x2)] [] M 0 0 := by
  refine z_aload_n 0 dX4_meetsFoe_0 rfl ?_
  obtain ⟨q1, h⟩ := h
  refine z_getR fl_X4_26 rfl dX4_meetsFoe_1 q1 ?_
  obtain ⟨b2, eb2, h⟩ := h
  rw [eb2]
  obtain ⟨q3, h⟩ := h
  refine z_getR fl_X4_88 rfl dX4_meetsFoe_4 q3 ?_
  refine z_iload_n 2 dX4_meetsFoe_7 rfl ?_
  obtain ⟨b4, eb4, h⟩ := h
  rw [eb4]
  obtain ⟨q5, h⟩ := h
  obtain ⟨q6, h⟩ := h
  obtain ⟨q7, h⟩ := h
  refine z_lald dX4_meetsFoe_8 (n := (zK M b4).2) (Prod.ext q5 rfl) q6 q7 ?_
  refine z_aload_n 1 dX4_meetsFoe_9 rfl ?_
  obtain ⟨q8, h⟩ := h
  refine z_getL fl_X4_44 dX4_meetsFoe_10 q8 ?_
  refine z_land dX4_meetsFoe_13 ?_
  refine z_lconst (v := 0) dX4_meetsFoe_14 rfl ?_
  refine z_lcmp dX4_meetsFoe_15 ?_
  refine z_if_eq (tgt := 23) dX4_meetsFoe_16 (by decide) (fun q9 => ?_) (fun q9 => ?_)
  · have h := h.1 q9
    refine z_iconst dX4_meetsFoe_23 (by decide) ?_
    exact z_zret hr dX4_meetsFoe_24 (Nat.le_of_ble_eq_true rfl) (Nat.le_of_ble_eq_true rfl) (by decide) ⟨_, rfl, h⟩
  · have h := h.2 q9
    refine z_iconst dX4_meetsFoe_19 (by decide) ?_
    refine z_goto (tgt := 24) dX4_meetsFoe_20 (by decide) ?_
    exact z_zret hr dX4_meetsFoe_24 (Nat.le_of_ble_eq_true rfl) (Nat.le_of_ble_eq_true rfl) (by decide) ⟨_, rfl, h⟩
theorem sX4_meetsFoe {E : zE} {d : Nat} {P : Int → zM → Prop} {M : zM} (a0 : Nat) (a1 : Nat) (x2 : Int) (h : ∀ X : zX, (xh X).sig.returnType = (some .boolean) → ZX4_meetsFoe E d X P 0 [(0, vR (some a0)), (1, vR (some a1)), (2, vI x2)] [] M 0 0) : zCi E mX4_meetsFoe (d + 1) 0 0 [vR (some a0), vR (some a1), vI x2] M P := z_start (f := mX4_meetsFoe) rfl (Nat.le_of_ble_eq_true rfl) rfl h
abbrev ZX4_isFree (E : zE) (d : Nat) (X : zX) (P : Int → zM → Prop) (pc : Nat) (Lc : List (Nat × zV)) (S : List zV) (M : zM) (ce sl : Nat) : Prop := zZ cX4_isFree RX4 "isFree" 3 E (zrm (d + 1) 0 0) X (zQ E (zPi P) X 0 0) pc Lc S M ce sl
set_option maxRecDepth 20000 in
theorem vX4_isFree_0 {E : zE} {d : Nat} {X : zX} {P : Int → zM → Prop} {M : zM} (hr : (xh X).sig.returnType = (some .boolean)) (a0 : Nat) (a1 : Nat) (x2 : Int)
    (h : zK M a0 = (5, 5) ∧ ∃ P1 : Int → zM → Prop, zCi E mX4_lacksHands d 0 0 [vR (some a0), vR (some a1), vI x2] M P1 ∧ ∀ r4 M3, P1 r4 M3 → ((r4 ≠ 0 → P 0 M3) ∧ (r4 = 0 → zK M3 a0 = (5, 5) ∧ ∃ P8 : Int → zM → Prop, zCi E mX4_lacksGood d 0 0 [vR (some a0), vR (some a1), vI x2] M3 P8 ∧ ∀ r11 M10, P8 r11 M10 → ((r11 ≠ 0 → P 0 M10) ∧ (r11 = 0 → zK M10 a0 = (5, 5) ∧ ∃ P15 : Int → zM → Prop, zCi E mX4_lacksRoom d 0 0 [vR (some a0), vR (some a1), vI x2] M10 P15 ∧ ∀ r18 M17, P15 r18 M17 → ((r18 ≠ 0 → P 0 M17) ∧ (r18 = 0 → zK M17 a0 = (5, 5) ∧ ∃ P22 : Int → zM → Prop, zCi E mX4_meetsFoe d 0 0 [vR (some a0), vR (some a1), vI x2] M17 P22 ∧ ∀ r25 M24, P22 r25 M24 → ((r25 ≠ 0 → P 0 M24) ∧ (r25 = 0 → P 1 M24))))))))) :
    ZX4_isFree E d X P 0 [(0, vR (some a0)), (1, vR (some a1)), (2, vI x2)] [] M 0 0 := by
  refine z_aload_n 0 dX4_isFree_0 rfl ?_
  refine z_aload_n 1 dX4_isFree_1 rfl ?_
  refine z_iload_n 2 dX4_isFree_2 rfl ?_
  obtain ⟨q6, h⟩ := h
  obtain ⟨P1, c2, h⟩ := h
  refine z_Vi (as := [vR (some a1), vI x2]) mv_X4_66 dX4_isFree_3 c2 q6 rfl rfl (Nat.le_of_ble_eq_true rfl) (Nat.le_of_ble_eq_true rfl) (Nat.le_of_ble_eq_true rfl) (fun r4 M3 p5 => ?_)
  have h := h r4 M3 p5
  refine z_if_ne (tgt := 40) dX4_isFree_6 (by decide) (fun q7 => ?_) (fun q7 => ?_)
  · have h := h.1 q7
    refine z_iconst dX4_isFree_40 (by decide) ?_
    exact z_zret hr dX4_isFree_41 (Nat.le_of_ble_eq_true rfl) (Nat.le_of_ble_eq_true rfl) (by decide) ⟨_, rfl, h⟩
  · have h := h.2 q7
    refine z_aload_n 0 dX4_isFree_9 rfl ?_
    refine z_aload_n 1 dX4_isFree_10 rfl ?_
    refine z_iload_n 2 dX4_isFree_11 rfl ?_
    obtain ⟨q13, h⟩ := h
    obtain ⟨P8, c9, h⟩ := h
    refine z_Vi (as := [vR (some a1), vI x2]) mv_X4_70 dX4_isFree_12 c9 q13 rfl rfl (Nat.le_of_ble_eq_true rfl) (Nat.le_of_ble_eq_true rfl) (Nat.le_of_ble_eq_true rfl) (fun r11 M10 p12 => ?_)
    have h := h r11 M10 p12
    refine z_if_ne (tgt := 40) dX4_isFree_15 (by decide) (fun q14 => ?_) (fun q14 => ?_)
    · have h := h.1 q14
      refine z_iconst dX4_isFree_40 (by decide) ?_
      exact z_zret hr dX4_isFree_41 (Nat.le_of_ble_eq_true rfl) (Nat.le_of_ble_eq_true rfl) (by decide) ⟨_, rfl, h⟩
    · have h := h.2 q14
      refine z_aload_n 0 dX4_isFree_18 rfl ?_
      refine z_aload_n 1 dX4_isFree_19 rfl ?_
      refine z_iload_n 2 dX4_isFree_20 rfl ?_
      obtain ⟨q20, h⟩ := h
      obtain ⟨P15, c16, h⟩ := h
      refine z_Vi (as := [vR (some a1), vI x2]) mv_X4_73 dX4_isFree_21 c16 q20 rfl rfl (Nat.le_of_ble_eq_true rfl) (Nat.le_of_ble_eq_true rfl) (Nat.le_of_ble_eq_true rfl) (fun r18 M17 p19 => ?_)
      have h := h r18 M17 p19
      refine z_if_ne (tgt := 40) dX4_isFree_24 (by decide) (fun q21 => ?_) (fun q21 => ?_)
      · have h := h.1 q21
        refine z_iconst dX4_isFree_40 (by decide) ?_
        exact z_zret hr dX4_isFree_41 (Nat.le_of_ble_eq_true rfl) (Nat.le_of_ble_eq_true rfl) (by decide) ⟨_, rfl, h⟩
      · have h := h.2 q21
        refine z_aload_n 0 dX4_isFree_27 rfl ?_
        refine z_aload_n 1 dX4_isFree_28 rfl ?_
        refine z_iload_n 2 dX4_isFree_29 rfl ?_
        obtain ⟨q27, h⟩ := h
        obtain ⟨P22, c23, h⟩ := h
        refine z_Vi (as := [vR (some a1), vI x2]) mv_X4_76 dX4_isFree_30 c23 q27 rfl rfl (Nat.le_of_ble_eq_true rfl) (Nat.le_of_ble_eq_true rfl) (Nat.le_of_ble_eq_true rfl) (fun r25 M24 p26 => ?_)
        have h := h r25 M24 p26
        refine z_if_ne (tgt := 40) dX4_isFree_33 (by decide) (fun q28 => ?_) (fun q28 => ?_)
        · have h := h.1 q28
          refine z_iconst dX4_isFree_40 (by decide) ?_
          exact z_zret hr dX4_isFree_41 (Nat.le_of_ble_eq_true rfl) (Nat.le_of_ble_eq_true rfl) (by decide) ⟨_, rfl, h⟩
        · have h := h.2 q28
          refine z_iconst dX4_isFree_36 (by decide) ?_
          refine z_goto (tgt := 41) dX4_isFree_37 (by decide) ?_
          exact z_zret hr dX4_isFree_41 (Nat.le_of_ble_eq_true rfl) (Nat.le_of_ble_eq_true rfl) (by decide) ⟨_, rfl, h⟩
theorem sX4_isFree {E : zE} {d : Nat} {P : Int → zM → Prop} {M : zM} (a0 : Nat) (a1 : Nat) (x2 : Int) (h : ∀ X : zX, (xh X).sig.returnType = (some .boolean) → ZX4_isFree E d X P 0 [(0, vR (some a0)), (1, vR (some a1)), (2, vI x2)] [] M 0 0) : zCi E mX4_isFree (d + 1) 0 0 [vR (some a0), vR (some a1), vI x2] M P := z_start (f := mX4_isFree) rfl (Nat.le_of_ble_eq_true rfl) rfl h
abbrev ZX4_leastBroken (E : zE) (d : Nat) (X : zX) (P : Int → zM → Prop) (pc : Nat) (Lc : List (Nat × zV)) (S : List zV) (M : zM) (ce sl : Nat) : Prop := zZ cX4_leastBroken RX4 "leastBroken" 3 E (zrm (d + 1) 0 0) X (zQ E (zPi P) X 0 0) pc Lc S M ce sl
set_option maxRecDepth 20000 in
theorem vX4_leastBroken_0 {E : zE} {d : Nat} {X : zX} {P : Int → zM → Prop} {M : zM} (hr : (xh X).sig.returnType = (some .int)) (a0 : Nat) (a1 : Nat)
    (h : ZX4_leastBroken E d X P 2 [(0, vR (some a0)), (1, vR (some a1)), (2, vI 1)] [] M 0 0) :
    ZX4_leastBroken E d X P 0 [(0, vR (some a0)), (1, vR (some a1))] [] M 0 0 := by
  refine z_iconst dX4_leastBroken_0 (by decide) ?_
  refine z_istore_n dX4_leastBroken_1 (by decide) rfl ?_
  exact z_sub [1, 2, 0] rfl h
set_option maxRecDepth 20000 in
theorem vX4_leastBroken_2 {E : zE} {d : Nat} {X : zX} {P : Int → zM → Prop} {M : zM} (hr : (xh X).sig.returnType = (some .int)) (a0 : Nat) (a1 : Nat) (x2 : Int)
    (h : ((5 < x2 → P (-1) M) ∧ (x2 ≤ 5 → zK M a0 = (5, 5) ∧ ∃ P2 : Int → zM → Prop, zCi E mX4_leastShift d 0 0 [vR (some a0), vR (some a1), vI x2] M P2 ∧ ∀ r5 M4, P2 r5 M4 → ((r5 = (-1) → zin (x2 + 1) ∧ ZX4_leastBroken E d X P 2 [(0, vR (some a0)), (1, vR (some a1)), (2, vI (x2 + 1))] [] M4 0 0) ∧ (r5 ≠ (-1) → P x2 M4))))) :
    ZX4_leastBroken E d X P 2 [(0, vR (some a0)), (1, vR (some a1)), (2, vI x2)] [] M 0 0 := by
  refine z_iload_n 2 dX4_leastBroken_2 rfl ?_
  refine z_iconst dX4_leastBroken_3 (by decide) ?_
  refine z_icmp_gt (tgt := 25) dX4_leastBroken_4 (by decide) (fun q1 => ?_) (fun q1 => ?_)
  · have h := h.1 q1
    refine z_iconst dX4_leastBroken_25 (by decide) ?_
    exact z_iret hr dX4_leastBroken_26 (Nat.le_of_ble_eq_true rfl) (Nat.le_of_ble_eq_true rfl) ⟨_, rfl, h⟩
  · have h := h.2 q1
    refine z_aload_n 0 dX4_leastBroken_7 rfl ?_
    refine z_aload_n 1 dX4_leastBroken_8 rfl ?_
    refine z_iload_n 2 dX4_leastBroken_9 rfl ?_
    obtain ⟨q7, h⟩ := h
    obtain ⟨P2, c3, h⟩ := h
    refine z_Vi (as := [vR (some a1), vI x2]) mv_X4_115 dX4_leastBroken_10 c3 q7 rfl rfl (Nat.le_of_ble_eq_true rfl) (Nat.le_of_ble_eq_true rfl) (Nat.le_of_ble_eq_true rfl) (fun r5 M4 p6 => ?_)
    have h := h r5 M4 p6
    refine z_iconst dX4_leastBroken_13 (by decide) ?_
    refine z_icmp_eq (tgt := 19) dX4_leastBroken_14 (by decide) (fun q8 => ?_) (fun q8 => ?_)
    · have h := h.1 q8
      obtain ⟨q9, h⟩ := h
      refine z_iinc 2 dX4_leastBroken_19 rfl (by decide) q9 rfl ?_
      refine z_goto (tgt := 2) dX4_leastBroken_22 (by decide) ?_
      exact z_sub [1, 2, 0] rfl h
    · have h := h.2 q8
      refine z_iload_n 2 dX4_leastBroken_17 rfl ?_
      exact z_iret hr dX4_leastBroken_18 (Nat.le_of_ble_eq_true rfl) (Nat.le_of_ble_eq_true rfl) ⟨_, rfl, h⟩
theorem sX4_leastBroken {E : zE} {d : Nat} {P : Int → zM → Prop} {M : zM} (a0 : Nat) (a1 : Nat) (h : ∀ X : zX, (xh X).sig.returnType = (some .int) → ZX4_leastBroken E d X P 0 [(0, vR (some a0)), (1, vR (some a1))] [] M 0 0) : zCi E mX4_leastBroken (d + 1) 0 0 [vR (some a0), vR (some a1)] M P := z_start (f := mX4_leastBroken) rfl (Nat.le_of_ble_eq_true rfl) rfl h
abbrev ZX4_leastShift (E : zE) (d : Nat) (X : zX) (P : Int → zM → Prop) (pc : Nat) (Lc : List (Nat × zV)) (S : List zV) (M : zM) (ce sl : Nat) : Prop := zZ cX4_leastShift RX4 "leastShift" 4 E (zrm (d + 1) 0 0) X (zQ E (zPi P) X 0 0) pc Lc S M ce sl
set_option maxRecDepth 20000 in
theorem vX4_leastShift_0 {E : zE} {d : Nat} {X : zX} {P : Int → zM → Prop} {M : zM} (hr : (xh X).sig.returnType = (some .int)) (a0 : Nat) (a1 : Nat) (x2 : Int)
    (h : zK M a1 = (6, 16) ∧ ∃ P1 : Int → zM → Prop, zCi E mX5_isOpen d 0 0 [vR (some a1)] M P1 ∧ ∀ r4 M3, P1 r4 M3 → ((r4 = 0 → zK M3 a1 = (6, 16) ∧ ZX4_leastShift E d X P 14 [(0, vR (some a0)), (1, vR (some a1)), (2, vI x2), (3, vI (zI M3 a1 8))] [] M3 0 0) ∧ (r4 ≠ 0 → P (-1) M3))) :
    ZX4_leastShift E d X P 0 [(0, vR (some a0)), (1, vR (some a1)), (2, vI x2)] [] M 0 0 := by
  refine z_aload_n 1 dX4_leastShift_0 rfl ?_
  obtain ⟨q6, h⟩ := h
  obtain ⟨P1, c2, h⟩ := h
  refine z_Vi (as := []) mv_X4_119 dX4_leastShift_1 c2 q6 rfl rfl (Nat.le_of_ble_eq_true rfl) (Nat.le_of_ble_eq_true rfl) (Nat.le_of_ble_eq_true rfl) (fun r4 M3 p5 => ?_)
  have h := h r4 M3 p5
  refine z_if_eq (tgt := 9) dX4_leastShift_4 (by decide) (fun q7 => ?_) (fun q7 => ?_)
  · have h := h.1 q7
    refine z_aload_n 1 dX4_leastShift_9 rfl ?_
    obtain ⟨q8, h⟩ := h
    refine z_getI fl_X4_59 dX4_leastShift_10 q8 ?_
    refine z_istore_n dX4_leastShift_13 (by decide) rfl ?_
    exact z_sub [1, 2, 3, 0] rfl h
  · have h := h.2 q7
    refine z_iconst dX4_leastShift_7 (by decide) ?_
    exact z_iret hr dX4_leastShift_8 (Nat.le_of_ble_eq_true rfl) (Nat.le_of_ble_eq_true rfl) ⟨_, rfl, h⟩
set_option maxRecDepth 20000 in
theorem vX4_leastShift_14 {E : zE} {d : Nat} {X : zX} {P : Int → zM → Prop} {M : zM} (hr : (xh X).sig.returnType = (some .int)) (a0 : Nat) (a1 : Nat) (x2 : Int) (x3 : Int)
    (h : zK M a1 = (6, 16) ∧ ∃ P1 : Int → zM → Prop, zCi E mX5_behind d 0 0 [vR (some a1)] M P1 ∧ ∀ r4 M3, P1 r4 M3 → ((r4 ≤ x3 → P (-1) M3) ∧ (x3 < r4 → zK M3 a0 = (5, 5) ∧ ∃ P8 : Int → zM → Prop, zCi E mX4_isBroken d 0 0 [vR (some a0), vR (some a1), vI x2, vI x3] M3 P8 ∧ ∀ r11 M10, P8 r11 M10 → ((r11 = 0 → zin (x3 + 1) ∧ ZX4_leastShift E d X P 14 [(0, vR (some a0)), (1, vR (some a1)), (2, vI x2), (3, vI (x3 + 1))] [] M10 0 0) ∧ (r11 ≠ 0 → P x3 M10))))) :
    ZX4_leastShift E d X P 14 [(0, vR (some a0)), (1, vR (some a1)), (2, vI x2), (3, vI x3)] [] M 0 0 := by
  refine z_iload_n 3 dX4_leastShift_14 rfl ?_
  refine z_aload_n 1 dX4_leastShift_15 rfl ?_
  obtain ⟨q6, h⟩ := h
  obtain ⟨P1, c2, h⟩ := h
  refine z_Vi (as := []) mv_X4_123 dX4_leastShift_16 c2 q6 rfl rfl (Nat.le_of_ble_eq_true rfl) (Nat.le_of_ble_eq_true rfl) (Nat.le_of_ble_eq_true rfl) (fun r4 M3 p5 => ?_)
  have h := h r4 M3 p5
  refine z_icmp_ge (tgt := 40) dX4_leastShift_19 (by decide) (fun q7 => ?_) (fun q7 => ?_)
  · have h := h.1 q7
    refine z_iconst dX4_leastShift_40 (by decide) ?_
    exact z_iret hr dX4_leastShift_41 (Nat.le_of_ble_eq_true rfl) (Nat.le_of_ble_eq_true rfl) ⟨_, rfl, h⟩
  · have h := h.2 q7
    refine z_aload_n 0 dX4_leastShift_22 rfl ?_
    refine z_aload_n 1 dX4_leastShift_23 rfl ?_
    refine z_iload_n 2 dX4_leastShift_24 rfl ?_
    refine z_iload_n 3 dX4_leastShift_25 rfl ?_
    obtain ⟨q13, h⟩ := h
    obtain ⟨P8, c9, h⟩ := h
    refine z_Vi (as := [vR (some a1), vI x2, vI x3]) mv_X4_127 dX4_leastShift_26 c9 q13 rfl rfl (Nat.le_of_ble_eq_true rfl) (Nat.le_of_ble_eq_true rfl) (Nat.le_of_ble_eq_true rfl) (fun r11 M10 p12 => ?_)
    have h := h r11 M10 p12
    refine z_if_eq (tgt := 34) dX4_leastShift_29 (by decide) (fun q14 => ?_) (fun q14 => ?_)
    · have h := h.1 q14
      obtain ⟨q15, h⟩ := h
      refine z_iinc 3 dX4_leastShift_34 rfl (by decide) q15 rfl ?_
      refine z_goto (tgt := 14) dX4_leastShift_37 (by decide) ?_
      exact z_sub [1, 2, 3, 0] rfl h
    · have h := h.2 q14
      refine z_iload_n 3 dX4_leastShift_32 rfl ?_
      exact z_iret hr dX4_leastShift_33 (Nat.le_of_ble_eq_true rfl) (Nat.le_of_ble_eq_true rfl) ⟨_, rfl, h⟩
theorem sX4_leastShift {E : zE} {d : Nat} {P : Int → zM → Prop} {M : zM} (a0 : Nat) (a1 : Nat) (x2 : Int) (h : ∀ X : zX, (xh X).sig.returnType = (some .int) → ZX4_leastShift E d X P 0 [(0, vR (some a0)), (1, vR (some a1)), (2, vI x2)] [] M 0 0) : zCi E mX4_leastShift (d + 1) 0 0 [vR (some a0), vR (some a1), vI x2] M P := z_start (f := mX4_leastShift) rfl (Nat.le_of_ble_eq_true rfl) rfl h
abbrev ZX4_firstPlace (E : zE) (d : Nat) (X : zX) (P : Int → zM → Prop) (pc : Nat) (Lc : List (Nat × zV)) (S : List zV) (M : zM) (ce sl : Nat) : Prop := zZ cX4_firstPlace RX4 "firstPlace" 6 E (zrm (d + 1) 0 0) X (zQ E (zPi P) X 0 0) pc Lc S M ce sl
set_option maxRecDepth 20000 in
theorem vX4_firstPlace_0 {E : zE} {d : Nat} {X : zX} {P : Int → zM → Prop} {M : zM} (hr : (xh X).sig.returnType = (some .int)) (a0 : Nat) (a1 : Nat) (x2 : Int)
    (h : zK M a0 = (5, 5) ∧ ∃ b2, zR M a0 3 = some b2 ∧ zK M b2 = (3, 6) ∧ ∃ P3 : Int → zM → Prop, zCi E mX2_dueBy d 0 0 [vR (some b2), vR (some a1)] M P3 ∧ ∀ r6 M5, P3 r6 M5 → zK M5 a0 = (5, 5) ∧ ∃ b10, zR M5 a0 4 = some b10 ∧ zK M5 b10 = (1, 3) ∧ zK M5 a0 = (5, 5) ∧ ∃ b13, zR M5 a0 3 = some b13 ∧ zK M5 b13 = (3, 6) ∧ ∃ P14 : Int → zM → Prop, zCi E mX2_readyFrom d 0 0 [vR (some b13), vR (some a1)] M5 P14 ∧ ∀ r17 M16, P14 r17 M16 → ZX4_firstPlace E d X P 36 [(0, vR (some a0)), (1, vR (some a1)), (2, vI x2), (3, vI r6), (4, vI 0), (5, vI (max (max x2 (zI M5 b10 2)) r17))] [] M16 0 0) :
    ZX4_firstPlace E d X P 0 [(0, vR (some a0)), (1, vR (some a1)), (2, vI x2)] [] M 0 0 := by
  refine z_aload_n 0 dX4_firstPlace_0 rfl ?_
  obtain ⟨q1, h⟩ := h
  refine z_getR fl_X4_22 rfl dX4_firstPlace_1 q1 ?_
  refine z_aload_n 1 dX4_firstPlace_4 rfl ?_
  obtain ⟨b2, eb2, h⟩ := h
  rw [eb2]
  obtain ⟨q8, h⟩ := h
  obtain ⟨P3, c4, h⟩ := h
  refine z_Vi (as := [vR (some a1)]) mv_X4_131 dX4_firstPlace_5 c4 q8 rfl rfl (Nat.le_of_ble_eq_true rfl) (Nat.le_of_ble_eq_true rfl) (Nat.le_of_ble_eq_true rfl) (fun r6 M5 p7 => ?_)
  have h := h r6 M5 p7
  refine z_istore_n dX4_firstPlace_8 (by decide) rfl ?_
  refine z_iconst dX4_firstPlace_9 (by decide) ?_
  refine z_istore dX4_firstPlace_10 (by decide) rfl ?_
  refine z_iload_n 4 dX4_firstPlace_12 rfl ?_
  refine z_aload_n 2 dX4_firstPlace_13 rfl ?_
  obtain ⟨q9, h⟩ := h
  refine z_getR fl_X4_26 rfl dX4_firstPlace_14 q9 ?_
  obtain ⟨b10, eb10, h⟩ := h
  rw [eb10]
  obtain ⟨q11, h⟩ := h
  refine z_getI fl_X4_134 dX4_firstPlace_17 q11 ?_
  refine z_max mm_X4_137 dX4_firstPlace_20 (Nat.le_of_ble_eq_true rfl) zr3 zr4 (Nat.le_of_ble_eq_true rfl) (Nat.le_of_ble_eq_true rfl) ?_
  refine z_aload_n 2 dX4_firstPlace_23 rfl ?_
  obtain ⟨q12, h⟩ := h
  refine z_getR fl_X4_22 rfl dX4_firstPlace_24 q12 ?_
  refine z_aload_n 3 dX4_firstPlace_27 rfl ?_
  obtain ⟨b13, eb13, h⟩ := h
  rw [eb13]
  obtain ⟨q19, h⟩ := h
  obtain ⟨P14, c15, h⟩ := h
  refine z_Vi (as := [vR (some a1)]) mv_X4_62 dX4_firstPlace_28 c15 q19 rfl rfl (Nat.le_of_ble_eq_true rfl) (Nat.le_of_ble_eq_true rfl) (Nat.le_of_ble_eq_true rfl) (fun r17 M16 p18 => ?_)
  have h := h r17 M16 p18
  refine z_max mm_X4_137 dX4_firstPlace_31 (Nat.le_of_ble_eq_true rfl) zr3 zr4 (Nat.le_of_ble_eq_true rfl) (Nat.le_of_ble_eq_true rfl) ?_
  refine z_istore dX4_firstPlace_34 (by decide) rfl ?_
  exact z_sub [3, 4, 5, 2, 1, 0] rfl h
set_option maxRecDepth 20000 in
theorem vX4_firstPlace_36 {E : zE} {d : Nat} {X : zX} {P : Int → zM → Prop} {M : zM} (hr : (xh X).sig.returnType = (some .int)) (a0 : Nat) (a1 : Nat) (x2 : Int) (x3 : Int) (x4 : Int) (x5 : Int)
    (h : ((x3 ≤ x5 → P (-1) M) ∧ (x5 < x3 → zK M a0 = (5, 5) ∧ ∃ P2 : Int → zM → Prop, zCi E mX4_isFree d 0 0 [vR (some a0), vR (some a1), vI x5] M P2 ∧ ∀ r5 M4, P2 r5 M4 → ((r5 = 0 → zK M4 a1 = (6, 16) ∧ ((0 ≠ (zI M4 a1 7) → zin (x5 + 1) ∧ ZX4_firstPlace E d X P 36 [(0, vR (some a0)), (1, vR (some a1)), (2, vI x2), (3, vI x3), (4, vI 0), (5, vI (x5 + 1))] [] M4 0 0) ∧ (0 = (zI M4 a1 7) → zK M4 a1 = (6, 16) ∧ zin (x5 - (zI M4 a1 7)) ∧ zin ((x5 - (zI M4 a1 7)) + 1) ∧ P ((x5 - (zI M4 a1 7)) + 1) M4))) ∧ (r5 ≠ 0 → zin (x4 + 1) ∧ zK M4 a1 = (6, 16) ∧ (((x4 + 1) ≠ (zI M4 a1 7) → zin (x5 + 1) ∧ ZX4_firstPlace E d X P 36 [(0, vR (some a0)), (1, vR (some a1)), (2, vI x2), (3, vI x3), (4, vI (x4 + 1)), (5, vI (x5 + 1))] [] M4 0 0) ∧ ((x4 + 1) = (zI M4 a1 7) → zK M4 a1 = (6, 16) ∧ zin (x5 - (zI M4 a1 7)) ∧ zin ((x5 - (zI M4 a1 7)) + 1) ∧ P ((x5 - (zI M4 a1 7)) + 1) M4))))))) :
    ZX4_firstPlace E d X P 36 [(0, vR (some a0)), (1, vR (some a1)), (2, vI x2), (3, vI x3), (4, vI x4), (5, vI x5)] [] M 0 0 := by
  refine z_iload 5 dX4_firstPlace_36 rfl ?_
  refine z_iload_n 3 dX4_firstPlace_38 rfl ?_
  refine z_icmp_ge (tgt := 87) dX4_firstPlace_39 (by decide) (fun q1 => ?_) (fun q1 => ?_)
  · have h := h.1 q1
    refine z_iconst dX4_firstPlace_87 (by decide) ?_
    exact z_iret hr dX4_firstPlace_88 (Nat.le_of_ble_eq_true rfl) (Nat.le_of_ble_eq_true rfl) ⟨_, rfl, h⟩
  · have h := h.2 q1
    refine z_aload_n 0 dX4_firstPlace_42 rfl ?_
    refine z_aload_n 1 dX4_firstPlace_43 rfl ?_
    refine z_iload 5 dX4_firstPlace_44 rfl ?_
    obtain ⟨q7, h⟩ := h
    obtain ⟨P2, c3, h⟩ := h
    refine z_Vi (as := [vR (some a1), vI x5]) mv_X4_143 dX4_firstPlace_46 c3 q7 rfl rfl (Nat.le_of_ble_eq_true rfl) (Nat.le_of_ble_eq_true rfl) (Nat.le_of_ble_eq_true rfl) (fun r5 M4 p6 => ?_)
    have h := h r5 M4 p6
    refine z_if_eq (tgt := 59) dX4_firstPlace_49 (by decide) (fun q8 => ?_) (fun q8 => ?_)
    · have h := h.1 q8
      refine z_iconst dX4_firstPlace_59 (by decide) ?_
      refine z_istore dX4_firstPlace_60 (by decide) rfl ?_
      refine z_iload 0 dX4_firstPlace_62 rfl ?_
      refine z_aload_n 2 dX4_firstPlace_64 rfl ?_
      obtain ⟨q9, h⟩ := h
      refine z_getI fl_X4_146 dX4_firstPlace_65 q9 ?_
      refine z_icmp_ne (tgt := 81) dX4_firstPlace_68 (by decide) (fun q10 => ?_) (fun q10 => ?_)
      · have h := h.1 q10
        obtain ⟨q11, h⟩ := h
        refine z_iinc 5 dX4_firstPlace_81 rfl (by decide) q11 rfl ?_
        refine z_goto (tgt := 36) dX4_firstPlace_84 (by decide) ?_
        exact z_sub [2, 3, 4, 5, 1, 0] rfl h
      · have h := h.2 q10
        refine z_iload 5 dX4_firstPlace_71 rfl ?_
        refine z_aload_n 2 dX4_firstPlace_73 rfl ?_
        obtain ⟨q12, h⟩ := h
        refine z_getI fl_X4_146 dX4_firstPlace_74 q12 ?_
        obtain ⟨q13, h⟩ := h
        refine z_isub dX4_firstPlace_77 q13 ?_
        refine z_iconst dX4_firstPlace_78 (by decide) ?_
        obtain ⟨q14, h⟩ := h
        refine z_iadd dX4_firstPlace_79 q14 ?_
        exact z_iret hr dX4_firstPlace_80 (Nat.le_of_ble_eq_true rfl) (Nat.le_of_ble_eq_true rfl) ⟨_, rfl, h⟩
    · have h := h.2 q8
      refine z_iload 4 dX4_firstPlace_52 rfl ?_
      refine z_iconst dX4_firstPlace_54 (by decide) ?_
      obtain ⟨q15, h⟩ := h
      refine z_iadd dX4_firstPlace_55 q15 ?_
      refine z_goto (tgt := 60) dX4_firstPlace_56 (by decide) ?_
      refine z_istore dX4_firstPlace_60 (by decide) rfl ?_
      refine z_iload 0 dX4_firstPlace_62 rfl ?_
      refine z_aload_n 2 dX4_firstPlace_64 rfl ?_
      obtain ⟨q16, h⟩ := h
      refine z_getI fl_X4_146 dX4_firstPlace_65 q16 ?_
      refine z_icmp_ne (tgt := 81) dX4_firstPlace_68 (by decide) (fun q17 => ?_) (fun q17 => ?_)
      · have h := h.1 q17
        obtain ⟨q18, h⟩ := h
        refine z_iinc 5 dX4_firstPlace_81 rfl (by decide) q18 rfl ?_
        refine z_goto (tgt := 36) dX4_firstPlace_84 (by decide) ?_
        exact z_sub [2, 3, 4, 5, 1, 0] rfl h
      · have h := h.2 q17
        refine z_iload 5 dX4_firstPlace_71 rfl ?_
        refine z_aload_n 2 dX4_firstPlace_73 rfl ?_
        obtain ⟨q19, h⟩ := h
        refine z_getI fl_X4_146 dX4_firstPlace_74 q19 ?_
        obtain ⟨q20, h⟩ := h
        refine z_isub dX4_firstPlace_77 q20 ?_
        refine z_iconst dX4_firstPlace_78 (by decide) ?_
        obtain ⟨q21, h⟩ := h
        refine z_iadd dX4_firstPlace_79 q21 ?_
        exact z_iret hr dX4_firstPlace_80 (Nat.le_of_ble_eq_true rfl) (Nat.le_of_ble_eq_true rfl) ⟨_, rfl, h⟩
theorem sX4_firstPlace {E : zE} {d : Nat} {P : Int → zM → Prop} {M : zM} (a0 : Nat) (a1 : Nat) (x2 : Int) (h : ∀ X : zX, (xh X).sig.returnType = (some .int) → ZX4_firstPlace E d X P 0 [(0, vR (some a0)), (1, vR (some a1)), (2, vI x2)] [] M 0 0) : zCi E mX4_firstPlace (d + 1) 0 0 [vR (some a0), vR (some a1), vI x2] M P := z_start (f := mX4_firstPlace) rfl (Nat.le_of_ble_eq_true rfl) rfl h
